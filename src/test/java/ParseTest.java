import java.util.Random;

/** Spoilt texts: the class and the naive model find the same fault at the same place, and the same chapel if there is none. */
public final class ParseTest {
    private static final int TEXTS = 40000;

    public static void main(String[] args) {
        Checks checks = new Checks();
        Random random = new Random(7);
        Texts texts = new Texts(random);
        int[] faults = new int[5];
        for (int i = 0; i < TEXTS; i++) {
            FaithfulStools x = new FaithfulStools();
            String text = random.nextInt(10) == 0 ? noise(random) : texts.spoilt(texts.fine(6, 5));
            byte[] bytes = text.getBytes(java.nio.charset.StandardCharsets.ISO_8859_1);
            if (bytes.length > 1600) {
                continue;
            }
            int fault = 0;
            int place = -1;
            Model.Text want = null;
            try {
                want = new Model.Parser(bytes).parse();
            } catch (Model.Fault f) {
                fault = f.fault;
                place = f.place;
            }
            faults[fault]++;
            checks.due("chapel of " + text, Checks.tell(x, text), want == null ? -1 : want.stools.size());
            checks.due("fault of " + text, x.fault(0), fault);
            checks.due("place of " + text, x.fault(1), place);
            if (want != null) {
                checks.due("hearths of " + text, x.about(1), want.hearths.size());
                checks.due("saves of " + text, x.about(2), want.saves);
                checks.due("cold of " + text, x.about(3), want.cold);
                checks.due("seed of " + text, x.about(5), want.draw);
                checks.due("units of " + text, x.about(11), want.units);
            }
        }
        for (int fault = 0; fault < faults.length; fault++) {
            checks.due("texts with fault " + fault + " are many", faults[fault] > 50, true);
        }
        checks.close("ParseTest");
    }

    private static String noise(Random random) {
        StringBuilder b = new StringBuilder();
        int length = random.nextInt(60);
        for (int i = 0; i < length; i++) {
            b.append((char) random.nextInt(256));
        }
        return b.toString();
    }
}
