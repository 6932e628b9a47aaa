import java.util.Random;

/** Random chapels: fine ones, and ones that are spoilt at a place. */
final class Texts {
    private final Random random;
    private int unitsLeft;

    Texts(Random random) {
        this.random = random;
    }

    String fine(int mostHearths, int mostStools) {
        return whole(random.nextInt(mostHearths + 1), random.nextInt(mostStools + 1));
    }

    /** A chapel of just so many; small numbers make loads that are just as much as a strength. */
    String whole(int hearths, int stools) {
        StringBuilder b = new StringBuilder();
        int top = new int[] {6, 30, 100}[random.nextInt(3)];
        for (int h = 0; h < hearths; h++) {
            b.append("hearth ").append(name(h)).append(" at ").append(random.nextInt(100));
            b.append(" heavy ").append(random.nextInt(top));
            if (random.nextInt(3) > 0) {
                b.append(" room ").append(1 + random.nextInt(5));
            }
            if (random.nextBoolean()) {
                b.append(" warm ").append(random.nextInt(10));
            }
            b.append(end());
        }
        int creeds = 1 + random.nextInt(3);
        for (int s = 0; s < stools; s++) {
            b.append("stool ").append(name(s)).append(" at ").append(random.nextInt(100));
            b.append(" strong ").append(random.nextInt(top));
            if (random.nextBoolean()) {
                b.append(" creed ").append(random.nextInt(creeds));
            }
            if (random.nextBoolean()) {
                b.append(" dent ").append(random.nextInt(random.nextBoolean() ? 10 : 100));
            }
            b.append(end());
        }
        if (random.nextBoolean()) {
            b.append("bears ").append(formula()).append(end());
        }
        if (random.nextBoolean()) {
            b.append("wears ").append(formula()).append(end());
        }
        if (random.nextInt(4) > 0) {
            b.append("saves ").append(1 + random.nextInt(random.nextInt(4) == 0 ? 99 : 6)).append(end());
        }
        if (random.nextInt(3) > 0) {
            b.append("cold ").append(random.nextInt(101)).append(end());
        }
        if (random.nextInt(3) > 0) {
            b.append("draw ").append(random.nextInt(1000)).append(end());
        }
        return b.toString();
    }

    private String end() {
        return random.nextBoolean() ? ";" : random.nextBoolean() ? " ;\n" : "; ";
    }

    private static String name(int i) {
        return new String[] {"a", "bc", "one", "abcdefgh", "sum", "z"}[i];
    }

    private String formula() {
        unitsLeft = 12;
        return e(0);
    }

    private String e(int deep) {
        String s = both(deep);
        return random.nextInt(6) == 0 && unitsLeft > 0 ? s + " or " + both(deep) : s;
    }

    private String both(int deep) {
        String s = one(deep);
        return random.nextInt(6) == 0 && unitsLeft > 0 ? s + " and " + one(deep) : s;
    }

    private String one(int deep) {
        if (random.nextInt(8) == 0 && deep < 6) {
            return "not " + one(deep + 1);
        }
        String s = sum(deep);
        return random.nextInt(5) == 0 && unitsLeft > 0 ? s + "<>=".charAt(random.nextInt(3)) + sum(deep) : s;
    }

    private String sum(int deep) {
        String s = term(deep);
        return random.nextInt(2) == 0 && unitsLeft > 0 ? s + "+-".charAt(random.nextInt(2)) + term(deep) : s;
    }

    private String term(int deep) {
        String s = unit(deep);
        return random.nextInt(3) == 0 && unitsLeft > 0 ? s + "*/%".charAt(random.nextInt(3)) + unit(deep) : s;
    }

    private String unit(int deep) {
        unitsLeft--;
        int kind = random.nextInt(10);
        if (kind == 0 && deep < 6 && unitsLeft > 0) {
            return "(" + e(deep + 1) + ")";
        }
        if (kind < 4) {
            return String.valueOf(random.nextInt(random.nextInt(4) == 0 ? 10000 : 12));
        }
        return new String[] {"heavy", "many", "warm", "dent", "strong", "day", "heavy"}[random.nextInt(7)];
    }

    private static final String[] SNIPPETS = {"hearth ", "at ", "heavy ", "room ", "warm ", "stool ", "strong ", "creed ",
        "dent ", "bears ", "wears ", "saves ", "cold ", "draw ", " or ", " and ", " not ", " many ", " day ", ";", "(", ")",
        "<", ">", "=", "+", "-", "*", "/", "%", "0", "7", "99", "100", "1000", "9999", "10000", "12a", "abcdefghi", "a", "A",
        "\t", "\n", "((((", "not not not not ", "1+1+1+1+1+1+1+1+", "\u00e9"};

    /** The text with some bytes or words put in, left out or cut off. */
    String spoilt(String text) {
        StringBuilder b = new StringBuilder(text);
        int times = 1 + random.nextInt(2);
        for (int i = 0; i < times; i++) {
            int at = random.nextInt(b.length() + 1);
            int kind = random.nextInt(4);
            if (kind == 0) {
                b.setLength(at);
            } else if (kind == 1 && at < b.length()) {
                b.deleteCharAt(at);
            } else if (kind == 2 && at < b.length()) {
                b.setCharAt(at, (char) (random.nextInt(3) == 0 ? random.nextInt(256) : "az019 ;(".charAt(random.nextInt(8))));
            } else {
                b.insert(at, SNIPPETS[random.nextInt(SNIPPETS.length)]);
            }
        }
        return b.toString();
    }
}
