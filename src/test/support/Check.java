/** What the tests share: they compare answers, count the wrong ones, and tell texts letter by letter. */
final class Check {
    private static int made = 0;
    private static int wrong = 0;

    private Check() {
    }

    static void due(String what, long got, long want) {
        made++;
        if (got != want) {
            wrong++;
            if (wrong <= 50) {
                System.out.println(what + " answered " + got + ", due is " + want);
            }
        }
    }

    static void holds(String what, boolean right) {
        due(what, right ? 1 : 0, 1);
    }

    static int wrongSoFar() {
        return wrong;
    }

    static void write(MotionStates x, String text) {
        int before = x.count(10);
        for (int i = 0; i < text.length(); i++) {
            due("write of letter " + i + " of " + text, x.write(text.charAt(i)), before + i + 1);
        }
    }

    /** A new object to which a text without a fault was told. */
    static MotionStates told(String text) {
        MotionStates x = new MotionStates();
        write(x, text);
        Check.holds("figure() of " + text, x.figure() >= 1);
        return x;
    }

    static void finish() {
        System.out.println(made + " answers looked at, " + wrong + " wrong");
        if (wrong != 0) {
            System.exit(1);
        }
    }
}
