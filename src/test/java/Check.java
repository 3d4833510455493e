/** What the tests share: each answer that is not the one that is due is printed and counted. */
final class Check {
    static final int BAD = -1, NO = -2, FULL = -3, NONE = -4;

    private static int wrong = 0;
    private static int asked = 0;

    private Check() {
    }

    static void due(String call, long got, long want) {
        asked++;
        if (got != want) {
            wrong++;
            if (wrong <= 40) {
                System.out.println(call + " answered " + got + ", due is " + want);
            }
        }
    }

    static void holds(String what, boolean so) {
        due(what, so ? 1 : 0, 1);
    }

    /** Writes the text, behind what has been written. */
    static void put(NearlyBought x, String text) {
        for (int k = 0; k < text.length(); k++) {
            x.write(text.charAt(k));
        }
    }

    static NearlyBought written(String text) {
        NearlyBought x = new NearlyBought();
        put(x, text);
        return x;
    }

    static NearlyBought laid(String text) {
        NearlyBought x = written(text);
        holds("lay() of " + text, x.lay() > 0);
        return x;
    }

    static void fairs(NearlyBought x, int n) {
        for (int k = 0; k < n; k++) {
            x.fair();
        }
    }

    static void end() {
        System.out.println(asked + " answers asked, " + wrong + " not as due");
        if (wrong != 0) {
            System.exit(1);
        }
    }
}
