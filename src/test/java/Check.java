import java.util.ArrayList;
import java.util.List;

/** What the tests share: each answer that is not the one that is due is printed and counted. */
final class Check {
    static final int BAD = -1, NO = -2, FULL = -3, NONE = -4;

    private static int wrong = 0;
    private static int asked = 0;

    private Check() {
    }

    static void due(String call, long got, long want) {
        asked++;
        if (got != want) {
            wrong++;
            if (wrong <= 40) {
                System.out.println(call + " answered " + got + ", due is " + want);
            }
        }
    }

    static void holds(String what, boolean so) {
        due(what, so ? 1 : 0, 1);
    }

    /** Writes the text, behind what has been written. */
    static void put(NearlyBought x, String text) {
        for (int k = 0; k < text.length(); k++) {
            x.write(text.charAt(k));
        }
    }

    static NearlyBought written(String text) {
        NearlyBought x = new NearlyBought();
        put(x, text);
        return x;
    }

    static NearlyBought laid(String text) {
        NearlyBought x = written(text);
        holds("lay() of " + text, x.lay() > 0);
        return x;
    }

    static void fairs(NearlyBought x, int n) {
        for (int k = 0; k < n; k++) {
            x.fair();
        }
    }

    /** All that can be asked of how things stand, what would be and what is SEEN. */
    static int[] stand(NearlyBought x) {
        int persons = x.count(0);
        int things = x.count(1);
        List<Integer> answers = new ArrayList<>();
        for (int what = 0; what <= 8; what++) {
            answers.add(x.count(what));
        }
        for (int i = 0; i < persons; i++) {
            for (int what = 0; what <= 3; what++) {
                answers.add(x.person(i, what));
            }
            for (int t = 0; t < things; t++) {
                for (int what = 0; what <= 4; what++) {
                    answers.add(x.nearly(i, t, what));
                }
            }
        }
        for (int t = 0; t < things; t++) {
            for (int what = 0; what <= 3; what++) {
                answers.add(x.thing(t, what));
            }
            answers.add(x.goes(t));
        }
        answers.add(x.never());
        answers.add(x.feigned(0));
        answers.add(x.feigned(1));
        answers.add(x.fault());
        return answers.stream().mapToInt(Integer::intValue).toArray();
    }

    static void same(String what, int[] got, int[] want) {
        due(what + ": how many answers", got.length, want.length);
        for (int k = 0; k < Math.min(got.length, want.length); k++) {
            due(what + ": answer " + k, got[k], want[k]);
        }
    }

    static void end() {
        System.out.println(asked + " answers asked, " + wrong + " not as due");
        if (wrong != 0) {
            System.exit(1);
        }
    }
}
