/** Counts and prints the answers that are not as due; shared by the tests. */
final class Due {
    static final int NONE = -1, UNKNOWN = -1000000001, OUTSIDE = -1000000002, NOT = -1000000003, FULL = -1000000004;

    private int wrong;

    void is(String call, long got, long due) {
        if (got != due) {
            wrong++;
            System.out.println(call + " answered " + got + ", due is " + due);
        }
    }

    void isTrue(String what, boolean so) {
        is(what, so ? 1 : 0, 1);
    }

    /** Ends the test: exit code 1, if an answer was wrong. */
    void finish() {
        if (wrong != 0) {
            System.out.println(wrong + " answers are not as due");
            System.exit(1);
        }
    }

    static void feedAll(ThreeHeirs x, String text) {
        for (int i = 0; i < text.length(); i++) {
            x.feed(text.charAt(i));
        }
    }

    /** A new object with the county of a text. */
    static ThreeHeirs of(String text) {
        ThreeHeirs x = new ThreeHeirs();
        feedAll(x, text);
        x.county();
        return x;
    }

    /** A text that has a fault: its number, its letter, and that there is no county by it. */
    void fault(String text, int number, int place) {
        ThreeHeirs x = new ThreeHeirs();
        feedAll(x, text);
        is("county() of " + text, x.county(), -10 - number);
        is("fault() of " + text, x.fault(), place);
        is("told(0) of " + text, x.told(0), 0);
        is("told(5) of " + text, x.told(5), 0);
    }

    /** A text without a fault: how many things its county has. */
    void sound(String text, int things) {
        ThreeHeirs x = new ThreeHeirs();
        feedAll(x, text);
        is("county() of " + text, x.county(), things);
        is("fault() of " + text, x.fault(), NONE);
        is("told(0) of " + text, x.told(0), 1);
        is("told(1) of " + text, x.told(1), things);
    }

    static boolean isRefusal(long answer) {
        return answer >= FULL && answer <= UNKNOWN;
    }

    /** A text with one clause many times. */
    static String many(String first, String clause, int n) {
        return first + clause.repeat(n);
    }

    /** All that can be read of an object without a change to it, to tell two states apart. */
    static String stateOf(ThreeHeirs x) {
        StringBuilder s = new StringBuilder();
        for (int i = 0; i < 16; i++) {
            s.append(x.told(i)).append(' ');
        }
        s.append('/').append(x.fault()).append(' ').append(x.judge()).append(' ').append(x.fits(0));
        s.append(' ').append(x.fits(1)).append(' ').append(x.lookAt()).append('/');
        // Only what there is, so that some states can be read within the 512 calls of an object.
        int things = x.told(1);
        for (int h = 0; h < 3; h++) {
            for (int what = 0; what < 4; what++) {
                s.append(x.heir(h, what)).append(' ');
            }
            for (int t = 0; t < things; t++) {
                s.append(x.known(h, t)).append(' ');
            }
        }
        for (int t = 0; t < things; t++) {
            s.append(x.thing(t, 0)).append(' ').append(x.thing(t, 1)).append(' ');
        }
        int wants = x.told(3);
        for (int w = 0; w < wants; w++) {
            s.append(x.want(w, 0)).append(' ').append(x.want(w, 1)).append(' ').append(x.want(w, 2)).append(' ');
        }
        int logged = x.told(12);
        for (int i = 0; i < logged; i++) {
            for (int what = 0; what < 4; what++) {
                s.append(x.logged(i, what)).append(' ');
            }
        }
        int seed = x.seed(0);
        x.seed(seed);
        return s.append(x.light(0)).append(' ').append(x.light(1)).append(' ').append(seed).toString();
    }
}
