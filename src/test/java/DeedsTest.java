/** Promises 11 to 16: hours, things that are set, notes, eclipses, draws, and what is undone. */
public final class DeedsTest {
    private static final Due due = new Due();
    private static final String HALL = "c6 18;s4,7,1;t0 3;t1 5;t2 2;t3 8;l4;l2;w0 0 3;w1 0 6;w2 0 3;w2 1 5;w0 2 9;";

    public static void main(String[] args) {
        hourRefuses();
        hoursPass();
        enviesAnyOther();
        kindsChange();
        valuesHaveEnds();
        putSets();
        notesTell();
        eclipsesDarken();
        driftRefuses();
        driftDraws();
        driftWithFewThings();
        undoRefuses();
        undoBringsAllBack();
        undoKeepsThirty();
        due.finish();
    }

    private static void hourRefuses() {
        ThreeHeirs x = new ThreeHeirs();
        due.is("hour(1) of none", x.hour(1), Due.NOT);
        due.is("hour(0) of none", x.hour(0), Due.OUTSIDE);
        x = Due.of(HALL);
        due.is("hour(0)", x.hour(0), Due.OUTSIDE);
        due.is("hour(31)", x.hour(31), Due.OUTSIDE);
        due.is("hour(-1)", x.hour(-1), Due.OUTSIDE);
        due.is("told(6)", x.told(6), 0);
        due.is("hour(30)", x.hour(30), 30);
        due.is("hour(1)", x.hour(1), 31);
    }

    private static void hoursPass() {
        ThreeHeirs x = Due.of("c6 18;t2 4;l9;l1;w0 0 4;w1 0 5;w1 0 6;w1 0 4;w2 0 1;");
        x.hour(24);
        int[][] rows = {{60, 0}, {60, 12}, {120, 12}};
        for (int h = 0; h < 3; h++) {
            due.is("purse of " + h, x.heir(h, 0), rows[h][0]);
            due.is("anger of " + h, x.heir(h, 1), rows[h][1]);
            due.is("known of " + h, x.known(h, 0), 4);
        }
        due.is("envy", x.told(11), 60);
    }

    private static void enviesAnyOther() {
        ThreeHeirs x = Due.of("c1 14;l1;");
        x.hour(24);
        // One to twelve, noon to two, and eleven hours of the dark.
        due.is("envy", x.told(11), 9);
        x = Due.of("c1 14;l1;");
        x.hour(15);
        due.is("envy of the first", x.told(11), 9);
        x = Due.of("c11 23;l1;");
        x.hour(24);
        due.is("envy of the dark", x.told(11), 11);
        x.eclipse(11);
        x.hour(12);
        x.hour(11);
        due.is("purse of the first", x.heir(0, 0), 2);
        due.is("purse of the middle", x.heir(1, 0), 22);
        due.is("purse of the dark", x.heir(2, 0), 23);
        due.is("envy of all but the first", x.told(11), 21);
        x = Due.of("c11 23;l1;");
        x.hour(23);
        due.is("envy of the middle, at dark", x.told(11), 10);
        x = Due.of("c5 23;l1;");
        x.hour(24);
        due.is("envy of the middle", x.told(11), 5);
        x = Due.of("c11 13;l1;");
        x.hour(12);
        due.is("the middle has nothing yet", x.told(11), 11);
    }

    private static void kindsChange() {
        ThreeHeirs x = Due.of("c6 18;t0 0;t1 9;t2 5;t3 7;");
        int hedge = 0;
        int candle = 9;
        int music = 7;
        for (int i = 0; i < 30; i++) {
            boolean isDark = i % 24 < 6 || i % 24 >= 18;
            x.hour(1);
            hedge += i % 3 == 0 && !isDark ? 1 : 0;
            candle -= isDark && candle > 0 ? 1 : 0;
            music = i % 24 == 12 ? 0 : music;
            due.is("hedge behind " + i, x.thing(0, 1), hedge);
            due.is("candle behind " + i, x.thing(1, 1), candle);
            due.is("chair behind " + i, x.thing(2, 1), 5);
            due.is("music behind " + i, x.thing(3, 1), music);
        }
    }

    private static void valuesHaveEnds() {
        ThreeHeirs x = Due.of("c1 23;t0 8;t1 1;");
        x.hour(24);
        due.is("hedge at most", x.thing(0, 1), 9);
        due.is("candle at least", x.thing(1, 1), 0);
    }

    private static void putSets() {
        ThreeHeirs x = Due.of(HALL);
        due.is("put(0, 9)", x.put(0, 9), 2);
        due.is("thing(0, 1)", x.thing(0, 1), 9);
        due.is("known(2, 0): he did not look", x.known(2, 0), Due.NONE);
        due.is("put(0, 9) again", x.put(0, 9), 2);
        due.is("told(12)", x.told(12), 2);
        due.is("told(15)", x.told(15), 2);
        x.hour(6);
        due.is("put(3, 0) of the morning", x.put(3, 0), 0);
        x.hour(6);
        due.is("put(3, 5) of noon", x.put(3, 5), 1);
        due.is("told(12)", x.told(12), 4);
        due.is("put(4, 0)", x.put(4, 0), Due.UNKNOWN);
        due.is("put(-1, 10)", x.put(-1, 10), Due.UNKNOWN);
        due.is("put(0, 10)", x.put(0, 10), Due.OUTSIDE);
        due.is("put(0, -1)", x.put(0, -1), Due.OUTSIDE);
        due.is("put(0, 0) of none", new ThreeHeirs().put(0, 0), Due.UNKNOWN);
        due.is("told(12)", x.told(12), 4);
    }

    private static void notesTell() {
        ThreeHeirs x = Due.of(HALL);
        due.is("note(0, 1)", x.note(0, 1), 5);
        due.is("known(0, 1)", x.known(0, 1), 5);
        due.is("known(1, 1)", x.known(1, 1), Due.NONE);
        due.is("told(10)", x.told(10), 7);
        due.is("note(2, 1)", x.note(2, 1), Due.NOT);
        due.is("told(15)", x.told(15), 1);
        x.hour(2);
        due.is("what one knows stays", x.known(0, 1), 5);
        due.is("told(10) behind two hours", x.told(10), 8);
        due.is("note(3, 1)", x.note(3, 1), Due.UNKNOWN);
        due.is("note(2, 4)", x.note(2, 4), Due.UNKNOWN);
        due.is("note(0, -1)", x.note(0, -1), Due.UNKNOWN);
        due.is("note(-1, 0)", x.note(-1, 0), Due.UNKNOWN);
        x.hour(4);
        due.is("note(2, 0) of the morning", x.note(2, 0), 3);
        due.is("note(0, 0) of the morning", x.note(0, 0), Due.NOT);
    }

    private static void eclipsesDarken() {
        ThreeHeirs x = Due.of("c6 18;t0 0;t1 9;t3 4;l3;");
        x.hour(9);
        due.is("eclipse(4)", x.eclipse(4), 0);
        due.is("told(8)", x.told(8), 2);
        due.is("told(7)", x.told(7), 4);
        due.is("put(0, 0)", x.put(0, 0), 2);
        x.hour(3);
        due.is("told(7) behind three", x.told(7), 1);
        due.is("hedge stays", x.thing(0, 1), 0);
        due.is("candle burns", x.thing(1, 1), 0);
        x.hour(1);
        due.is("music at noon", x.thing(2, 1), 0);
        due.is("told(7) behind four", x.told(7), 0);
        due.is("told(8) behind four", x.told(8), 1);
        due.is("purse of the dark", x.heir(2, 0), 30);
        due.is("eclipse(24)", x.eclipse(24), 0);
        due.is("eclipse(2)", x.eclipse(2), 24);
        due.is("eclipse(0)", x.eclipse(0), 2);
        due.is("told(8) behind eclipse(0)", x.told(8), 1);
        due.is("eclipse(25)", x.eclipse(25), Due.OUTSIDE);
        due.is("eclipse(-1)", x.eclipse(-1), Due.OUTSIDE);
        due.is("eclipse(1) of none", new ThreeHeirs().eclipse(1), Due.NOT);
        due.is("eclipse(25) of none", new ThreeHeirs().eclipse(25), Due.OUTSIDE);
    }

    private static void driftRefuses() {
        ThreeHeirs x = new ThreeHeirs();
        due.is("drift(1) of none", x.drift(1), Due.NOT);
        due.is("drift(31) of none", x.drift(31), Due.OUTSIDE);
        x = Due.of(HALL);
        due.is("drift(0)", x.drift(0), Due.OUTSIDE);
        due.is("drift(31)", x.drift(31), Due.OUTSIDE);
        due.is("the seed stays", x.seed(0), 0);
        due.is("drift(30)", x.drift(30), 30);
    }

    private static long seed;

    private static int draw(int n) {
        seed = (seed * 1103515245L + 12345L) % 2147483648L;
        return (int) (seed / 65536 % n);
    }

    /** The same hours by put(), eclipse() and hour() on another object. */
    private static void driftByHand(ThreeHeirs y, int n, int things) {
        for (int i = 0; i < n; i++) {
            int chance = draw(8);
            if (chance == 0 && things > 0) {
                int t = draw(things);
                y.put(t, draw(10));
            } else if (chance == 1) {
                y.eclipse(draw(4));
            }
            y.hour(1);
        }
    }

    private static void driftDraws() {
        ThreeHeirs x = Due.of(HALL);
        ThreeHeirs y = Due.of(HALL);
        x.seed(2147483647);
        seed = 2147483647L;
        x.drift(30);
        x.drift(29);
        driftByHand(y, 59, 4);
        y.seed((int) seed);
        x.keep(0);
        y.keep(0);
        due.isTrue("drift() is as by hand", Due.stateOf(x).equals(Due.stateOf(y)));
        due.isTrue("something was set", x.told(12) > 0);
    }

    private static void driftWithFewThings() {
        String[] texts = {"c6 18;l1;", "c6 18;l1;t2 0;"};
        for (int things = 0; things < 2; things++) {
            ThreeHeirs x = Due.of(texts[things]);
            ThreeHeirs y = Due.of(texts[things]);
            seed = 0;
            x.drift(30);
            x.drift(30);
            driftByHand(y, 60, things);
            y.seed((int) seed);
            x.keep(0);
            y.keep(0);
            due.isTrue("drift() of " + things, Due.stateOf(x).equals(Due.stateOf(y)));
            due.isTrue("sets of " + things, things == 0 ? x.told(12) == 0 : x.told(12) > 0);
        }
    }

    private static void undoRefuses() {
        ThreeHeirs x = Due.of(HALL);
        due.is("undo(1) of nothing", x.undo(1), Due.NOT);
        due.is("undo(0)", x.undo(0), Due.OUTSIDE);
        due.is("undo(31)", x.undo(31), Due.OUTSIDE);
        due.is("undo(1) of none", new ThreeHeirs().undo(1), Due.NOT);
        x.hour(2);
        due.is("undo(3) of two", x.undo(3), Due.NOT);
        due.is("told(15)", x.told(15), 2);
        due.is("undo(2) of two", x.undo(2), 0);
        due.is("told(15)", x.told(15), 0);
    }

    private static void undoBringsAllBack() {
        ThreeHeirs x = Due.of(HALL);
        x.hour(7);
        for (int i = 0; i < 20; i++) {
            x.put(2, i % 10);
        }
        x.keep(0);
        x.seed(9);
        x.find(0, 1, true);
        x.write(0, 1);
        String before = Due.stateOf(x);
        x.put(1, 9);
        due.is("undo(1) of put", x.undo(1), 7);
        due.isTrue("put is undone", Due.stateOf(x).equals(before));
        x.note(1, 2);
        x.eclipse(9);
        x.hour(3);
        due.is("told(15)", x.told(15), 5);
        due.is("undo(3)", x.undo(3), 7);
        due.is("told(7)", x.told(7), 9);
        due.is("undo(1) of eclipse", x.undo(1), 7);
        due.is("told(7)", x.told(7), 0);
        due.is("known(1, 2)", x.known(1, 2), 9);
        due.is("undo(1) of note", x.undo(1), 7);
        due.isTrue("all is undone", Due.stateOf(x).equals(before));
        x.drift(30);
        due.is("told(15) of drift", x.told(15), 30);
        due.is("undo(30)", x.undo(30), 7);
        due.isTrue("the seed went on", x.seed(9) != 9);
        due.isTrue("drift is undone", Due.stateOf(x).equals(before));
    }

    private static void undoKeepsThirty() {
        ThreeHeirs x = Due.of(HALL);
        x.hour(30);
        x.hour(30);
        x.hour(7);
        due.is("told(15)", x.told(15), 30);
        due.is("undo(29)", x.undo(29), 38);
        due.is("undo(2)", x.undo(2), Due.NOT);
        due.is("undo(1)", x.undo(1), 37);
        ThreeHeirs y = Due.of(HALL);
        y.hour(30);
        y.hour(7);
        y.keep(0);
        due.isTrue("as after 37 hours", Due.stateOf(x).equals(Due.stateOf(y)));
        x.hour(3);
        due.is("undo(2)", x.undo(2), 38);
    }
}
