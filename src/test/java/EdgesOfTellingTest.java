/** The edges of promises 5 to 10: what is told of the county, its heirs, things, wants, and of the log. */
public final class EdgesOfTellingTest {
    private static final Due due = new Due();

    public static void main(String[] args) {
        toldIsOf0To15();
        toldWithoutACounty();
        toldOfTheFullest();
        metIsASetOfWants();
        notesAreNoneWhenAllKnow();
        envyIsNoneAmongTheLike();
        heirsAre0To2();
        heirIsOf0To3();
        heirWithoutACounty();
        thingsAreThoseTold();
        thingIsOf0To1();
        wantsAreThoseTold();
        wantIsOf0To2();
        knownIsNoneAtFirst();
        knownStays();
        knownIsOfHeirsAndThings();
        loggedIsOf0To3();
        theLogIsEmptyAtFirst();
        theLogKeeps20();
        theLogComesBackByUndo();
        due.finish();
    }

    private static void toldIsOf0To15() {
        Edge.ends(due, "told()", Edge::lived, ThreeHeirs::told, 0, 15, Due.OUTSIDE);
        Edge.ends(due, "told() of none", ThreeHeirs::new, ThreeHeirs::told, 0, 15, Due.OUTSIDE);
    }

    private static void toldWithoutACounty() {
        ThreeHeirs x = new ThreeHeirs();
        for (int what = 0; what < 16; what++) {
            due.is("told(" + what + ")", x.told(what), what == 8 ? Due.NONE : 0);
        }
        due.is("told(16)", x.told(16), Due.OUTSIDE);
        due.is("told(-1)", x.told(-1), Due.OUTSIDE);
    }

    private static void toldOfTheFullest() {
        ThreeHeirs x = Edge.fullest();
        int[] answers = {1, 8, 6, 10, 12, 0, 0, 0, 2, 1023, 16, 0, 0, 0, 0, 0};
        for (int what = 0; what < 16; what++) {
            due.is("told(" + what + ") of the fullest", x.told(what), answers[what]);
        }
    }

    private static void metIsASetOfWants() {
        due.is("MET without wants", Due.of("c6 18;t2 4;").told(9), 0);
        ThreeHeirs x = Edge.fullest();
        due.is("MET of all", x.told(9), 1023);
        // The last thing is wanted by WANTS 1 and 9.
        x.put(7, 1);
        due.is("MET of all but two", x.told(9), 1023 - 2 - 512);
        x.put(0, 4);
        due.is("MET of all but four", x.told(9), 1023 - 2 - 512 - 1 - 8);
        for (int t = 1; t < 7; t++) {
            x.put(t, 7);
        }
        due.is("MET of none", x.told(9), 0);
        x.put(7, 0);
        due.is("MET of two", x.told(9), 2 + 512);
    }

    private static void notesAreNoneWhenAllKnow() {
        due.is("NOTES without things", Due.of("c6 18;").told(10), 0);
        ThreeHeirs x = Due.of("c6 18;t2 4;t2 5;");
        due.is("NOTES when nobody knows", x.told(10), 4);
        x.note(0, 0);
        due.is("NOTES behind one", x.told(10), 3);
        x.note(0, 0);
        due.is("NOTES behind the same", x.told(10), 3);
        x.note(0, 1);
        x.note(1, 0);
        due.is("NOTES behind three", x.told(10), 1);
        x.note(1, 1);
        due.is("NOTES behind all", x.told(10), 0);
        due.is("he who has the HOUR sees, and is wrong yet", x.heir(2, 3), 3);
        x.put(1, 6);
        due.is("NOTES when one is moved", x.told(10), 2);
        x.put(1, 5);
        due.is("NOTES when it is moved back", x.told(10), 0);
        x.hour(6);
        due.is("NOTES in the morning: the dark man saw all", x.told(10), 0);
        ThreeHeirs y = Due.of("c6 18;t2 4;");
        y.note(1, 0);
        y.hour(5);
        due.is("NOTES at the last hour of the dark: the first does not know", y.told(10), 1);
        y.hour(1);
        due.is("NOTES at the first of the light: he sees", y.told(10), 0);
    }

    private static void envyIsNoneAmongTheLike() {
        // Light from 4 to 20: eight hours of each.
        ThreeHeirs x = Due.of("c4 20;l9;");
        due.is("ENVY at first", x.told(11), 0);
        x.hour(1);
        due.is("ENVY behind an hour", x.told(11), 9);
        x.hour(11);
        due.is("ENVY at noon: the first over the middle", x.told(11), 72);
        x.hour(8);
        due.is("ENVY at dark: both over the third", x.told(11), 36);
        x.hour(4);
        due.is("ENVY of a whole day", x.told(11), 0);
        x.hour(1);
        due.is("ENVY behind one more", x.told(11), 9);
        // Seven hours of the first, eleven of the middle, five and then six of the dark.
        ThreeHeirs late = Due.of("c5 23;l9;");
        late.hour(23);
        due.is("ENVY of the middle, who has most, at 23", late.told(11), 54);
        late.hour(1);
        due.is("ENVY of the middle, who has most, at 24", late.told(11), 45);
        ThreeHeirs winter = Due.of("c11 23;l9;");
        winter.hour(24);
        due.is("ENVY of the dark, who has most, over the first", winter.told(11), 99);
        ThreeHeirs poor = Due.of("c6 18;");
        poor.hour(30);
        due.is("ENVY where there is no rent", poor.told(11), 0);
    }

    private static void heirsAre0To2() {
        Edge.ends(due, "heir()", Edge::lived, (x, h) -> x.heir(h, 0), 0, 2, Due.UNKNOWN);
        Edge.ends(due, "heir() of none", ThreeHeirs::new, (x, h) -> x.heir(h, 0), 0, 2, Due.UNKNOWN);
    }

    private static void heirIsOf0To3() {
        Edge.ends(due, "heir(0, ..)", Edge::lived, (x, what) -> x.heir(0, what), 0, 3, Due.OUTSIDE);
        Edge.ends(due, "heir(2, ..)", Edge::lived, (x, what) -> x.heir(2, what), 0, 3, Due.OUTSIDE);
    }

    private static void heirWithoutACounty() {
        ThreeHeirs x = new ThreeHeirs();
        for (int h = 0; h < 3; h++) {
            for (int what = 0; what < 4; what++) {
                due.is("heir(" + h + ", " + what + ")", x.heir(h, what), 0);
            }
        }
        ThreeHeirs y = Edge.fullest();
        int[] wants = {3, 3, 4};
        for (int h = 0; h < 3; h++) {
            due.is("wants of " + h, y.heir(h, 2), wants[h]);
            due.is("wrong about of " + h, y.heir(h, 3), 255);
        }
    }

    private static void thingsAreThoseTold() {
        due.is("thing(0, 0) of none", new ThreeHeirs().thing(0, 0), Due.UNKNOWN);
        due.is("thing(0, 0) without things", Due.of("c6 18;").thing(0, 0), Due.UNKNOWN);
        Edge.ends(due, "thing()", Edge::lived, (x, t) -> x.thing(t, 1), 0, 3, Due.UNKNOWN);
        due.is("thing(7, 0) of eight", Edge.fullest().thing(7, 0), 3);
        due.is("thing(8, 0) of eight", Edge.fullest().thing(8, 0), Due.UNKNOWN);
        ThreeHeirs x = Edge.fullest();
        Due.feedAll(x, "c6 18;t2 0;");
        x.county();
        due.is("thing(1, 0) of an earlier county", x.thing(1, 0), Due.UNKNOWN);
    }

    private static void thingIsOf0To1() {
        Edge.ends(due, "thing(0, ..)", Edge::lived, (x, what) -> x.thing(0, what), 0, 1, Due.OUTSIDE);
        Edge.ends(due, "thing(3, ..)", Edge::lived, (x, what) -> x.thing(3, what), 0, 1, Due.OUTSIDE);
    }

    private static void wantsAreThoseTold() {
        due.is("want(0, 0) of none", new ThreeHeirs().want(0, 0), Due.UNKNOWN);
        due.is("want(0, 0) without wants", Due.of("c6 18;t2 0;").want(0, 0), Due.UNKNOWN);
        Edge.ends(due, "want()", Edge::lived, (x, w) -> x.want(w, 2), 0, 4, Due.UNKNOWN);
        due.is("want(9, 1) of ten", Edge.fullest().want(9, 1), 7);
        due.is("want(10, 1) of ten", Edge.fullest().want(10, 1), Due.UNKNOWN);
    }

    private static void wantIsOf0To2() {
        Edge.ends(due, "want(0, ..)", Edge::lived, (x, what) -> x.want(0, what), 0, 2, Due.OUTSIDE);
        Edge.ends(due, "want(4, ..)", Edge::lived, (x, what) -> x.want(4, what), 0, 2, Due.OUTSIDE);
    }

    private static void knownIsNoneAtFirst() {
        ThreeHeirs x = Edge.hall();
        for (int h = 0; h < 3; h++) {
            due.is("known at first", x.known(h, 3), Due.NONE);
        }
        x.hour(1);
        due.is("known by an hour", x.known(2, 3), 8);
        due.is("not by another's hour", x.known(0, 3), Due.NONE);
        x.note(0, 3);
        due.is("known by a note", x.known(0, 3), 8);
        due.is("of that thing alone", x.known(0, 2), Due.NONE);
    }

    private static void knownStays() {
        ThreeHeirs x = Due.of("c6 18;t1 5;");
        x.hour(1);
        // He saw it ahead of what becomes of it in that hour.
        due.is("known of the hour", x.known(2, 0), 5);
        due.is("it is less by now", x.thing(0, 1), 4);
        due.is("so he is wrong about it", x.heir(2, 3), 1);
        x.put(0, 9);
        due.is("put() tells nobody", x.known(2, 0), 5);
        x.note(1, 0);
        due.is("a note tells how it is now", x.known(1, 0), 9);
        x.hour(1);
        due.is("known anew", x.known(2, 0), 9);
        due.is("the note stays", x.known(1, 0), 9);
        due.is("wrong about what went on", x.heir(1, 3), 1);
    }

    private static void knownIsOfHeirsAndThings() {
        Edge.ends(due, "known(.., 0)", Edge::lived, (x, h) -> x.known(h, 0), 0, 2, Due.UNKNOWN);
        Edge.ends(due, "known(0, ..)", Edge::lived, (x, t) -> x.known(0, t), 0, 3, Due.UNKNOWN);
        due.is("known(2, 7) of eight", Edge.fullest().known(2, 7), Due.NONE);
        due.is("known(2, 8) of eight", Edge.fullest().known(2, 8), Due.UNKNOWN);
        due.is("known(0, 0) of none", new ThreeHeirs().known(0, 0), Due.UNKNOWN);
    }

    private static void loggedIsOf0To3() {
        Edge.ends(due, "logged(0, ..)", Edge::lived, (x, what) -> x.logged(0, what), 0, 3, Due.OUTSIDE);
        Edge.ends(due, "logged(-1, ..)", Edge::lived, (x, what) -> x.logged(-1, what), 0, 3, Due.OUTSIDE);
        Edge.ends(due, "logged(0, ..) of none", ThreeHeirs::new, (x, what) -> x.logged(0, what), 0, 3, Due.OUTSIDE);
    }

    private static void theLogIsEmptyAtFirst() {
        ThreeHeirs x = Edge.hall();
        due.is("told(12)", x.told(12), 0);
        for (int i : new int[] {0, -1, 1, 19, 20, Integer.MIN_VALUE, Integer.MAX_VALUE}) {
            due.is("logged(" + i + ", 3)", x.logged(i, 3), Due.NONE);
            due.is("logged(" + i + ", 3) of none", new ThreeHeirs().logged(i, 3), Due.NONE);
        }
        x.put(3, 0);
        due.is("logged(0, 0)", x.logged(0, 0), 0);
        due.is("logged(0, 2)", x.logged(0, 2), 3);
        due.is("logged(1, 0)", x.logged(1, 0), Due.NONE);
        x.hour(6);
        x.put(1, 9);
        int[] row = {6, 0, 1, 9};
        for (int what = 0; what < 4; what++) {
            due.is("logged(0, " + what + ") at 6", x.logged(0, what), row[what]);
        }
        due.is("logged(1, 0) at 6", x.logged(1, 0), 0);
        due.is("logged(2, 0) at 6", x.logged(2, 0), Due.NONE);
    }

    private static void theLogKeeps20() {
        ThreeHeirs x = Edge.hall();
        x.put(1, 7);
        for (int i = 0; i < 19; i++) {
            x.put(2, i % 10);
        }
        due.is("told(12) of 20", x.told(12), 20);
        due.is("logged(19, 2) of 20: the first of all", x.logged(19, 2), 1);
        due.is("logged(19, 3) of 20", x.logged(19, 3), 7);
        due.is("logged(20, 2) of 20", x.logged(20, 2), Due.NONE);
        x.put(0, 1);
        due.is("told(12) of 21", x.told(12), 20);
        due.is("logged(0, 2) of 21: the latest", x.logged(0, 2), 0);
        due.is("logged(19, 2) of 21: the first is gone", x.logged(19, 2), 2);
        due.is("logged(19, 3) of 21", x.logged(19, 3), 0);
        due.is("logged(20, 2) of 21", x.logged(20, 2), Due.NONE);
    }

    private static void theLogComesBackByUndo() {
        ThreeHeirs x = Edge.hall();
        for (int i = 0; i < 21; i++) {
            x.put(2, i % 10);
        }
        x.undo(1);
        due.is("told(12)", x.told(12), 20);
        due.is("logged(0, 3)", x.logged(0, 3), 9);
        due.is("logged(19, 3): what had gone is there", x.logged(19, 3), 0);
        x.undo(20);
        due.is("told(12) of none", x.told(12), 0);
    }
}
