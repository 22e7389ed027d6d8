/** The edges of promises 17 to 28: what is tried from now, and what is reckoned. */
public final class EdgesOfTriedTest {
    private static final Due due = new Due();
    private static final String ROOM = "c6 18;t0 3;t1 5;t2 2;t3 8;";

    public static void main(String[] args) {
        whoseIsOf0To240();
        whoseLooksAtAnEclipse();
        getsIsOf0To240();
        getsIsOfHeirs();
        willBeIsOf0To240();
        willBeIsOfThings();
        willBeAtItsEnds();
        nextIs0WhoHasIt();
        nextIs47AtMost();
        nextIsOfHeirs();
        keepSoHasBounds();
        keepSoAtTheLastHour();
        keepSoOfTheLastThatIsNotHis();
        keepSoFromNowOn();
        keepSoOfWhatNoValueComesTo();
        keepSoOfTheLeastValue();
        keepSoThroughAnEclipse();
        agreedIsOfThingsOrNone();
        agreedAtItsEnds();
        againstIsOfTwoHeirs();
        againstAtItsEnds();
        moversHasBounds();
        moversOfNoHours();
        moversOf48Hours();
        moversWithoutEclipses();
        poorestIsOf0To1();
        poorestAtItsEnds();
        lightIsOf0To1();
        childHasBounds();
        childRoundTheDay();
        childOfThisDay();
        clearHasBounds();
        clearIsCutEachHour();
        nothingChangesByIt();
        due.finish();
    }

    private static void whoseIsOf0To240() {
        Edge.ends(due, "whose()", Edge::lived, ThreeHeirs::whose, 0, 240, Due.OUTSIDE);
        Edge.refused(due, "whose(0) of none", ThreeHeirs::new, x -> x.whose(0), Due.NOT);
        Edge.refused(due, "whose(240) of none", ThreeHeirs::new, x -> x.whose(240), Due.NOT);
        ThreeHeirs x = Due.of("c6 18;s4,4,4,4,4,4,4,4,4,4,9;");
        x.hour(6);
        due.is("whose(0) at 6", x.whose(0), 0);
        due.is("whose(240) at 6: day 10", x.whose(240), 0);
        x.hour(16);
        // 22 of day 10, which is light to 23, where every other is dark.
        due.is("whose(240) at 22: day 10", x.whose(240), 1);
        due.is("whose(216) at 22: day 9", x.whose(216), 2);
    }

    private static void whoseLooksAtAnEclipse() {
        ThreeHeirs x = Due.of("c1 23;");
        x.hour(2);
        x.eclipse(5);
        due.is("whose(0)", x.whose(0), 2);
        due.is("whose(4), the last of it", x.whose(4), 2);
        due.is("whose(5), the first behind it", x.whose(5), 0);
        x.eclipse(24);
        due.is("whose(23)", x.whose(23), 2);
        due.is("whose(24)", x.whose(24), 0);
        x.eclipse(0);
        due.is("whose(0) of none", x.whose(0), 0);
    }

    private static void getsIsOf0To240() {
        Edge.ends(due, "gets(0, ..)", Edge::lived, (x, n) -> x.gets(0, n), 0, 240, Due.OUTSIDE);
        ThreeHeirs x = Due.of(Due.many("c1 23;", "l9;", 6));
        int[] sums = {11 * 540, 11 * 540, 2 * 540};
        for (int h = 0; h < 3; h++) {
            due.is("gets(" + h + ", 0)", x.gets(h, 0), 0);
            due.is("gets(" + h + ", 240)", x.gets(h, 240), sums[h]);
        }
        due.is("gets(2, 1)", x.gets(2, 1), 54);
        due.is("gets(0, 1)", x.gets(0, 1), 0);
        due.is("gets(0, 2)", x.gets(0, 2), 54);
        x.eclipse(24);
        due.is("gets(2, 24) in an eclipse", x.gets(2, 24), 24 * 54);
        due.is("gets(0, 25) in an eclipse", x.gets(0, 25), 0);
        due.is("gets(0, 26) behind it", x.gets(0, 26), 54);
        due.is("gets(2, 240) of no lands", Due.of("c6 18;").gets(2, 240), 0);
    }

    private static void getsIsOfHeirs() {
        Edge.ends(due, "gets(.., 240)", Edge::lived, (x, h) -> x.gets(h, 240), 0, 2, Due.UNKNOWN);
        due.is("gets(2, 240) of none", new ThreeHeirs().gets(2, 240), 0);
        due.is("gets(3, 240) of none", new ThreeHeirs().gets(3, 240), Due.UNKNOWN);
        due.is("gets(2, 241) of none", new ThreeHeirs().gets(2, 241), Due.OUTSIDE);
    }

    private static void willBeIsOf0To240() {
        Edge.ends(due, "willBe(0, ..)", Edge::lived, (x, n) -> x.willBe(0, n), 0, 240, Due.OUTSIDE);
        ThreeHeirs x = Due.of(ROOM);
        int[] now = {3, 5, 2, 8};
        int[] then = {9, 0, 2, 0};
        for (int t = 0; t < 4; t++) {
            due.is("willBe(" + t + ", 0)", x.willBe(t, 0), now[t]);
            due.is("willBe(" + t + ", 240)", x.willBe(t, 240), then[t]);
        }
    }

    private static void willBeIsOfThings() {
        Edge.ends(due, "willBe(.., 240)", Edge::lived, (x, t) -> x.willBe(t, 240), 0, 3, Due.UNKNOWN);
        due.is("willBe(0, 0) of none", new ThreeHeirs().willBe(0, 0), Due.UNKNOWN);
        due.is("willBe(7, 0) of eight", Edge.fullest().willBe(7, 0), 0);
        due.is("willBe(8, 0) of eight", Edge.fullest().willBe(8, 0), Due.UNKNOWN);
    }

    private static void willBeAtItsEnds() {
        ThreeHeirs x = Due.of(ROOM);
        due.is("a hedge at 6", x.willBe(0, 6), 3);
        due.is("a hedge behind 6", x.willBe(0, 7), 4);
        due.is("a candle of four hours", x.willBe(1, 4), 1);
        due.is("a candle of five", x.willBe(1, 5), 0);
        due.is("a candle of six", x.willBe(1, 6), 0);
        due.is("music at noon", x.willBe(3, 12), 8);
        due.is("music behind noon", x.willBe(3, 13), 0);
        // The hedge has 6, 9, 12, 15 of a day: 7 behind the first, 9 behind 30 and 33.
        due.is("a hedge of a day", x.willBe(0, 24), 7);
        due.is("a hedge of a day and 33", x.willBe(0, 33), 8);
        due.is("a hedge at most", x.willBe(0, 34), 9);
        due.is("a hedge no more", x.willBe(0, 37), 9);
        x.hour(5);
        x.eclipse(1);
        due.is("an eclipse that is over at 6", x.willBe(0, 2), 4);
        x.eclipse(2);
        due.is("an eclipse that is over at 7", x.willBe(0, 2), 3);
    }

    private static void nextIs0WhoHasIt() {
        ThreeHeirs x = Due.of("c6 18;");
        due.is("next(2) at 0", x.next(2), 0);
        due.is("next(0) at 0", x.next(0), 6);
        x.hour(5);
        due.is("next(0) at 5", x.next(0), 1);
        x.hour(1);
        due.is("next(0) at 6", x.next(0), 0);
        x.hour(6);
        due.is("next(0) at 12", x.next(0), 18);
        due.is("next(1) at 12", x.next(1), 0);
        x.eclipse(1);
        due.is("next(2) in an eclipse", x.next(2), 0);
        due.is("next(1) behind an eclipse", x.next(1), 1);
    }

    /** Everyone has an hour a day, so 48 and NONE never come: at worst an eclipse begins with one's only hour. */
    private static void nextIs47AtMost() {
        ThreeHeirs x = Due.of("c11 13;");
        int most = 0;
        x.eclipse(24);
        for (int hour = 0; hour < 24; hour++) {
            for (int h = 0; h < 2; h++) {
                most = Math.max(most, x.next(h));
            }
            x.hour(1);
            x.eclipse(24);
        }
        due.is("the greatest next()", most, 47);
        ThreeHeirs y = Due.of("c11 13;");
        y.hour(12);
        y.eclipse(23);
        due.is("next(0) behind 23", y.next(0), 23);
        y.eclipse(24);
        due.is("next(0) behind 24", y.next(0), 47);
        y.hour(1);
        y.eclipse(24);
        due.is("next(1) behind 24", y.next(1), 47);
    }

    private static void nextIsOfHeirs() {
        Edge.ends(due, "next()", Edge::lived, ThreeHeirs::next, 0, 2, Due.UNKNOWN);
        for (int h = 0; h < 3; h++) {
            due.is("next(" + h + ") of none", new ThreeHeirs().next(h), Due.NOT);
        }
    }

    private static void keepSoHasBounds() {
        Edge.ends(due, "keepSo() of heirs", Edge::lived, (x, h) -> x.keepSo(h, 2, 5, 9, 0), 0, 2, Due.UNKNOWN);
        Edge.ends(due, "keepSo() of things", Edge::lived, (x, t) -> x.keepSo(2, t, 5, 9, 0), 0, 3, Due.UNKNOWN);
        Edge.ends(due, "keepSo() of values", Edge::lived, (x, v) -> x.keepSo(2, 2, v, 9, 0), 0, 9, Due.OUTSIDE);
        Edge.ends(due, "keepSo() of hours", Edge::lived, (x, n) -> x.keepSo(2, 2, 5, n, 0), 1, 48, Due.OUTSIDE);
        Edge.ends(due, "keepSo() of what", Edge::lived, (x, what) -> x.keepSo(2, 2, 5, 9, what), 0, 1, Due.OUTSIDE);
        due.is("keepSo() of none", new ThreeHeirs().keepSo(0, 0, 0, 1, 0), Due.UNKNOWN);
        ThreeHeirs x = Due.of(ROOM);
        due.is("v 0, when", x.keepSo(2, 2, 0, 1, 0), 0);
        due.is("v 0, to what", x.keepSo(2, 2, 0, 1, 1), 0);
        due.is("v 9, to what", x.keepSo(2, 2, 9, 1, 1), 9);
        due.is("n 48, when: the evening of day 1", x.keepSo(2, 2, 9, 48, 0), 42);
    }

    private static void keepSoAtTheLastHour() {
        ThreeHeirs x = Due.of("c11 13;t2 0;t0 0;t1 0;");
        due.is("his only hour is the last", x.keepSo(0, 0, 4, 12, 0), 11);
        due.is("his only hour of day 1", x.keepSo(0, 0, 4, 36, 0), 35);
        due.is("hers", x.keepSo(1, 0, 4, 13, 0), 12);
        due.is("hers: a hedge grows in it", x.keepSo(1, 1, 4, 13, 1), 3);
        due.is("hers: a candle does not burn", x.keepSo(1, 2, 4, 13, 1), 4);
        due.is("a candle burns in the dark", x.keepSo(2, 2, 4, 1, 1), 5);
    }

    private static void keepSoOfTheLastThatIsNotHis() {
        ThreeHeirs x = Due.of(ROOM);
        for (int what = 0; what < 2; what++) {
            due.is("the dark man at 6", x.keepSo(2, 2, 4, 7, what), Due.NONE);
            due.is("the first at 5", x.keepSo(0, 2, 4, 6, what), Due.NONE);
            due.is("the first at 12", x.keepSo(0, 2, 4, 13, what), Due.NONE);
            due.is("the middle at 18", x.keepSo(1, 2, 4, 19, what), Due.NONE);
        }
        due.is("the dark man at 5", x.keepSo(2, 2, 4, 6, 0), 0);
        due.is("the first at 6", x.keepSo(0, 2, 4, 7, 0), 6);
        due.is("the first at 11", x.keepSo(0, 2, 4, 12, 0), 6);
        due.is("the middle at 12", x.keepSo(1, 2, 4, 13, 0), 12);
        due.is("the middle at 17", x.keepSo(1, 2, 4, 18, 0), 12);
        due.is("the dark man at 18", x.keepSo(2, 2, 4, 19, 0), 18);
        due.is("the dark man over midnight", x.keepSo(2, 2, 4, 30, 0), 18);
    }

    private static void keepSoFromNowOn() {
        ThreeHeirs x = Due.of(ROOM);
        x.hour(8);
        due.is("the first from now on", x.keepSo(0, 2, 4, 4, 0), 0);
        due.is("n 1", x.keepSo(0, 2, 4, 1, 0), 0);
        due.is("the dark man's evening", x.keepSo(2, 2, 4, 11, 0), 10);
    }

    private static void keepSoOfWhatNoValueComesTo() {
        ThreeHeirs x = Due.of(ROOM);
        // A candle loses one in each dark hour, the last too.
        due.is("a candle of 9", x.keepSo(2, 1, 9, 6, 0), Due.NONE);
        due.is("a candle of 9, to what", x.keepSo(2, 1, 9, 6, 1), Due.NONE);
        due.is("a candle of 8: at the last hour", x.keepSo(2, 1, 8, 6, 0), 5);
        due.is("a candle of 3: at the first", x.keepSo(2, 1, 3, 6, 0), 0);
        due.is("a candle of 3: from 9", x.keepSo(2, 1, 3, 6, 1), 9);
        due.is("a candle of 4: at the second", x.keepSo(2, 1, 4, 6, 0), 1);
        // A hedge grows at 6 and 9.
        due.is("a hedge of 0 behind 9", x.keepSo(0, 0, 0, 10, 0), Due.NONE);
        due.is("a hedge of 0 at 11", x.keepSo(0, 0, 0, 11, 0), 10);
        due.is("a hedge of 1 at 11", x.keepSo(0, 0, 1, 11, 0), 7);
        due.is("a hedge of 2 at 11", x.keepSo(0, 0, 2, 11, 0), 6);
        due.is("music of 1 behind noon", x.keepSo(1, 3, 1, 13, 0), Due.NONE);
        due.is("music of 1 at 13", x.keepSo(1, 3, 1, 14, 0), 13);
        due.is("music of 0 at 13", x.keepSo(1, 3, 0, 14, 0), 12);
    }

    private static void keepSoOfTheLeastValue() {
        ThreeHeirs x = Due.of(ROOM);
        due.is("a candle out: from 0", x.keepSo(2, 1, 0, 6, 1), 0);
        due.is("a candle of 1: from 7", x.keepSo(2, 1, 1, 6, 1), 7);
        due.is("a hedge of 9: from 7", x.keepSo(0, 0, 9, 12, 1), 7);
        due.is("a hedge of 8: from 6", x.keepSo(0, 0, 8, 12, 1), 6);
        due.is("music of 0: from 0", x.keepSo(1, 3, 0, 18, 1), 0);
    }

    private static void keepSoThroughAnEclipse() {
        ThreeHeirs x = Due.of("c11 13;t2 0;");
        x.eclipse(24);
        due.is("the dark man from now through day 1's dark", x.keepSo(2, 0, 4, 35, 0), 0);
        due.is("the dark man at the first light", x.keepSo(2, 0, 4, 36, 0), Due.NONE);
        due.is("the first in the eclipse", x.keepSo(0, 0, 4, 12, 0), Due.NONE);
        due.is("the first behind it", x.keepSo(0, 0, 4, 36, 0), 35);
        x.eclipse(12);
        due.is("it ends at noon: hers alone", x.keepSo(1, 0, 4, 13, 0), 12);
        due.is("the dark man at 11", x.keepSo(2, 0, 4, 12, 0), 0);
        due.is("the dark man at noon", x.keepSo(2, 0, 4, 13, 0), Due.NONE);
    }

    private static void agreedIsOfThingsOrNone() {
        Edge.ends(due, "agreed()", Edge::lived, ThreeHeirs::agreed, -1, 3, Due.UNKNOWN);
        due.is("agreed(NONE) of none", new ThreeHeirs().agreed(Due.NONE), 0);
        due.is("agreed(0) of none", new ThreeHeirs().agreed(0), Due.UNKNOWN);
        due.is("agreed(-2) of none", new ThreeHeirs().agreed(-2), Due.UNKNOWN);
        due.is("agreed(8) of eight", Edge.fullest().agreed(8), Due.UNKNOWN);
    }

    private static void agreedAtItsEnds() {
        ThreeHeirs x = Edge.fullest();
        due.is("agreed(NONE) of all", x.agreed(Due.NONE), 10);
        due.is("agreed(7): a want of 0", x.agreed(7), 0);
        due.is("agreed(6): a want of 9", x.agreed(6), 9);
        ThreeHeirs y = Due.of("c6 18;t2 5;t2 5;w0 0 9;w1 0 1;w2 0 0;");
        due.is("agreed(NONE) of three that are unlike", y.agreed(Due.NONE), 1);
        due.is("agreed(0): the least of like ones", y.agreed(0), 0);
        due.is("agreed(1): nobody wants it", y.agreed(1), Due.NONE);
        due.is("agreed(NONE) without wants", Due.of("c6 18;t2 5;").agreed(Due.NONE), 0);
        due.is("agreed(0) without wants", Due.of("c6 18;t2 5;").agreed(0), Due.NONE);
    }

    private static void againstIsOfTwoHeirs() {
        Edge.ends(due, "against(.., 1)", Edge::lived, (x, h) -> x.against(h == 1 ? 0 : h, 1), 0, 2, Due.UNKNOWN);
        Edge.ends(due, "against(1, ..)", Edge::lived, (x, k) -> x.against(1, k == 1 ? 0 : k), 0, 2, Due.UNKNOWN);
        for (int h = 0; h < 3; h++) {
            int twice = h;
            Edge.refused(due, "against() of one twice", Edge::lived, x -> x.against(twice, twice), Due.UNKNOWN);
            due.is("against() of one twice, of none", new ThreeHeirs().against(h, h), Due.UNKNOWN);
        }
        due.is("against(3, 3)", Edge.hall().against(3, 3), Due.UNKNOWN);
        due.is("against(0, 2) of none", new ThreeHeirs().against(0, 2), 0);
    }

    private static void againstAtItsEnds() {
        ThreeHeirs x = Due.of(Due.many(Due.many("c6 18;t2 0;", "w0 0 1;", 5), "w2 0 2;", 5));
        due.is("against(0, 2) of five and five", x.against(0, 2), 25);
        due.is("against(2, 0) likewise", x.against(2, 0), 25);
        due.is("against(0, 1): she wants nothing", x.against(0, 1), 0);
        due.is("against(0, 1) of like wants", Due.of("c6 18;t2 0;w0 0 1;w1 0 1;").against(0, 1), 0);
        due.is("against(0, 1) of two things", Due.of("c6 18;t2 0;t2 0;w0 0 1;w1 1 2;").against(0, 1), 0);
        due.is("against() of one with himself", Due.of("c6 18;t2 0;w0 0 1;w0 0 2;").against(0, 1), 0);
    }

    private static void moversHasBounds() {
        Edge.Maker old = () -> {
            ThreeHeirs x = Edge.hall();
            x.hour(30);
            x.hour(30);
            return x;
        };
        Edge.ends(due, "movers() of things", old, (x, t) -> x.movers(t, 5, 9), 0, 3, Due.UNKNOWN);
        Edge.ends(due, "movers() of values", old, (x, v) -> x.movers(2, v, 9), 0, 9, Due.OUTSIDE);
        Edge.ends(due, "movers() of hours", old, (x, n) -> x.movers(2, 5, n), 0, 48, Due.OUTSIDE);
        due.is("movers() of none", new ThreeHeirs().movers(0, 0, 0), Due.UNKNOWN);
        Edge.refused(due, "movers() of 1 of no hours", Edge::hall, x -> x.movers(0, 3, 1), Due.NOT);
        Edge.refused(due, "movers() of 48 of no hours", Edge::hall, x -> x.movers(0, 3, 48), Due.NOT);
        Edge.refused(due, "movers() of 49 of no hours", Edge::hall, x -> x.movers(0, 3, 49), Due.OUTSIDE);
        Edge.refused(due, "movers() of 11 of 10", Edge::lived, x -> x.movers(0, 3, 11), Due.NOT);
        due.isTrue("movers() of 10 of 10", Edge.lived().movers(0, 3, 10) >= 0);
    }

    private static void moversOfNoHours() {
        ThreeHeirs x = Due.of(ROOM);
        due.is("as it is", x.movers(2, 2, 0), 0);
        due.is("otherwise: nobody had an hour since", x.movers(2, 3, 0), 0);
        x.hour(1);
        due.is("otherwise, an hour ago", x.movers(2, 3, 1), 4);
        due.is("as it is, an hour ago", x.movers(2, 2, 1), 0);
    }

    private static void moversOf48Hours() {
        ThreeHeirs x = Due.of(ROOM);
        x.hour(30);
        x.hour(18);
        due.is("a chair moved in 48", x.movers(2, 3, 48), 7);
        due.is("a chair not moved in 48", x.movers(2, 2, 48), 0);
        due.is("a hedge grows to 9 from 1", x.movers(0, 1, 48), 0);
        due.is("a hedge does not from 0", x.movers(0, 0, 48), 7);
        due.is("a chair moved in the last six", x.movers(2, 3, 6), 4);
        due.is("a chair moved in the last seven", x.movers(2, 3, 7), 6);
        due.is("a chair moved in the last twelve", x.movers(2, 3, 12), 6);
        due.is("a chair moved in the last thirteen", x.movers(2, 3, 13), 7);
    }

    private static void moversWithoutEclipses() {
        ThreeHeirs x = Due.of(ROOM);
        x.hour(6);
        x.eclipse(6);
        x.hour(6);
        due.is("the morning is the first's", x.movers(2, 3, 6), 1);
        due.is("a hedge would have grown", x.movers(0, 3, 6), 1);
        due.is("a hedge that would have grown to it", x.movers(0, 1, 6), 0);
        due.is("a candle would not have burnt", x.movers(1, 0, 6), 0);
        x.eclipse(24);
        due.is("nor is the present one looked at", x.movers(2, 3, 6), 1);
    }

    private static void poorestIsOf0To1() {
        Edge.ends(due, "poorest()", Edge::lived, ThreeHeirs::poorest, 0, 1, Due.OUTSIDE);
        for (int what = 0; what < 2; what++) {
            due.is("poorest(" + what + ") of none", new ThreeHeirs().poorest(what), Due.NOT);
        }
    }

    private static void poorestAtItsEnds() {
        int[][] rows = {{0, 2}, {0, 22}, {0, 12}, {11, 2}, {2, 10}, {0, 2}, {1, 10}};
        String[] texts = {"c1 23;", "c11 13;", "c6 18;s4;", "c6 18;s0,1,2,3,4,5,6,7,8,0,0,9;", "c6 18;s0,4,5,5;",
            "c1 23;s4,9,5;", "c6 18;s4,5;"};
        for (int i = 0; i < texts.length; i++) {
            for (int what = 0; what < 2; what++) {
                due.is("poorest(" + what + ") of " + texts[i], Due.of(texts[i]).poorest(what), rows[i][what]);
            }
        }
        ThreeHeirs x = Due.of("c6 18;s0,4,5,5;");
        x.hour(30);
        x.eclipse(24);
        due.is("by the almanac alone", x.poorest(0), 2);
    }

    private static void lightIsOf0To1() {
        Edge.ends(due, "light()", Edge::lived, ThreeHeirs::light, 0, 1, Due.OUTSIDE);
        for (int what = 0; what < 2; what++) {
            due.is("light(" + what + ") of none", new ThreeHeirs().light(what), Due.NOT);
        }
        ThreeHeirs x = Due.of("c6 18;");
        x.eclipse(24);
        due.is("light(0) in an eclipse", x.light(0), 6);
    }

    private static void childHasBounds() {
        Edge.ends(due, "child(.., 0)", Edge::lived, (x, hour) -> x.child(hour, 0), 0, 23, Due.OUTSIDE);
        Edge.ends(due, "child(0, ..)", Edge::lived, (x, e) -> x.child(0, e), 0, 11, Due.OUTSIDE);
        Edge.refused(due, "child(0, 0) of none", ThreeHeirs::new, x -> x.child(0, 0), Due.NOT);
        Edge.refused(due, "child(23, 11) of none", ThreeHeirs::new, x -> x.child(23, 11), Due.NOT);
    }

    private static void childRoundTheDay() {
        // The first has 11 alone, the middle 12 alone.
        ThreeHeirs x = Due.of("c11 13;");
        int[][] rows = {{0, 0, 4}, {23, 0, 4}, {11, 0, 1}, {12, 0, 2}, {0, 10, 4}, {0, 11, 5}, {23, 10, 4}, {23, 11, 6},
            {1, 10, 5}, {1, 11, 7}, {22, 10, 6}, {22, 11, 7}, {11, 1, 7}, {10, 1, 5}, {13, 1, 6}, {12, 11, 7}};
        for (int[] row : rows) {
            due.is("child(" + row[0] + ", " + row[1] + ")", x.child(row[0], row[1]), row[2]);
        }
        ThreeHeirs june = Due.of("c1 23;");
        int[][] longDays = {{0, 0, 4}, {0, 1, 5}, {0, 2, 7}, {23, 1, 6}, {23, 2, 7}, {1, 0, 1}, {22, 0, 2}, {1, 1, 5}};
        for (int[] row : longDays) {
            due.is("child(" + row[0] + ", " + row[1] + ") in June", june.child(row[0], row[1]), row[2]);
        }
    }

    private static void childOfThisDay() {
        ThreeHeirs x = Due.of("c6 18;s4,9;");
        due.is("child(23, 2) of day 0: not tomorrow's morning", x.child(23, 2), 4);
        x.hour(23);
        due.is("child(1, 0) at 23", x.child(1, 0), 4);
        x.hour(1);
        due.is("child(1, 0) at 24", x.child(1, 0), 1);
        due.is("child(0, 2) of day 1: not yesterday's night", x.child(0, 2), 7);
        x.eclipse(24);
        due.is("child(1, 0) in an eclipse", x.child(1, 0), 1);
    }

    private static void clearHasBounds() {
        Edge.ends(due, "clear(.., 50)", Edge::lived, (x, n) -> x.clear(n, 50), 0, 60, Due.OUTSIDE);
        Edge.ends(due, "clear(9, ..)", Edge::lived, (x, q) -> x.clear(9, q), 0, 100, Due.OUTSIDE);
        ThreeHeirs x = new ThreeHeirs();
        due.is("clear(0, 0)", x.clear(0, 0), 1000000000);
        due.is("clear(0, 100)", x.clear(0, 100), 1000000000);
        due.is("clear(60, 0)", x.clear(60, 0), 0);
        due.is("clear(1, 0)", x.clear(1, 0), 0);
        due.is("clear(60, 100)", x.clear(60, 100), 1000000000);
        due.is("clear(61, 101)", x.clear(61, 101), Due.OUTSIDE);
    }

    private static void clearIsCutEachHour() {
        ThreeHeirs x = new ThreeHeirs();
        due.is("clear(1, 1)", x.clear(1, 1), 10000000);
        due.is("clear(4, 1)", x.clear(4, 1), 10);
        due.is("clear(5, 1)", x.clear(5, 1), 0);
        due.is("clear(60, 1)", x.clear(60, 1), 0);
        // 50 of a hundred: 1953125 is the last that is whole, 976562 and 488281 are cut.
        due.is("clear(9, 50)", x.clear(9, 50), 1953125);
        due.is("clear(10, 50)", x.clear(10, 50), 976562);
        due.is("clear(11, 50)", x.clear(11, 50), 488281);
        due.is("clear(29, 50)", x.clear(29, 50), 1);
        due.is("clear(30, 50)", x.clear(30, 50), 0);
        // Cut at each: 1291467 of 1291467.87, then 426184 of 426184.11, 140640 of 140640.72, 46411 of 46411.2.
        due.is("clear(6, 33)", x.clear(6, 33), 1291467);
        due.is("clear(9, 33)", x.clear(9, 33), 46411);
    }

    private static void nothingChangesByIt() {
        ThreeHeirs x = Edge.lived();
        x.whose(240);
        x.gets(2, 240);
        x.willBe(0, 240);
        x.next(1);
        x.keepSo(2, 1, 3, 48, 1);
        x.agreed(0);
        x.against(0, 1);
        x.movers(0, 9, 10);
        x.poorest(1);
        x.light(1);
        x.child(23, 11);
        x.clear(60, 99);
        x.fits(1);
        x.lookAt();
        x.judge();
        due.isTrue("all is as it was", Edge.wholeOf(x).equals(Edge.wholeOf(Edge.lived())));
    }
}
