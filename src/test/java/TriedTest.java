/** Promises 17 to 28: what is tried from now, and what can be reckoned from what is told. */
public final class TriedTest {
    private static final Due due = new Due();
    private static final String HALL = "c6 18;s4,7,1;t0 3;t1 5;t2 2;t3 8;l4;l2;w0 0 3;w1 0 6;w2 0 3;w2 1 5;w0 2 9;";

    public static void main(String[] args) {
        whose();
        gets();
        willBe();
        next();
        keepSo();
        keepSoLater();
        keepSoRefuses();
        agreed();
        against();
        movers();
        poorest();
        light();
        child();
        clear();
        due.finish();
    }

    private static void whose() {
        ThreeHeirs x = Due.of(HALL);
        // Day 1 has season 7, so it is light from 3 to 21; day 2 has season 1: from 9 to 15.
        int[][] rows = {{0, 2}, {5, 2}, {6, 0}, {11, 0}, {12, 1}, {17, 1}, {18, 2}, {26, 2}, {27, 0}, {44, 1}, {45, 2},
            {56, 2}, {57, 0}, {62, 1}, {63, 2}, {77, 2}, {78, 0}, {240, 2}};
        for (int[] row : rows) {
            due.is("whose(" + row[0] + ")", x.whose(row[0]), row[1]);
        }
        x.hour(6);
        due.is("whose(0) at 6", x.whose(0), 0);
        x.eclipse(2);
        due.is("whose(0) of 2", x.whose(0), 2);
        due.is("whose(1) of 2", x.whose(1), 2);
        due.is("whose(2) of 2", x.whose(2), 0);
        due.is("whose(-1)", x.whose(-1), Due.OUTSIDE);
        due.is("whose(241)", x.whose(241), Due.OUTSIDE);
        due.is("whose(0) of none", new ThreeHeirs().whose(0), Due.NOT);
        due.is("whose(241) of none", new ThreeHeirs().whose(241), Due.OUTSIDE);
    }

    private static void gets() {
        ThreeHeirs x = Due.of(HALL);
        due.is("gets(0, 0)", x.gets(0, 0), 0);
        due.is("gets(2, 6)", x.gets(2, 6), 36);
        due.is("gets(0, 7)", x.gets(0, 7), 6);
        due.is("gets(0, 48)", x.gets(0, 48), 90);
        x.eclipse(8);
        due.is("gets(0, 24) by an eclipse", x.gets(0, 24), 24);
        due.is("gets(2, 24) by an eclipse", x.gets(2, 24), 84);
        due.is("gets(3, 0)", x.gets(3, 0), Due.UNKNOWN);
        due.is("gets(-1, 241)", x.gets(-1, 241), Due.UNKNOWN);
        due.is("gets(0, 241)", x.gets(0, 241), Due.OUTSIDE);
        due.is("gets(0, -1)", x.gets(0, -1), Due.OUTSIDE);
        due.is("gets(0, 9) of none", new ThreeHeirs().gets(0, 9), 0);
        String before = Due.stateOf(x);
        x.gets(1, 240);
        x.willBe(0, 240);
        due.isTrue("nothing changes by it", Due.stateOf(x).equals(before));
    }

    private static void willBe() {
        ThreeHeirs x = Due.of(HALL);
        due.is("willBe(0, 0)", x.willBe(0, 0), 3);
        due.is("willBe(0, 6)", x.willBe(0, 6), 3);
        due.is("willBe(0, 7)", x.willBe(0, 7), 4);
        due.is("willBe(1, 3)", x.willBe(1, 3), 2);
        due.is("willBe(3, 12)", x.willBe(3, 12), 8);
        due.is("willBe(3, 13)", x.willBe(3, 13), 0);
        x.eclipse(10);
        due.is("willBe(0, 24) by an eclipse", x.willBe(0, 24), 5);
        x.eclipse(9);
        due.is("willBe(0, 10) right behind an eclipse", x.willBe(0, 10), 4);
        due.is("willBe(0, 240)", x.willBe(0, 240), 9);
        due.is("willBe(4, 0)", x.willBe(4, 0), Due.UNKNOWN);
        due.is("willBe(-1, 241)", x.willBe(-1, 241), Due.UNKNOWN);
        due.is("willBe(0, 241)", x.willBe(0, 241), Due.OUTSIDE);
        due.is("willBe(0, -1)", x.willBe(0, -1), Due.OUTSIDE);
    }

    private static void next() {
        ThreeHeirs x = Due.of(HALL);
        due.is("next(0)", x.next(0), 6);
        due.is("next(1)", x.next(1), 12);
        due.is("next(2)", x.next(2), 0);
        x.hour(12);
        due.is("next(0) at noon", x.next(0), 15);
        due.is("next(1) at noon", x.next(1), 0);
        due.is("next(2) at noon", x.next(2), 6);
        x.eclipse(24);
        due.is("next(1) by an eclipse", x.next(1), 24);
        due.is("next(0) by an eclipse", x.next(0), 45);
        due.is("next(3)", x.next(3), Due.UNKNOWN);
        due.is("next(-1)", x.next(-1), Due.UNKNOWN);
        due.is("next(0) of none", new ThreeHeirs().next(0), Due.NOT);
        due.is("next(3) of none", new ThreeHeirs().next(3), Due.UNKNOWN);
    }

    private static void keepSo() {
        ThreeHeirs x = Due.of("c6 18;t0 3;t1 5;t2 2;t3 8;");
        due.is("a chair at 9: when", x.keepSo(0, 2, 7, 9, 0), 6);
        due.is("a chair at 9: to what", x.keepSo(0, 2, 7, 9, 1), 7);
        due.is("a chair: the last is not his", x.keepSo(0, 2, 7, 13, 0), Due.NONE);
        due.is("a chair: the last is not his", x.keepSo(0, 2, 7, 6, 1), Due.NONE);
        due.is("a hedge grows at 6 and 9: when", x.keepSo(0, 0, 5, 12, 0), 6);
        due.is("a hedge grows at 6 and 9: from what", x.keepSo(0, 0, 5, 12, 1), 3);
        due.is("a hedge grown out: the least", x.keepSo(0, 0, 9, 12, 1), 7);
        due.is("music at noon", x.keepSo(1, 3, 0, 14, 1), 0);
        due.is("the dark have the night from now", x.keepSo(2, 2, 4, 6, 0), 0);
        due.is("a candle that is out by then", x.keepSo(2, 1, 0, 6, 0), 0);
        due.is("a candle that is out by then", x.keepSo(2, 1, 0, 6, 1), 0);
        x.hour(9);
        x.eclipse(2);
        due.is("an eclipse cuts the morning", x.keepSo(0, 2, 1, 3, 0), 2);
        due.is("an eclipse is the dark man's", x.keepSo(2, 2, 1, 2, 0), 0);
    }

    private static void keepSoLater() {
        ThreeHeirs x = Due.of("c6 18;t0 3;t1 5;t2 2;t3 8;");
        due.is("a candle at 6: as late as it can last", x.keepSo(2, 1, 5, 6, 0), 2);
        due.is("a candle at 6: from what", x.keepSo(2, 1, 5, 6, 1), 9);
        due.is("a candle at 6 that cannot be", x.keepSo(2, 1, 9, 6, 1), Due.NONE);
        due.is("a hedge at 12, low: behind 6", x.keepSo(0, 0, 1, 12, 0), 7);
        due.is("a hedge at 12, low: from what", x.keepSo(0, 0, 1, 12, 1), 0);
        due.is("a hedge at 12, lowest: behind 9", x.keepSo(0, 0, 0, 12, 0), 10);
        due.is("a hedge that grows at the last", x.keepSo(0, 0, 0, 10, 0), Due.NONE);
        due.is("music behind noon", x.keepSo(1, 3, 6, 15, 0), 13);
        due.is("music behind noon: to what", x.keepSo(1, 3, 6, 15, 1), 6);
        due.is("music at noon", x.keepSo(1, 3, 6, 13, 0), Due.NONE);
    }

    private static void keepSoRefuses() {
        ThreeHeirs x = Due.of(HALL);
        due.is("heir 3", x.keepSo(3, 0, 0, 1, 0), Due.UNKNOWN);
        due.is("heir -1, all outside", x.keepSo(-1, 0, 10, 0, 2), Due.UNKNOWN);
        due.is("thing 4", x.keepSo(0, 4, 0, 1, 0), Due.UNKNOWN);
        due.is("thing -1", x.keepSo(0, -1, 0, 1, 0), Due.UNKNOWN);
        due.is("v 10", x.keepSo(0, 0, 10, 1, 0), Due.OUTSIDE);
        due.is("v -1", x.keepSo(0, 0, -1, 1, 0), Due.OUTSIDE);
        due.is("n 0", x.keepSo(0, 0, 0, 0, 0), Due.OUTSIDE);
        due.is("n 49", x.keepSo(0, 0, 0, 49, 0), Due.OUTSIDE);
        due.is("what 2", x.keepSo(0, 0, 0, 1, 2), Due.OUTSIDE);
        due.is("what -1", x.keepSo(0, 0, 0, 1, -1), Due.OUTSIDE);
        due.is("n 48", x.keepSo(2, 2, 0, 48, 0), 45);
        due.is("n 1", x.keepSo(2, 2, 0, 1, 0), 0);
        due.is("n 1 of another", x.keepSo(0, 2, 0, 1, 0), Due.NONE);
        due.is("of none", new ThreeHeirs().keepSo(0, 0, 0, 1, 0), Due.UNKNOWN);
    }

    private static void agreed() {
        ThreeHeirs x = Due.of("c6 18;t2 0;t2 0;t2 0;w0 0 7;w1 0 7;w2 0 1;w0 1 8;w1 1 3;w1 1 3;w1 1 8;");
        due.is("agreed(NONE)", x.agreed(Due.NONE), 4);
        due.is("agreed(0)", x.agreed(0), 7);
        due.is("agreed(1): the least of like ones", x.agreed(1), 3);
        due.is("agreed(2): nobody wants it", x.agreed(2), Due.NONE);
        due.is("agreed(3)", x.agreed(3), Due.UNKNOWN);
        due.is("agreed(0) of one want", Due.of("c6 18;t2 5;w1 0 0;").agreed(0), 0);
        due.is("agreed(NONE) of one want", Due.of("c6 18;t2 5;w1 0 0;").agreed(Due.NONE), 1);
        due.is("agreed(-2)", x.agreed(-2), Due.UNKNOWN);
        due.is("agreed(NONE) of none", new ThreeHeirs().agreed(Due.NONE), 0);
        due.is("agreed(0) of none", new ThreeHeirs().agreed(0), Due.UNKNOWN);
    }

    private static void against() {
        ThreeHeirs x = Due.of("c6 18;t2 0;t2 0;w0 0 7;w0 0 6;w1 0 7;w1 0 5;w1 1 5;w0 1 5;w2 1 0;");
        due.is("against(0, 1)", x.against(0, 1), 3);
        due.is("against(1, 0)", x.against(1, 0), 3);
        due.is("against(0, 2)", x.against(0, 2), 1);
        due.is("against(2, 1)", x.against(2, 1), 1);
        due.is("against(1, 1)", x.against(1, 1), Due.UNKNOWN);
        due.is("against(3, 1)", x.against(3, 1), Due.UNKNOWN);
        due.is("against(0, -1)", x.against(0, -1), Due.UNKNOWN);
        due.is("against(0, 1) of none", new ThreeHeirs().against(0, 1), 0);
    }

    private static void movers() {
        ThreeHeirs x = Due.of("c6 18;t0 3;t1 5;t2 2;t3 8;");
        due.is("n more than hours", x.movers(0, 3, 1), Due.NOT);
        due.is("n 49 of no hours", x.movers(0, 3, 49), Due.OUTSIDE);
        due.is("now as it is", x.movers(0, 3, 0), 0);
        due.is("nobody had an hour since", x.movers(0, 4, 0), 0);
        x.hour(8);
        due.is("a hedge by itself", x.movers(0, 3, 8), 0);
        due.is("a hedge moved since 0", x.movers(0, 4, 8), 5);
        due.is("a hedge moved since 7", x.movers(0, 5, 1), 1);
        due.is("a candle by itself", x.movers(1, 6, 8), 0);
        due.is("a candle moved", x.movers(1, 7, 8), 5);
        x.put(2, 4);
        x.hour(6);
        due.is("a chair moved since 7", x.movers(2, 2, 7), 3);
        due.is("a chair moved since 0", x.movers(2, 2, 14), 7);
        due.is("a chair not moved", x.movers(2, 4, 14), 0);
        due.is("music by itself", x.movers(3, 9, 2), 0);
        x.eclipse(4);
        x.hour(4);
        due.is("eclipses are not looked at: holders", x.movers(2, 9, 4), 2);
        // The hedge did not grow at 15 by the eclipse, which by itself it would.
        due.is("eclipses are not looked at: values", x.movers(0, x.thing(0, 1), 4), 2);
        due.is("thing 4", x.movers(4, 10, 99), Due.UNKNOWN);
        due.is("thing -1", x.movers(-1, 0, 0), Due.UNKNOWN);
        due.is("x 10", x.movers(0, 10, 0), Due.OUTSIDE);
        due.is("x -1", x.movers(0, -1, 0), Due.OUTSIDE);
        due.is("n -1", x.movers(0, 0, -1), Due.OUTSIDE);
        due.is("n 49", x.movers(0, 0, 49), Due.OUTSIDE);
        due.is("n 19 of 18", x.movers(0, 0, 19), Due.NOT);
    }

    private static void poorest() {
        ThreeHeirs x = Due.of(HALL);
        due.is("poorest(0)", x.poorest(0), 1);
        due.is("poorest(1)", x.poorest(1), 6);
        due.is("poorest(2)", x.poorest(2), Due.OUTSIDE);
        due.is("poorest(-1)", x.poorest(-1), Due.OUTSIDE);
        x = Due.of("c6 18;");
        due.is("poorest(0) without seasons", x.poorest(0), 0);
        due.is("poorest(1) without seasons", x.poorest(1), 12);
        x = Due.of("c2 23;s4,5,9,6;");
        due.is("poorest(0): the first of like ones", x.poorest(0), 1);
        due.is("poorest(1): the least", x.poorest(1), 2);
        x = Due.of("c6 18;s4,8,8;");
        due.is("poorest(0) of like ones", x.poorest(0), 1);
        due.is("poorest(0) of none", new ThreeHeirs().poorest(0), Due.NOT);
        due.is("poorest(2) of none", new ThreeHeirs().poorest(2), Due.OUTSIDE);
    }

    private static void light() {
        ThreeHeirs x = Due.of("c6 18;s4,9,0;");
        int[][] days = {{6, 18}, {1, 23}, {10, 14}, {6, 18}};
        for (int day = 0; day < 4; day++) {
            due.is("light(0) of day " + day, x.light(0), days[day][0]);
            due.is("light(1) of day " + day, x.light(1), days[day][1]);
            x.hour(23);
            due.is("light(0) at the end of day " + day, x.light(0), days[day][0]);
            x.hour(1);
        }
        x = Due.of("c8 16;s0;");
        due.is("light(0) at most", x.light(0), 11);
        due.is("light(1) at least", x.light(1), 13);
        due.is("light(2)", x.light(2), Due.OUTSIDE);
        due.is("light(-1)", x.light(-1), Due.OUTSIDE);
        due.is("light(0) of none", new ThreeHeirs().light(0), Due.NOT);
        due.is("light(2) of none", new ThreeHeirs().light(2), Due.OUTSIDE);
    }

    private static void child() {
        ThreeHeirs x = Due.of("c6 18;s4,9;");
        due.is("child(11, 0)", x.child(11, 0), 1);
        due.is("child(11, 1)", x.child(11, 1), 3);
        due.is("child(12, 0)", x.child(12, 0), 2);
        due.is("child(15, 3)", x.child(15, 3), 6);
        due.is("child(12, 6)", x.child(12, 6), 7);
        due.is("child(0, 6)", x.child(0, 6), 5);
        due.is("child(23, 7)", x.child(23, 7), 7);
        due.is("child(23, 6)", x.child(23, 6), 6);
        due.is("child(0, 11)", x.child(0, 11), 7);
        x.hour(10);
        x.eclipse(20);
        due.is("eclipses are not looked at", x.child(11, 0), 1);
        x.hour(20);
        due.is("child(1, 0) of day 1", x.child(1, 0), 1);
        due.is("child(0, 0) of day 1", x.child(0, 0), 4);
        due.is("child(23, 2) of day 1", x.child(23, 2), 7);
        due.is("child(24, 0)", x.child(24, 0), Due.OUTSIDE);
        due.is("child(-1, 0)", x.child(-1, 0), Due.OUTSIDE);
        due.is("child(0, 12)", x.child(0, 12), Due.OUTSIDE);
        due.is("child(0, -1)", x.child(0, -1), Due.OUTSIDE);
        due.is("child(0, 0) of none", new ThreeHeirs().child(0, 0), Due.NOT);
        due.is("child(24, 0) of none", new ThreeHeirs().child(24, 0), Due.OUTSIDE);
    }

    private static void clear() {
        ThreeHeirs x = new ThreeHeirs();
        due.is("clear(0, 0)", x.clear(0, 0), 1000000000);
        due.is("clear(1, 0)", x.clear(1, 0), 0);
        due.is("clear(60, 100)", x.clear(60, 100), 1000000000);
        due.is("clear(2, 90)", x.clear(2, 90), 810000000);
        due.is("clear(60, 99)", x.clear(60, 99), 547156620);
        due.is("clear(6, 33)", x.clear(6, 33), 1291467);
        due.is("clear(61, 0)", x.clear(61, 0), Due.OUTSIDE);
        due.is("clear(-1, 0)", x.clear(-1, 0), Due.OUTSIDE);
        due.is("clear(0, 101)", x.clear(0, 101), Due.OUTSIDE);
        due.is("clear(0, -1)", x.clear(0, -1), Due.OUTSIDE);
    }
}
