/** Promises 1 to 10: the text, its faults, and what is told of the county. */
public final class CountyTest {
    private static final Due due = new Due();
    private static final String HALL = "c6 18;s4,7,1;t0 3;t1 5;t2 2;t3 8;l4;l2;w0 0 3;w1 0 6;w2 0 3;w2 1 5;w0 2 9;";

    public static void main(String[] args) {
        newObject();
        feeding();
        emptyText();
        faultsOfLetters();
        faultsOfNumbers();
        faultsOfCounts();
        faultsAtTheEnd();
        blanksAndFigures();
        faultLeavesAll();
        countyStartsAnew();
        nothingOfEarlierTextsStays();
        tellsCounty();
        tellsWhoHoldsAtTheEdge();
        tellsHeirs();
        tellsThingsAndWants();
        tellsLog();
        due.finish();
    }

    private static void newObject() {
        ThreeHeirs x = new ThreeHeirs();
        for (int i = 0; i < 16; i++) {
            due.is("new told(" + i + ")", x.told(i), i == 8 ? Due.NONE : 0);
        }
        for (int h = 0; h < 3; h++) {
            for (int what = 0; what < 4; what++) {
                due.is("new heir", x.heir(h, what), 0);
            }
        }
        due.is("new fault()", x.fault(), Due.NONE);
        due.is("new thing(0, 0)", x.thing(0, 0), Due.UNKNOWN);
        due.is("new want(0, 0)", x.want(0, 0), Due.UNKNOWN);
        due.is("new known(0, 0)", x.known(0, 0), Due.UNKNOWN);
        due.is("new logged(0, 0)", x.logged(0, 0), Due.NONE);
        due.is("new seed", x.seed(5), 0);
    }

    private static void feeding() {
        ThreeHeirs x = new ThreeHeirs();
        due.is("feed(-1)", x.feed(-1), Due.OUTSIDE);
        due.is("feed(256)", x.feed(256), Due.OUTSIDE);
        due.is("feed(0)", x.feed(0), 1);
        due.is("feed(255)", x.feed(255), 2);
        for (int i = 3; i <= 240; i++) {
            due.is("feed(32)", x.feed(32), i);
        }
        due.is("feed(32) of 240", x.feed(32), Due.FULL);
        due.is("feed(256) of 240", x.feed(256), Due.OUTSIDE);
        due.is("told(5) of 240", x.told(5), 240);
        due.is("county()", x.county(), -11);
        due.is("fault()", x.fault(), 0);
        due.is("told(5) behind county()", x.told(5), 0);
        due.is("feed(99) behind county()", x.feed(99), 1);
    }

    private static void emptyText() {
        ThreeHeirs x = Due.of(HALL);
        due.is("county() of nothing", x.county(), 0);
        due.is("fault() of nothing", x.fault(), Due.NONE);
        due.is("told(0) of nothing", x.told(0), 0);
        due.is("told(8) of nothing", x.told(8), Due.NONE);
        due.is("thing(0, 1) of nothing", x.thing(0, 1), Due.UNKNOWN);
        due.is("hour(1) of nothing", x.hour(1), Due.NOT);
        // Blanks may stand anywhere, so a text of blanks tells as little as an empty one.
        Due.feedAll(x, "  ");
        due.is("county() of blanks", x.county(), 0);
        due.is("told(0) of blanks", x.told(0), 0);
    }

    private static void faultsOfLetters() {
        due.fault("t0 0;", 1, 0);
        due.fault("  s4;", 1, 2);
        due.fault("x", 1, 0);
        due.fault(";", 1, 0);
        due.fault("c1;", 1, 2);
        due.fault("c;", 1, 1);
        due.fault("c 1 13 5;", 1, 7);
        due.fault("c 1 13 5555;", 1, 7);
        due.fault("c1 13;;", 1, 6);
        due.fault("c1 13;x", 1, 6);
        due.fault("c1 13;C1 13;", 1, 6);
        due.fault("c1,13;", 1, 2);
        due.fault("c1 13t", 1, 5);
        due.fault("c1 13;s;", 1, 7);
        due.fault("c1 13;s1,;", 1, 9);
        due.fault("c1 13;s1 2;", 1, 9);
        due.fault("c1 13;s1,2,3,4,5,6,7,8,9,0,1,2,3;", 1, 30);
        due.fault("c1 13;s1,2,3,4,5,6,7,8,9,0,1,2 ,", 1, 31);
        due.fault("c1 13;l1,2;", 1, 8);
        due.fault("c-1 13;", 1, 1);
        due.fault("c1\t13;", 1, 2);
        due.fault("c1 13;" + (char) 233, 1, 6);
    }

    private static void faultsOfNumbers() {
        due.fault("c0 13;", 2, 1);
        due.fault("c12 13;", 2, 1);
        due.fault("c1 12;", 2, 3);
        due.fault("c 1  24;", 2, 5);
        due.fault("c113;", 2, 1);
        due.fault("c0001 13;", 2, 1);
        due.fault("c1 9999999999999", 2, 3);
        due.fault("c0 x", 2, 1);
        due.fault("c1 13;s10;", 2, 7);
        due.fault("c1 13;s1, 12;", 2, 10);
        due.fault("c1 13;t4 0;", 2, 7);
        due.fault("c1 13;t0 10;", 2, 9);
        due.fault("c1 13;l0;", 2, 7);
        due.fault("c1 13;l10;", 2, 7);
        due.fault("c1 13;t0 0;w3 0 0;", 2, 12);
        due.fault("c1 13;t0 0;w0 1 0;", 2, 14);
        due.fault("c1 13;w0 0 0;t0 0;", 2, 9);
        due.fault("c1 13;t0 0;w0 0000 0;", 2, 14);
        due.fault("c1 13;t0 0;w0 0 10;", 2, 16);
    }

    private static void faultsOfCounts() {
        due.fault("c1 13;c1 13;", 3, 6);
        due.fault("c1 13;cx", 3, 6);
        due.fault("c1 13;s4;l1; s4;", 3, 13);
        due.sound(Due.many("c1 13;", "t0 0;", 8), 8);
        due.fault(Due.many("c1 13;", "t0 0;", 9), 3, 46);
        due.sound(Due.many("c1 13;", "l9;", 6), 0);
        due.fault(Due.many("c1 13;", "l9;", 7), 3, 24);
        due.sound(Due.many("c1 13;t0 0;", "w0 0 0;", 10), 1);
        due.fault(Due.many("c1 13;t0 0;", "w0 0 0;", 11), 3, 81);
    }

    private static void faultsAtTheEnd() {
        due.fault("c", 1, 1);
        due.fault("c1 13", 1, 5);
        due.fault("c1 ", 1, 3);
        due.fault("c1 13;s4,", 1, 9);
        due.fault("c1 13; w", 1, 8);
        due.fault("c1 13;t0 0", 1, 10);
        due.fault("c1 0", 2, 3);
    }

    private static void blanksAndFigures() {
        due.sound("c1 13;", 0);
        due.sound("c11 23;", 0);
        due.sound("  c  001   013 ; s 4 , 009 ; t 0 9 ; l 1 ; w 2 0 9 ;  ", 1);
        ThreeHeirs x = Due.of("c01 13;s0,9;t3 009;l9;w2 000 07;");
        due.is("light(0)", x.light(0), 5);
        due.is("told(4)", x.told(4), 2);
        due.is("thing(0, 0)", x.thing(0, 0), 3);
        due.is("thing(0, 1)", x.thing(0, 1), 9);
        due.is("want(0, 2)", x.want(0, 2), 7);
        due.sound("c1 13;s1,2,3,4,5,6,7,8,9,0,1,2;", 0);
    }

    private static void faultLeavesAll() {
        ThreeHeirs x = Due.of(HALL);
        x.hour(7);
        x.put(1, 9);
        x.keep(1);
        x.hour(2);
        x.find(0, 1, true);
        x.write(1, 9);
        x.seed(77);
        String before = Due.stateOf(x);
        Due.feedAll(x, "c1 13;t0 1;t4 0;");
        due.is("county() with a fault", x.county(), -12);
        due.is("fault()", x.fault(), 12);
        x.fault();
        due.isTrue("all is as it was", Due.stateOf(x).replace("/12 ", "/-1 ").equals(before));
        due.is("undo(2)", x.undo(2), 7);
        due.is("goBack(1)", x.goBack(1), 1);
    }

    private static void countyStartsAnew() {
        ThreeHeirs x = Due.of(HALL);
        x.seed(33);
        x.hour(8);
        x.put(0, 1);
        x.note(1, 0);
        x.eclipse(5);
        x.find(0, 1, true);
        x.write(0, 1);
        x.keep(0);
        x.hour(1);
        Due.feedAll(x, HALL);
        due.is("county() again", x.county(), 4);
        x.seed(0);
        due.isTrue("as of a new one", Due.stateOf(x).equals(Due.stateOf(Due.of(HALL))));
        due.is("goBack(0) of a gone image", x.goBack(0), Due.NOT);
        due.is("undo(1)", x.undo(1), Due.NOT);
        x.seed(44);
        Due.feedAll(x, "c1 13;");
        x.county();
        due.is("the seed stays", x.seed(0), 44);
    }

    private static void nothingOfEarlierTextsStays() {
        ThreeHeirs x = Due.of(HALL);
        Due.feedAll(x, "c1 13;s9;t0 1;l9;w0 0 1;x");
        due.is("county() with a fault", x.county(), -11);
        for (int i = 0; i < 3; i++) {
            Due.feedAll(x, "c7 17;t2 6;");
            due.is("county() behind a fault", x.county(), 1);
            due.is("fault() behind a fault", x.fault(), Due.NONE);
            due.isTrue("as of a new one", Due.stateOf(x).equals(Due.stateOf(Due.of("c7 17;t2 6;"))));
            due.is("gets(2, 24) without lands", x.gets(2, 24), 0);
            due.is("agreed(NONE) without wants", x.agreed(Due.NONE), 0);
        }
    }

    private static void tellsWhoHoldsAtTheEdge() {
        ThreeHeirs x = Due.of(HALL);
        x.hour(5);
        due.is("told(8) at 5", x.told(8), 2);
        due.is("told(10) at 5", x.told(10), 8);
        due.is("note(0, 2) at 5", x.note(0, 2), 2);
        due.is("note(2, 2) at 5", x.note(2, 2), Due.NOT);
        due.is("put(2, 2) at 5", x.put(2, 2), 2);
        due.is("logged(0, 1) at 5", x.logged(0, 1), 2);
        x.hour(6);
        due.is("told(8) at 11", x.told(8), 0);
        due.is("put(2, 2) at 11", x.put(2, 2), 0);
        due.is("logged(0, 1) at 11", x.logged(0, 1), 0);
    }

    private static void tellsCounty() {
        ThreeHeirs x = Due.of(HALL);
        x.feed('c');
        int[] start = {1, 4, 2, 5, 3, 1, 0, 0, 2, 13, 8, 0, 0, 0, 0, 0};
        for (int i = 0; i < 16; i++) {
            due.is("told(" + i + ")", x.told(i), start[i]);
        }
        x.hour(7);
        x.put(3, 1);
        x.eclipse(3);
        x.find(0, 0, false);
        x.find(1, 0, false);
        x.write(2, 2);
        // Six hours of the dark and one of the first heir by now: 36 and 6; the candle is out.
        int[] later = {1, 4, 2, 5, 3, 1, 7, 3, 2, 0, 6, 36, 1, 2, 1, 9};
        for (int i = 0; i < 16; i++) {
            due.is("later told(" + i + ")", x.told(i), later[i]);
        }
        due.is("told(-1)", x.told(-1), Due.OUTSIDE);
        due.is("told(16)", x.told(16), Due.OUTSIDE);
        due.is("told(4) untold", Due.of("c6 18;").told(4), 0);
    }

    private static void tellsHeirs() {
        ThreeHeirs x = Due.of(HALL);
        x.hour(8);
        // The dark heir's want of the candle is met in his first hour alone.
        int[][] rows = {{12, 3, 2, 0}, {0, 0, 1, 15}, {36, 5, 2, 1}};
        for (int h = 0; h < 3; h++) {
            for (int what = 0; what < 4; what++) {
                due.is("heir(" + h + ", " + what + ")", x.heir(h, what), rows[h][what]);
            }
        }
        due.is("heir(-1, 0)", x.heir(-1, 0), Due.UNKNOWN);
        due.is("heir(3, 9)", x.heir(3, 9), Due.UNKNOWN);
        due.is("heir(0, 4)", x.heir(0, 4), Due.OUTSIDE);
        due.is("heir(0, -1)", x.heir(0, -1), Due.OUTSIDE);
    }

    private static void tellsThingsAndWants() {
        ThreeHeirs x = Due.of(HALL);
        for (int t = 0; t < 4; t++) {
            due.is("thing(" + t + ", 0)", x.thing(t, 0), t);
        }
        due.is("thing(3, 1)", x.thing(3, 1), 8);
        due.is("thing(4, 0)", x.thing(4, 0), Due.UNKNOWN);
        due.is("thing(-1, 7)", x.thing(-1, 7), Due.UNKNOWN);
        due.is("thing(0, 2)", x.thing(0, 2), Due.OUTSIDE);
        due.is("thing(0, -1)", x.thing(0, -1), Due.OUTSIDE);
        due.is("want(4, 0)", x.want(4, 0), 0);
        due.is("want(4, 1)", x.want(4, 1), 2);
        due.is("want(4, 2)", x.want(4, 2), 9);
        due.is("want(5, 0)", x.want(5, 0), Due.UNKNOWN);
        due.is("want(-1, 5)", x.want(-1, 5), Due.UNKNOWN);
        due.is("want(0, 3)", x.want(0, 3), Due.OUTSIDE);
        due.is("want(0, -1)", x.want(0, -1), Due.OUTSIDE);
        x.hour(1);
        due.is("known(2, 1)", x.known(2, 1), 5);
        due.is("thing(1, 1)", x.thing(1, 1), 4);
        due.is("known(0, 1)", x.known(0, 1), Due.NONE);
        due.is("known(3, 0)", x.known(3, 0), Due.UNKNOWN);
        due.is("known(-1, 0)", x.known(-1, 0), Due.UNKNOWN);
        due.is("known(0, 4)", x.known(0, 4), Due.UNKNOWN);
        due.is("known(0, -1)", x.known(0, -1), Due.UNKNOWN);
    }

    private static void tellsLog() {
        ThreeHeirs x = Due.of(HALL);
        x.put(1, 7);
        x.hour(6);
        x.put(0, 2);
        int[][] rows = {{6, 0, 0, 2}, {0, 2, 1, 7}};
        for (int i = 0; i < 2; i++) {
            for (int what = 0; what < 4; what++) {
                due.is("logged(" + i + ", " + what + ")", x.logged(i, what), rows[i][what]);
            }
        }
        due.is("logged(2, 0)", x.logged(2, 0), Due.NONE);
        due.is("logged(-1, 0)", x.logged(-1, 0), Due.NONE);
        due.is("logged(9, 4)", x.logged(9, 4), Due.OUTSIDE);
        due.is("logged(0, -1)", x.logged(0, -1), Due.OUTSIDE);
        for (int i = 0; i < 19; i++) {
            x.put(2, i % 10);
        }
        due.is("told(12) of 21", x.told(12), 20);
        due.is("logged(0, 3) of 21", x.logged(0, 3), 8);
        due.is("logged(19, 0) of 21", x.logged(19, 0), 6);
        due.is("logged(19, 3) of 21", x.logged(19, 3), 2);
        due.is("logged(18, 3) of 21", x.logged(18, 3), 0);
        due.is("logged(20, 2) of 21", x.logged(20, 2), Due.NONE);
    }
}
