/** The edges of promises 29 to 34: what is found, what fits, where to look, and the book. */
public final class EdgesOfFoundTest {
    private static final Due due = new Due();
    private static final String PAIR = "c6 18;t2 3;t2 5;";

    public static void main(String[] args) {
        findIsOfThingsAndValues();
        sixAreFound();
        fitsIsOf0To1();
        allFitWhenNothingIsFound();
        fitsAtTheLeastAndTheGreatest();
        fitsAsItIs();
        noneFits();
        fitsAsThingsAreNow();
        lookAtWithoutMuch();
        lookAtWhatPartsNothing();
        lookAtTheLeastOfLikeOnes();
        lookAtTheLeastGreatestPart();
        lookAtAgain();
        writeIsOfThingsAndValues();
        twentyAreWritten();
        judgeAtItsEnds();
        tearAtItsEnds();
        whatIsFoundStays();
        due.finish();
    }

    private static void findIsOfThingsAndValues() {
        Edge.ends(due, "find(.., 0)", Edge::lived, (x, t) -> x.find(t, 0, true), 0, 3, Due.UNKNOWN);
        Edge.ends(due, "find(0, ..)", Edge::lived, (x, v) -> x.find(0, v, false), 0, 9, Due.OUTSIDE);
        Edge.refused(due, "find(0, 0) of none", ThreeHeirs::new, x -> x.find(0, 0, true), Due.UNKNOWN);
        Edge.refused(due, "find(0, 0) without things", () -> Due.of("c6 18;"), x -> x.find(0, 0, true), Due.UNKNOWN);
        due.is("find(7, 9) of eight", Edge.fullest().find(7, 9, true), 1);
        due.is("find(8, 9) of eight", Edge.fullest().find(8, 9, true), Due.UNKNOWN);
    }

    private static void sixAreFound() {
        ThreeHeirs x = Due.of(PAIR);
        due.is("told(13) at first", x.told(13), 0);
        for (int i = 1; i <= 6; i++) {
            due.is("find " + i, x.find(0, 3, true), i);
        }
        // Were the seventh kept, none would fit.
        due.is("find 7", x.find(0, 3, false), Due.FULL);
        due.is("told(13)", x.told(13), 6);
        due.is("fits(0): (0, 3) and all of the other", x.fits(0), 11);
        Edge.refused(due, "find 7 of a full one", Edge::brimming, y -> y.find(0, 3, true), Due.FULL);
        x.tear();
        due.is("find anew", x.find(1, 9, true), 1);
        due.is("fits(0) anew", x.fits(0), 1);
    }

    private static void fitsIsOf0To1() {
        Edge.ends(due, "fits()", Edge::lived, ThreeHeirs::fits, 0, 1, Due.OUTSIDE);
        Edge.ends(due, "fits() of none", ThreeHeirs::new, ThreeHeirs::fits, 0, 1, Due.OUTSIDE);
    }

    private static void allFitWhenNothingIsFound() {
        String[] texts = {"c6 18;", "c6 18;t2 9;", PAIR, Edge.FULLEST};
        int[] sums = {0, 10, 20, 80};
        for (int i = 0; i < texts.length; i++) {
            due.is("fits(0) of " + texts[i], Due.of(texts[i]).fits(0), sums[i]);
            due.is("fits(1) of " + texts[i], Due.of(texts[i]).fits(1), i == 0 ? Due.NONE : 0);
        }
        due.is("fits(0) of none", new ThreeHeirs().fits(0), 0);
        due.is("fits(1) of none", new ThreeHeirs().fits(1), Due.NONE);
    }

    private static void fitsAtTheLeastAndTheGreatest() {
        ThreeHeirs x = Edge.fullest();
        x.find(7, 9, true);
        due.is("fits(0) of the greatest", x.fits(0), 1);
        due.is("fits(1) of the greatest", x.fits(1), 79);
        x.tear();
        x.find(0, 0, true);
        due.is("fits(0) of the least", x.fits(0), 1);
        due.is("fits(1) of the least", x.fits(1), 0);
    }

    private static void fitsAsItIs() {
        ThreeHeirs x = Due.of("c6 18;t2 3;");
        x.find(0, 3, true);
        due.is("set to what it is: fits(0)", x.fits(0), 1);
        due.is("set to what it is: fits(1)", x.fits(1), 3);
        x.tear();
        x.find(0, 3, false);
        due.is("set to another: fits(0)", x.fits(0), 9);
        due.is("set to another: fits(1)", x.fits(1), 0);
    }

    private static void noneFits() {
        ThreeHeirs x = Due.of(PAIR);
        x.find(0, 4, true);
        x.find(1, 5, false);
        due.is("two were moved: fits(0)", x.fits(0), 0);
        due.is("two were moved: fits(1)", x.fits(1), Due.NONE);
        due.is("two were moved: lookAt()", x.lookAt(), Due.NONE);
        x.tear();
        x.find(0, 4, true);
        x.find(0, 5, true);
        due.is("one in two ways: fits(0)", x.fits(0), 0);
        due.is("one in two ways: fits(1)", x.fits(1), Due.NONE);
    }

    private static void fitsAsThingsAreNow() {
        ThreeHeirs x = Due.of("c6 18;t1 5;t2 0;");
        x.find(0, 4, true);
        due.is("a candle of 5", x.fits(0), 1);
        x.hour(1);
        due.is("a candle of 4", x.fits(0), 11);
        x.put(0, 9);
        due.is("a candle of 9", x.fits(0), 1);
        x.undo(1);
        due.is("a candle of 4 again", x.fits(0), 11);
    }

    private static void lookAtWithoutMuch() {
        due.is("lookAt() of none", new ThreeHeirs().lookAt(), Due.NONE);
        due.is("lookAt() without things", Due.of("c6 18;").lookAt(), Due.NONE);
        due.is("lookAt() of one thing", Due.of("c6 18;t2 3;").lookAt(), 0);
        ThreeHeirs x = Due.of("c6 18;t2 3;");
        x.find(0, 3, true);
        due.is("lookAt() of one that fits", x.lookAt(), Due.NONE);
    }

    private static void lookAtWhatPartsNothing() {
        ThreeHeirs x = Due.of(PAIR);
        x.find(0, 3, true);
        x.find(1, 5, true);
        // Two fit, and by both all is as it is.
        due.is("fits(0)", x.fits(0), 2);
        due.is("lookAt()", x.lookAt(), Due.NONE);
    }

    private static void lookAtTheLeastOfLikeOnes() {
        due.is("lookAt() of two that are alike", Due.of(PAIR).lookAt(), 0);
        due.is("lookAt() of eight", Edge.fullest().lookAt(), 0);
        ThreeHeirs x = Due.of(PAIR + "t2 7;");
        x.find(0, 3, true);
        due.is("lookAt() of the two that are left", x.lookAt(), 1);
    }

    private static void lookAtTheLeastGreatestPart() {
        ThreeHeirs x = Due.of(PAIR);
        x.find(1, 5, false);
        // Nine are left, all of thing 1: by thing 0 they are alike.
        due.is("lookAt() at the last", x.lookAt(), 1);
        x.tear();
        for (int v = 0; v < 3; v++) {
            x.find(0, v, false);
        }
        // Of thing 0 seven, of thing 1 ten: by 0 eleven are alike, by 1 eight.
        due.is("fits(0)", x.fits(0), 17);
        due.is("lookAt() by fewer that are alike", x.lookAt(), 1);
    }

    private static void lookAtAgain() {
        ThreeHeirs x = Due.of("c6 18;t2 0;t2 9;");
        for (int i = 0; i < 3; i++) {
            due.is("lookAt() once more", x.lookAt(), 0);
        }
        ThreeHeirs y = Due.of("c6 18;t2 9;t2 0;");
        for (int i = 0; i < 3; i++) {
            due.is("lookAt() once more, of the other", y.lookAt(), 0);
        }
    }

    private static void writeIsOfThingsAndValues() {
        Edge.ends(due, "write(.., 0)", Edge::lived, (x, t) -> x.write(t, 0), 0, 3, Due.UNKNOWN);
        Edge.ends(due, "write(0, ..)", Edge::lived, (x, v) -> x.write(0, v), 0, 9, Due.OUTSIDE);
        Edge.refused(due, "write(0, 0) of none", ThreeHeirs::new, x -> x.write(0, 0), Due.UNKNOWN);
        due.is("write(7, 9) of eight", Edge.fullest().write(7, 9), 1);
        due.is("write(8, 9) of eight", Edge.fullest().write(8, 9), Due.UNKNOWN);
    }

    private static void twentyAreWritten() {
        ThreeHeirs x = Due.of(PAIR);
        due.is("told(14) at first", x.told(14), 0);
        for (int i = 1; i <= 20; i++) {
            due.is("write " + i, x.write(0, 3), i);
        }
        due.is("write 21", x.write(0, 4), Due.FULL);
        due.is("told(14)", x.told(14), 20);
        due.is("judge(): the 21st is not there", x.judge(), Due.NONE);
        Edge.refused(due, "write 21 of a full one", Edge::brimming, y -> y.write(0, 3), Due.FULL);
        x.tear();
        due.is("write anew", x.write(1, 9), 1);
        due.is("judge() anew", x.judge(), 0);
    }

    private static void judgeAtItsEnds() {
        ThreeHeirs x = Due.of(PAIR);
        due.is("judge() of no book", x.judge(), Due.NONE);
        x.write(0, 4);
        due.is("judge(): the first of one", x.judge(), 0);
        x.tear();
        for (int i = 0; i < 19; i++) {
            x.write(1, 5);
        }
        x.write(0, 4);
        due.is("judge(): the last of twenty", x.judge(), 19);
        x.put(0, 4);
        due.is("judge(): none by now", x.judge(), Due.NONE);
        x.put(1, 0);
        due.is("judge(): the first by now", x.judge(), 0);
        due.is("judge() of none", new ThreeHeirs().judge(), Due.NONE);
    }

    private static void tearAtItsEnds() {
        due.is("tear() of none", new ThreeHeirs().tear(), 0);
        due.is("tear() of nothing", Edge.hall().tear(), 0);
        ThreeHeirs x = Edge.brimming();
        due.is("tear() of all", x.tear(), 26);
        due.is("told(13)", x.told(13), 0);
        due.is("told(14)", x.told(14), 0);
        due.is("tear() again", x.tear(), 0);
        ThreeHeirs y = Due.of(PAIR);
        y.find(0, 0, true);
        due.is("tear() of a find", y.tear(), 1);
        y.write(0, 0);
        due.is("tear() of an entry", y.tear(), 1);
        ThreeHeirs z = Edge.lived();
        z.tear();
        due.is("it is no deed", z.told(15), 7);
    }

    /** Only a text and tear() end what is found and the book: both are of section 3. */
    private static void whatIsFoundStays() {
        ThreeHeirs x = Edge.lived();
        x.undo(7);
        x.goBack(0);
        x.keep(1);
        due.is("told(13)", x.told(13), 2);
        due.is("told(14)", x.told(14), 2);
        due.is("county() with a fault", x.county(), -11);
        due.is("told(13) behind a fault", x.told(13), 2);
        due.is("told(14) behind a fault", x.told(14), 2);
        x.county();
        due.is("told(13) behind a text", x.told(13), 0);
        due.is("told(14) behind a text", x.told(14), 0);
    }
}
