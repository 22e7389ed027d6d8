/** Promises 35 to 37: the seed and the images. */
public final class ImagesTest {
    private static final Due due = new Due();
    private static final String HALL = "c6 18;s4,7,1;t0 3;t1 5;t2 2;t3 8;l4;l2;w0 0 3;w1 0 6;w2 0 3;w2 1 5;w0 2 9;";

    public static void main(String[] args) {
        seeds();
        keeps();
        goesBack();
        imagesAreTwo();
        nothingIsUndoneAcross();
        imagesWithoutCounty();
        due.finish();
    }

    private static void seeds() {
        ThreeHeirs x = new ThreeHeirs();
        due.is("seed(2147483647)", x.seed(2147483647), 0);
        due.is("seed(-1)", x.seed(-1), Due.OUTSIDE);
        due.is("seed(0)", x.seed(0), 2147483647);
        due.is("seed(51)", x.seed(51), 0);
        Due.feedAll(x, "c6 18;");
        x.county();
        due.is("seed stays by county()", x.seed(1), 51);
        x.drift(1);
        // The draw of 8 is 6 by this, so no other is made.
        due.is("seed behind one draw", x.seed(51), 1103527590);
        x.drift(1);
        // The draw of 8 is 1, so one of 4 comes behind it.
        due.is("seed behind two draws", x.seed(0), 440457577);
    }

    private static void keeps() {
        ThreeHeirs x = Due.of(HALL);
        due.is("keep(2)", x.keep(2), Due.UNKNOWN);
        due.is("keep(-1)", x.keep(-1), Due.UNKNOWN);
        x.hour(3);
        due.is("keep(0)", x.keep(0), 1);
        due.is("told(15)", x.told(15), 0);
        due.is("undo(1)", x.undo(1), Due.NOT);
        due.is("told(6)", x.told(6), 3);
    }

    private static void goesBack() {
        ThreeHeirs x = Due.of(HALL);
        due.is("goBack(2)", x.goBack(2), Due.UNKNOWN);
        due.is("goBack(-1)", x.goBack(-1), Due.UNKNOWN);
        due.is("goBack(0)", x.goBack(0), Due.NOT);
        x.hour(9);
        x.put(0, 7);
        x.note(2, 0);
        x.eclipse(6);
        x.seed(123);
        x.keep(0);
        String before = Due.stateOf(x);
        x.hour(30);
        x.put(1, 1);
        x.note(x.told(8) == 0 ? 1 : 0, 1);
        x.drift(20);
        x.seed(5);
        due.is("goBack(0)", x.goBack(0), 1);
        due.isTrue("all is as it was kept", Due.stateOf(x).equals(before));
        x.hour(1);
        due.is("goBack(0) again", x.goBack(0), 1);
        due.isTrue("the image stays", Due.stateOf(x).equals(before));
        due.is("goBack(1)", x.goBack(1), Due.NOT);
    }

    private static void imagesAreTwo() {
        ThreeHeirs x = Due.of(HALL);
        x.keep(0);
        x.hour(5);
        x.keep(1);
        x.hour(5);
        x.goBack(0);
        due.is("told(6) of image 0", x.told(6), 0);
        x.goBack(1);
        due.is("told(6) of image 1", x.told(6), 5);
        x.keep(0);
        x.hour(1);
        x.goBack(0);
        due.is("told(6) of image 0 kept anew", x.told(6), 5);
    }

    private static void nothingIsUndoneAcross() {
        ThreeHeirs x = Due.of(HALL);
        x.keep(1);
        x.hour(4);
        due.is("goBack(1)", x.goBack(1), 1);
        due.is("told(15)", x.told(15), 0);
        due.is("undo(1)", x.undo(1), Due.NOT);
        x.hour(2);
        due.is("goBack(0), not kept", x.goBack(0), Due.NOT);
        due.is("told(15) stays", x.told(15), 2);
        due.is("undo(2)", x.undo(2), 0);
    }

    private static void imagesWithoutCounty() {
        ThreeHeirs x = new ThreeHeirs();
        x.seed(8);
        due.is("keep(0) of none", x.keep(0), 1);
        x.seed(9);
        due.is("goBack(0) of none", x.goBack(0), 1);
        due.is("the seed of the image", x.seed(0), 8);
        Due.feedAll(x, "c6 18;");
        x.county();
        due.is("goBack(0): gone by county()", x.goBack(0), Due.NOT);
    }
}
