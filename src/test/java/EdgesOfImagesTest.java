/** The edges of promises 35 to 37: the seed and the two images. */
public final class EdgesOfImagesTest {
    private static final Due due = new Due();
    private static final int MOST_SEED = 2147483647;

    public static void main(String[] args) {
        theSeedIs0AtFirst();
        seedIsOf0ToTheMost();
        seedIsNoDeed();
        imagesAre0And1();
        anImageThatWasNotKept();
        nothingIsUndoneBehindAnImage();
        aRefusedImageLeavesThePast();
        imagesAreApart();
        anImageIsKeptAnew();
        anImageHasAllOfSection2();
        anImageOfNoCounty();
        imagesAreGoneByAText();
        due.finish();
    }

    private static void theSeedIs0AtFirst() {
        due.is("seed() of none", new ThreeHeirs().seed(5), 0);
        due.is("seed() of a county", Edge.hall().seed(5), 0);
    }

    private static void seedIsOf0ToTheMost() {
        Edge.ends(due, "seed()", Edge::lived, ThreeHeirs::seed, 0, MOST_SEED, Due.OUTSIDE);
        Edge.ends(due, "seed() of none", ThreeHeirs::new, ThreeHeirs::seed, 0, MOST_SEED, Due.OUTSIDE);
        ThreeHeirs x = new ThreeHeirs();
        due.is("seed(most)", x.seed(MOST_SEED), 0);
        due.is("seed(0)", x.seed(0), MOST_SEED);
        due.is("seed(0) again", x.seed(0), 0);
    }

    private static void seedIsNoDeed() {
        ThreeHeirs x = Edge.lived();
        x.seed(9);
        due.is("told(15)", x.told(15), 7);
        due.is("undo(7)", x.undo(7), 7);
        due.is("the seed stays", x.seed(0), 9);
    }

    private static void imagesAre0And1() {
        Edge.ends(due, "keep()", Edge::lived, ThreeHeirs::keep, 0, 1, Due.UNKNOWN);
        Edge.ends(due, "goBack()", Edge::lived, ThreeHeirs::goBack, 0, 1, Due.UNKNOWN);
        for (int i = 0; i < 2; i++) {
            due.is("keep(" + i + ")", Edge.lived().keep(i), 1);
            due.is("goBack(" + i + ")", Edge.lived().goBack(i), 1);
        }
    }

    private static void anImageThatWasNotKept() {
        for (int i = 0; i < 2; i++) {
            int image = i;
            Edge.Maker other = () -> {
                ThreeHeirs x = Edge.hall();
                x.keep(1 - image);
                x.hour(3);
                return x;
            };
            Edge.refused(due, "goBack(" + i + ") of the other", other, x -> x.goBack(image), Due.NOT);
            Edge.refused(due, "goBack(" + i + ") of none", ThreeHeirs::new, x -> x.goBack(image), Due.NOT);
        }
    }

    private static void nothingIsUndoneBehindAnImage() {
        ThreeHeirs x = Edge.lived();
        x.keep(0);
        due.is("told(15) behind keep()", x.told(15), 0);
        due.is("undo(1) behind keep()", x.undo(1), Due.NOT);
        x.hour(1);
        due.is("undo(2) behind keep() and an hour", x.undo(2), Due.NOT);
        due.is("undo(1) behind keep() and an hour", x.undo(1), 10);
        x.hour(2);
        x.goBack(1);
        due.is("told(15) behind goBack()", x.told(15), 0);
        due.is("undo(1) behind goBack()", x.undo(1), Due.NOT);
        x.hour(2);
        due.is("undo(2) behind goBack() and two hours", x.undo(2), 7);
        ThreeHeirs full = Edge.hall();
        full.hour(30);
        full.hour(15);
        full.keep(0);
        full.hour(30);
        due.is("told(15) full again", full.told(15), 30);
        due.is("undo(30)", full.undo(30), 45);
    }

    private static void aRefusedImageLeavesThePast() {
        ThreeHeirs x = Edge.hall();
        x.hour(2);
        x.keep(2);
        x.goBack(2);
        x.goBack(0);
        due.is("told(15)", x.told(15), 2);
        due.is("undo(2)", x.undo(2), 0);
    }

    private static void imagesAreApart() {
        ThreeHeirs x = Edge.lived();
        due.is("goBack(1)", x.goBack(1), 1);
        due.is("told(6) of 1", x.told(6), 7);
        due.is("goBack(0)", x.goBack(0), 1);
        due.is("told(6) of 0", x.told(6), 3);
        x.hour(20);
        due.is("goBack(0) again", x.goBack(0), 1);
        due.is("told(6) of 0 again", x.told(6), 3);
        due.is("goBack(1) again", x.goBack(1), 1);
        due.is("told(6) of 1 again", x.told(6), 7);
    }

    private static void anImageIsKeptAnew() {
        ThreeHeirs x = Edge.lived();
        x.keep(0);
        x.hour(5);
        x.goBack(0);
        due.is("told(6) of 0", x.told(6), 10);
        x.goBack(1);
        due.is("told(6) of 1", x.told(6), 7);
    }

    private static void anImageHasAllOfSection2() {
        ThreeHeirs x = Edge.hall();
        x.hour(8);
        for (int i = 0; i < 20; i++) {
            x.put(3, i % 10);
        }
        x.note(2, 1);
        x.eclipse(24);
        x.seed(77);
        x.keep(1);
        ThreeHeirs y = Edge.hall();
        y.hour(8);
        for (int i = 0; i < 20; i++) {
            y.put(3, i % 10);
        }
        y.note(2, 1);
        y.eclipse(24);
        y.seed(77);
        y.keep(1);
        x.drift(30);
        x.put(0, 0);
        x.note(0, 0);
        x.eclipse(0);
        x.goBack(1);
        due.isTrue("all is as it was kept, the seed too", Due.stateOf(x).equals(Due.stateOf(y)));
    }

    private static void anImageOfNoCounty() {
        ThreeHeirs x = new ThreeHeirs();
        x.seed(8);
        due.is("keep(1) of none", x.keep(1), 1);
        x.seed(9);
        due.is("goBack(1) of none", x.goBack(1), 1);
        due.is("the seed of it", x.seed(0), 8);
    }

    private static void imagesAreGoneByAText() {
        String[] texts = {Edge.HALL, ""};
        for (String text : texts) {
            ThreeHeirs x = new ThreeHeirs();
            x.keep(0);
            x.keep(1);
            Due.feedAll(x, text);
            x.county();
            due.is("goBack(0) behind " + text, x.goBack(0), Due.NOT);
            due.is("goBack(1) behind " + text, x.goBack(1), Due.NOT);
            x.keep(0);
            due.is("goBack(0) kept anew", x.goBack(0), 1);
        }
        ThreeHeirs y = Edge.lived();
        due.is("county() with a fault", y.county(), -11);
        due.is("goBack(0) behind a fault", y.goBack(0), 1);
    }
}
