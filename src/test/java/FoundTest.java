/** Promises 29 to 34: what is found and fits, where to look next, and the book. */
public final class FoundTest {
    private static final Due due = new Due();
    private static final String ROOM = "c6 18;t2 3;t2 5;t2 2;t1 8;";

    public static void main(String[] args) {
        finding();
        fitting();
        fittingAsNow();
        looking();
        writing();
        judging();
        tearing();
        staysByDeeds();
        due.finish();
    }

    private static void finding() {
        ThreeHeirs x = Due.of(ROOM);
        due.is("find(4, 0)", x.find(4, 0, true), Due.UNKNOWN);
        due.is("find(-1, 10)", x.find(-1, 10, true), Due.UNKNOWN);
        due.is("find(0, 10)", x.find(0, 10, true), Due.OUTSIDE);
        due.is("find(0, -1)", x.find(0, -1, false), Due.OUTSIDE);
        for (int i = 1; i <= 6; i++) {
            due.is("find " + i, x.find(0, 3, true), i);
        }
        due.is("find 7", x.find(0, 3, true), Due.FULL);
        due.is("find 7 outside", x.find(0, 10, true), Due.OUTSIDE);
        due.is("told(13)", x.told(13), 6);
        due.is("find of none", new ThreeHeirs().find(0, 0, true), Due.UNKNOWN);
    }

    private static void fitting() {
        ThreeHeirs x = Due.of(ROOM);
        due.is("fits(0) of nothing found", x.fits(0), 40);
        due.is("fits(1) of nothing found", x.fits(1), 0);
        x.find(0, 3, true);
        due.is("fits(0)", x.fits(0), 31);
        due.is("fits(1): as it is", x.fits(1), 3);
        x.find(1, 5, false);
        due.is("fits(0)", x.fits(0), 9);
        due.is("fits(1)", x.fits(1), 10);
        x.find(1, 7, true);
        due.is("fits(0)", x.fits(0), 1);
        due.is("fits(1)", x.fits(1), 17);
        x.find(2, 9, true);
        due.is("fits(0): two cannot have been", x.fits(0), 0);
        due.is("fits(1)", x.fits(1), Due.NONE);
        due.is("fits(2)", x.fits(2), Due.OUTSIDE);
        due.is("fits(-1)", x.fits(-1), Due.OUTSIDE);
        due.is("fits(0) of none", new ThreeHeirs().fits(0), 0);
        due.is("fits(1) of none", new ThreeHeirs().fits(1), Due.NONE);
    }

    private static void fittingAsNow() {
        ThreeHeirs x = Due.of(ROOM);
        x.find(3, 6, true);
        due.is("fits(0)", x.fits(0), 1);
        due.is("fits(1)", x.fits(1), 36);
        x.hour(2);
        due.is("fits(0) when the candle is at 6", x.fits(0), 31);
        due.is("fits(1) when the candle is at 6", x.fits(1), 0);
    }

    private static void looking() {
        ThreeHeirs x = Due.of(ROOM);
        due.is("lookAt() of nothing found", x.lookAt(), 0);
        x.find(0, 3, true);
        due.is("lookAt(): not at what is found", x.lookAt(), 1);
        x.find(2, 2, false);
        due.is("lookAt(): at what was moved", x.lookAt(), 2);
        x.find(2, 4, true);
        due.is("lookAt(): one is left", x.lookAt(), Due.NONE);
        x.find(2, 4, false);
        due.is("lookAt(): none is left", x.lookAt(), Due.NONE);
        due.is("lookAt() of none", new ThreeHeirs().lookAt(), Due.NONE);
        x = Due.of("c6 18;t2 5;t2 0;");
        x.find(0, 4, false);
        // By thing 0 eleven are alike of nineteen, by thing 1 ten.
        due.is("lookAt(): the greatest part is least", x.lookAt(), 1);
    }

    private static void writing() {
        ThreeHeirs x = Due.of(ROOM);
        due.is("write(4, 0)", x.write(4, 0), Due.UNKNOWN);
        due.is("write(-1, 10)", x.write(-1, 10), Due.UNKNOWN);
        due.is("write(0, 10)", x.write(0, 10), Due.OUTSIDE);
        due.is("write(0, -1)", x.write(0, -1), Due.OUTSIDE);
        for (int i = 1; i <= 20; i++) {
            due.is("write " + i, x.write(1, 5), i);
        }
        due.is("write 21", x.write(1, 5), Due.FULL);
        due.is("write 21 outside", x.write(1, 10), Due.OUTSIDE);
        due.is("told(14)", x.told(14), 20);
        due.is("write of none", new ThreeHeirs().write(0, 0), Due.UNKNOWN);
    }

    private static void judging() {
        ThreeHeirs x = Due.of(ROOM);
        due.is("judge() of no book", x.judge(), Due.NONE);
        x.write(0, 3);
        x.write(3, 8);
        due.is("judge() of a right book", x.judge(), Due.NONE);
        x.write(1, 4);
        x.write(2, 4);
        due.is("judge(): the first", x.judge(), 2);
        x.hour(1);
        due.is("judge(): as it is now", x.judge(), 1);
        x.put(0, 9);
        due.is("judge() behind put", x.judge(), 0);
        due.is("judge() of none", new ThreeHeirs().judge(), Due.NONE);
    }

    private static void tearing() {
        ThreeHeirs x = Due.of(ROOM);
        due.is("tear() of nothing", x.tear(), 0);
        x.find(0, 9, true);
        x.find(1, 9, true);
        x.write(0, 0);
        due.is("tear()", x.tear(), 3);
        due.is("told(13)", x.told(13), 0);
        due.is("told(14)", x.told(14), 0);
        due.is("fits(0)", x.fits(0), 40);
        due.is("judge()", x.judge(), Due.NONE);
        due.is("tear() again", x.tear(), 0);
        due.is("find anew", x.find(2, 2, true), 1);
        due.is("write anew", x.write(2, 2), 1);
    }

    private static void staysByDeeds() {
        ThreeHeirs x = Due.of(ROOM);
        x.keep(0);
        x.hour(1);
        x.find(0, 3, true);
        x.write(0, 3);
        x.undo(1);
        due.is("told(13) behind undo", x.told(13), 1);
        due.is("told(14) behind undo", x.told(14), 1);
        x.goBack(0);
        due.is("told(13) behind goBack", x.told(13), 1);
        due.is("told(14) behind goBack", x.told(14), 1);
    }
}
