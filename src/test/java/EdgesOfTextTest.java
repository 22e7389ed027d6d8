/** The edges of section 1 and of promises 1 to 4: how long a text is, what it may tell, and where its fault is. */
public final class EdgesOfTextTest {
    private static final Due due = new Due();
    private static final String ONE = "c6 18;t2 0;";

    public static void main(String[] args) {
        aNewObjectHasNoCounty();
        aLetterIsOf0To255();
        aTextHas240Letters();
        the241stLetterIsNotRead();
        aTextIsEmptyBehindCounty();
        anEmptyTextIsNoCounty();
        anEmptyTextEndsACounty();
        sunriseIsOf1To11();
        darkIsOf13To23();
        seasonsAre1To12();
        aSeasonIsOf0To9();
        untoldSeasonsAre4();
        thingsAre8();
        aKindIsOf0To3();
        aValueIsOf0To9();
        landsAre6();
        aRentIsOf1To9();
        wantsAre10();
        aWantIsOfAnHeir();
        aWantIsOfAThingToldAhead();
        aWantIsOfAValue();
        numbersHave1To3Figures();
        blanksStandAnywhere();
        blanksPartNumbers();
        twoNumbersNeedABlank();
        theFirstWordIsC();
        aLetterThatIsNoWord();
        aLetterThatCannotStandThere();
        cAndSComeOnce();
        theFirstFaultGoesAheadOfALesser();
        theLeastFaultOfOneLetter();
        theEndIsAtTheLength();
        faultIsOfTheLatestCounty();
        aFaultLeavesAllButTheText();
        countyBeginsAnew();
        nothingOfTheEarlierTextStays();
        theSeedStays();
        due.finish();
    }

    private static void aNewObjectHasNoCounty() {
        ThreeHeirs x = new ThreeHeirs();
        due.is("told(0)", x.told(0), 0);
        due.is("told(8)", x.told(8), Due.NONE);
        due.is("fault()", x.fault(), Due.NONE);
        due.is("county() of nothing", x.county(), 0);
        due.isTrue("it is as it was", Edge.wholeOf(x).equals(Edge.wholeOf(new ThreeHeirs())));
    }

    private static void aLetterIsOf0To255() {
        Edge.ends(due, "feed()", ThreeHeirs::new, ThreeHeirs::feed, 0, 255, Due.OUTSIDE);
        Edge.ends(due, "feed() of a county", Edge::lived, ThreeHeirs::feed, 0, 255, Due.OUTSIDE);
    }

    private static void aTextHas240Letters() {
        ThreeHeirs x = new ThreeHeirs();
        String text = Due.many("c6 18", " ", 234) + ";";
        for (int i = 0; i < 240; i++) {
            due.is("feed " + i, x.feed(text.charAt(i)), i + 1);
        }
        due.is("told(5)", x.told(5), 240);
        due.is("county() reads all of it", x.county(), 0);
        due.is("told(0)", x.told(0), 1);
        due.is("told(5) behind it", x.told(5), 0);
    }

    private static void the241stLetterIsNotRead() {
        ThreeHeirs x = new ThreeHeirs();
        Due.feedAll(x, Due.many("c6 18", " ", 235));
        due.is("the 241st", x.feed(';'), Due.FULL);
        due.is("the 241st again", x.feed(';'), Due.FULL);
        due.is("told(5)", x.told(5), 240);
        due.is("county()", x.county(), -11);
        due.is("fault() at the text's length", x.fault(), 240);
    }

    private static void aTextIsEmptyBehindCounty() {
        ThreeHeirs x = new ThreeHeirs();
        String[] texts = {ONE, "x", "", "c6 18;t2 10;"};
        for (String text : texts) {
            Due.feedAll(x, text);
            due.is("told(5) of " + text, x.told(5), text.length());
            x.county();
            due.is("told(5) behind " + text, x.told(5), 0);
        }
        due.is("the first letter of the next", x.feed('c'), 1);
        ThreeHeirs full = Edge.brimming();
        full.county();
        due.is("the first letter behind a full one", full.feed('c'), 1);
    }

    private static void anEmptyTextIsNoCounty() {
        ThreeHeirs x = new ThreeHeirs();
        due.is("county()", x.county(), 0);
        due.is("fault()", x.fault(), Due.NONE);
        due.is("told(0)", x.told(0), 0);
        due.is("one letter is not empty", x.feed('c'), 1);
        due.is("county() of one letter", x.county(), -11);
        due.is("fault() of one letter", x.fault(), 1);
    }

    private static void anEmptyTextEndsACounty() {
        ThreeHeirs x = Edge.hall();
        x.hour(7);
        x.put(0, 1);
        x.keep(0);
        x.hour(1);
        x.find(0, 1, true);
        x.write(0, 1);
        due.is("county()", x.county(), 0);
        due.isTrue("as a new object", Edge.wholeOf(x).equals(Edge.wholeOf(new ThreeHeirs())));
    }

    private static void sunriseIsOf1To11() {
        due.fault("c0 18;", 2, 1);
        due.sound("c1 18;", 0);
        due.is("light(0) of 1", Due.of("c1 18;").light(0), 1);
        due.sound("c11 18;", 0);
        due.is("light(0) of 11", Due.of("c11 18;").light(0), 11);
        due.fault("c12 18;", 2, 1);
        due.fault("c999 18;", 2, 1);
    }

    private static void darkIsOf13To23() {
        due.fault("c6 12;", 2, 3);
        due.sound("c6 13;", 0);
        due.is("light(1) of 13", Due.of("c6 13;").light(1), 13);
        due.sound("c6 23;", 0);
        due.is("light(1) of 23", Due.of("c6 23;").light(1), 23);
        due.fault("c6 24;", 2, 3);
        due.fault("c6 0;", 2, 3);
        due.fault("c6 999;", 2, 3);
    }

    private static void seasonsAre1To12() {
        due.fault("c6 18;s;", 1, 7);
        due.sound("c6 18;s4;", 0);
        due.is("told(4) of one", Due.of("c6 18;s4;").told(4), 1);
        String twelve = "c6 18;s0,1,2,3,4,5,6,7,8,9,0,1";
        due.sound(twelve + ";", 0);
        due.is("told(4) of twelve", Due.of(twelve + ";").told(4), 12);
        due.fault(twelve + ",", 1, 30);
        due.fault(twelve + ",2;", 1, 30);
        due.fault(twelve + " , 10;", 1, 31);
    }

    private static void aSeasonIsOf0To9() {
        due.sound("c6 18;s0;", 0);
        due.sound("c6 18;s9;", 0);
        due.fault("c6 18;s10;", 2, 7);
        due.fault("c6 18;s4,10;", 2, 9);
        due.fault("c6 18;s0,1,2,3,4,5,6,7,8,9,0,10;", 2, 29);
        due.fault("c6 18;s-1;", 1, 7);
    }

    private static void untoldSeasonsAre4() {
        String[] texts = {"c6 18;", "c6 18;s4;"};
        for (String text : texts) {
            ThreeHeirs x = Due.of(text);
            due.is("light(0) of " + text, x.light(0), 6);
            due.is("light(1) of " + text, x.light(1), 18);
            x.hour(24);
            due.is("light(0) of day 1 of " + text, x.light(0), 6);
        }
        due.is("told(4) untold", Due.of("c6 18;").told(4), 0);
    }

    private static void thingsAre8() {
        due.sound("c6 18;", 0);
        due.sound(Due.many("c6 18;", "t2 0;", 1), 1);
        due.sound(Due.many("c6 18;", "t2 0;", 8), 8);
        due.fault(Due.many("c6 18;", "t2 0;", 9), 3, 46);
        due.fault(Due.many("c6 18;", "t2 0;", 8) + "t", 3, 46);
    }

    private static void aKindIsOf0To3() {
        due.sound("c6 18;t0 0;", 1);
        due.sound("c6 18;t3 0;", 1);
        due.fault("c6 18;t4 0;", 2, 7);
        due.fault("c6 18;t-1 0;", 1, 7);
        due.is("thing(0, 0)", Due.of("c6 18;t3 0;").thing(0, 0), 3);
    }

    private static void aValueIsOf0To9() {
        due.is("thing(0, 1) of 0", Due.of("c6 18;t2 0;").thing(0, 1), 0);
        due.is("thing(0, 1) of 9", Due.of("c6 18;t2 9;").thing(0, 1), 9);
        due.fault("c6 18;t2 10;", 2, 9);
        due.fault("c6 18;t2 -1;", 1, 9);
    }

    private static void landsAre6() {
        due.is("told(2) of none", Due.of("c6 18;").told(2), 0);
        due.sound(Due.many("c6 18;", "l9;", 6), 0);
        due.is("told(2) of six", Due.of(Due.many("c6 18;", "l9;", 6)).told(2), 6);
        due.fault(Due.many("c6 18;", "l9;", 7), 3, 24);
        due.fault(Due.many("c6 18;", "l9;", 6) + "l", 3, 24);
    }

    private static void aRentIsOf1To9() {
        due.fault("c6 18;l0;", 2, 7);
        due.is("gets(2, 1) of 1", Due.of("c6 18;l1;").gets(2, 1), 1);
        due.is("gets(2, 1) of 9", Due.of("c6 18;l9;").gets(2, 1), 9);
        due.is("gets(2, 1) of all", Due.of(Due.many("c6 18;", "l9;", 6)).gets(2, 1), 54);
        due.fault("c6 18;l10;", 2, 7);
    }

    private static void wantsAre10() {
        due.is("told(3) of none", Due.of(ONE).told(3), 0);
        due.sound(Due.many(ONE, "w0 0 0;", 10), 1);
        due.is("told(3) of ten", Due.of(Due.many(ONE, "w0 0 0;", 10)).told(3), 10);
        due.fault(Due.many(ONE, "w0 0 0;", 11), 3, 81);
        due.fault(Due.many(ONE, "w0 0 0;", 10) + "w", 3, 81);
    }

    private static void aWantIsOfAnHeir() {
        due.is("want(0, 0) of 0", Due.of(ONE + "w0 0 0;").want(0, 0), 0);
        due.is("want(0, 0) of 2", Due.of(ONE + "w2 0 0;").want(0, 0), 2);
        due.fault(ONE + "w3 0 0;", 2, 12);
        due.fault(ONE + "w-1 0 0;", 1, 12);
    }

    private static void aWantIsOfAThingToldAhead() {
        due.fault("c6 18;w0 0 0;", 2, 9);
        due.fault("c6 18;w0 0 0;t2 0;", 2, 9);
        due.sound(ONE + "w0 0 0;", 1);
        due.fault(ONE + "w0 1 0;", 2, 14);
        due.fault(ONE + "w0 1 0;t2 0;", 2, 14);
        due.sound(ONE + "t2 0;w0 1 0;", 2);
        due.is("want(0, 1) of the last", Due.of(Due.many("c6 18;", "t2 0;", 8) + "w0 7 0;").want(0, 1), 7);
        due.fault(Due.many("c6 18;", "t2 0;", 8) + "w0 8 0;", 2, 49);
    }

    private static void aWantIsOfAValue() {
        due.is("want(0, 2) of 0", Due.of(ONE + "w0 0 0;").want(0, 2), 0);
        due.is("want(0, 2) of 9", Due.of(ONE + "w0 0 9;").want(0, 2), 9);
        due.fault(ONE + "w0 0 10;", 2, 16);
        due.fault(ONE + "w0 0 -1;", 1, 16);
    }

    private static void numbersHave1To3Figures() {
        due.sound("c6 18;s4;t2 0;l1;w0 0 0;", 1);
        due.sound("c06 18;s04;t02 00;l01;w00 00 00;", 1);
        due.sound("c006 018;s004;t002 000;l001;w000 000 000;", 1);
        due.fault("c0006 18;", 2, 1);
        due.fault("c6 0018;", 2, 3);
        due.fault("c6 18;s0004;", 2, 7);
        due.fault("c6 18;s4,0004;", 2, 9);
        due.fault("c6 18;t0002 0;", 2, 7);
        due.fault("c6 18;t2 0000;", 2, 9);
        due.fault("c6 18;l0001;", 2, 7);
        due.fault(ONE + "w0000 0 0;", 2, 12);
        due.fault(ONE + "w0 0000 0;", 2, 14);
        due.fault(ONE + "w0 0 0000;", 2, 16);
        due.fault(Due.many("c", "0", 239), 2, 1);
        due.fault("c4294967302 18;", 2, 1);
    }

    private static void blanksStandAnywhere() {
        due.sound(" c6 18;t2 0;", 1);
        due.sound("c 6 18;t2 0;", 1);
        due.sound("c6   18;t2 0;", 1);
        due.sound("c6 18 ;t2 0;", 1);
        due.sound("c6 18; t2 0;", 1);
        due.sound("c6 18;s 4 , 5 ;t 2 0 ;l 1 ;w 0 0 0 ;", 1);
        due.sound("c6 18;t2 0;   ", 1);
        // Only 32 is a blank.
        due.fault("c6\t18;", 1, 2);
        due.fault("c6" + (char) 160 + "18;", 1, 2);
        due.fault("\nc6 18;", 1, 0);
    }

    private static void blanksPartNumbers() {
        due.fault("c6 1 8;", 2, 3);
        due.fault("c1 1 18;", 2, 3);
        due.fault("c6 18 3;", 1, 6);
        due.fault("c6 18;s4 5;", 1, 9);
        due.fault("c6 18;t2 0 1;", 1, 11);
        due.fault("c6 18;l1 0;", 1, 9);
        due.fault(ONE + "w0 0 0 1;", 1, 18);
    }

    private static void twoNumbersNeedABlank() {
        due.fault("c618;", 2, 1);
        due.fault("c1113;", 2, 1);
        due.fault("c6 18;t20;", 2, 7);
        due.fault("c6 18;t03;", 1, 9);
        due.fault(ONE + "w00 0;", 1, 16);
        due.fault(ONE + "w000;", 1, 15);
    }

    private static void theFirstWordIsC() {
        for (char word : "stlw".toCharArray()) {
            due.fault(word + "", 1, 0);
            due.fault(word + "1 1;c6 18;", 1, 0);
            due.fault("  " + word, 1, 2);
        }
        due.sound("c6 18;l1;t2 0;w0 0 0;s4;", 1);
    }

    private static void aLetterThatIsNoWord() {
        for (int letter = 0; letter < 256; letter++) {
            boolean isWord = "cstlw".indexOf(letter) >= 0;
            if (letter != ' ' && !isWord) {
                due.fault((char) letter + "", 1, 0);
                due.fault("c6 18;" + (char) letter, 1, 6);
            }
        }
    }

    private static void aLetterThatCannotStandThere() {
        due.fault("c;", 1, 1);
        due.fault("c6;", 1, 2);
        due.fault("c6,18;", 1, 2);
        due.fault("c6 18,", 1, 5);
        due.fault("c6 18;;", 1, 6);
        due.fault("c6 18;s,4;", 1, 7);
        due.fault("c6 18;s4,;", 1, 9);
        due.fault("c6 18;s4,,5;", 1, 9);
        due.fault("c6 18;t;", 1, 7);
        due.fault("c6 18;t2;", 1, 8);
        due.fault("c6 18;t2,0;", 1, 8);
        due.fault("c6 18;l;", 1, 7);
        due.fault("c6 18;l1,2;", 1, 8);
        due.fault(ONE + "w;", 1, 12);
        due.fault(ONE + "w0;", 1, 13);
        due.fault(ONE + "w0 0;", 1, 15);
        due.fault(ONE + "w0 0 0,", 1, 17);
    }

    private static void cAndSComeOnce() {
        due.fault("c6 18;c6 18;", 3, 6);
        due.fault("c6 18; c", 3, 7);
        due.fault("c6 18;s4;s4;", 3, 9);
        due.fault("c6 18;s4;t2 0;  s", 3, 16);
    }

    private static void theFirstFaultGoesAheadOfALesser() {
        due.fault("c0 x", 2, 1);
        due.fault("c6 24;x", 2, 3);
        due.fault("c6 18;c x", 3, 6);
        due.fault("c6 18;s4;s10;x", 3, 9);
        due.fault("c6 18;t4 x", 2, 7);
        // The number is at its first figure, the letter that ends it behind that.
        due.fault("c99x", 2, 1);
        due.fault("c0001x", 2, 1);
    }

    private static void theLeastFaultOfOneLetter() {
        due.fault("0000", 1, 0);
        due.fault("c6 18 0000;", 1, 6);
        due.fault("c6 18;9999;", 1, 6);
        due.fault("c6 c", 1, 3);
        due.fault("c6 18;s4;ts", 1, 10);
        due.fault(Due.many("c6 18;", "t2 0;", 8) + "lt", 1, 47);
        due.fault(Due.many("c6 18;", "l9;", 6) + "tl", 1, 25);
        due.fault(Due.many(ONE, "w0 0 0;", 10) + "lw", 1, 82);
    }

    private static void theEndIsAtTheLength() {
        String whole = "c6 18;s4,5;t2 0;l1;w0 0 0;";
        String sound = "c6 18;";
        for (int length = 1; length < whole.length(); length++) {
            String part = whole.substring(0, length);
            boolean isNumberCut = part.equals("c6 1");
            if (part.endsWith(";")) {
                sound = part;
                due.sound(part, part.contains("t") ? 1 : 0);
                due.sound(part + "  ", part.contains("t") ? 1 : 0);
            } else {
                due.fault(part, isNumberCut ? 2 : 1, isNumberCut ? 3 : length);
                due.fault(part + "  ", isNumberCut ? 2 : 1, isNumberCut ? 3 : length + 2);
            }
        }
        due.isTrue("four ends were sound", sound.length() == 19);
    }

    private static void faultIsOfTheLatestCounty() {
        ThreeHeirs x = new ThreeHeirs();
        due.is("fault() at first", x.fault(), Due.NONE);
        Due.feedAll(x, "c6 18;x");
        due.is("fault() ahead of county()", x.fault(), Due.NONE);
        x.county();
        due.is("fault() at 6", x.fault(), 6);
        Due.feedAll(x, "x");
        x.feed(256);
        due.is("fault() stays till the next", x.fault(), 6);
        x.county();
        due.is("fault() at 0", x.fault(), 0);
        Due.feedAll(x, ONE);
        x.county();
        due.is("fault() of a sound one", x.fault(), Due.NONE);
        Due.feedAll(x, "c");
        x.county();
        due.is("fault() at the end", x.fault(), 1);
        x.county();
        due.is("fault() of an empty one", x.fault(), Due.NONE);
    }

    private static void aFaultLeavesAllButTheText() {
        ThreeHeirs x = Edge.hall();
        ThreeHeirs y = Edge.hall();
        for (ThreeHeirs z : new ThreeHeirs[] {x, y}) {
            z.seed(51);
            z.hour(7);
            z.keep(1);
            z.put(0, 8);
            z.hour(1);
            z.eclipse(3);
            z.find(0, 3, false);
            z.write(0, 8);
        }
        Due.feedAll(x, "c1 13;s9;t0 1;l9;w0 0 1;w0 1 1;");
        Due.feedAll(y, "x");
        due.is("county()", x.county(), -12);
        due.is("county() of the other", y.county(), -11);
        due.is("fault()", x.fault(), 27);
        due.isTrue("all is as it was", Edge.wholeOf(x).replace("/27 ", "/0 ").equals(Edge.wholeOf(y)));
    }

    private static void countyBeginsAnew() {
        ThreeHeirs x = Edge.hall();
        x.hour(9);
        x.put(0, 8);
        x.note(1, 0);
        x.eclipse(3);
        x.keep(0);
        x.keep(1);
        x.hour(1);
        x.find(0, 3, false);
        x.write(0, 8);
        Due.feedAll(x, Edge.HALL);
        due.is("county()", x.county(), 4);
        due.isTrue("as at first", Edge.wholeOf(x).equals(Edge.wholeOf(Edge.hall())));
    }

    private static void nothingOfTheEarlierTextStays() {
        ThreeHeirs x = Edge.fullest();
        Due.feedAll(x, "c6 18;");
        due.is("county() of the least", x.county(), 0);
        due.is("gets(2, 1)", x.gets(2, 1), 0);
        due.isTrue("as of the least alone", Edge.wholeOf(x).equals(Edge.wholeOf(Due.of("c6 18;"))));
        // A third text is read where the first one was.
        Due.feedAll(x, ONE);
        due.is("county() of the third", x.county(), 1);
        due.is("gets(2, 1) of the third", x.gets(2, 1), 0);
        due.is("told(2), told(3), told(4) of the third", x.told(2) + x.told(3) + x.told(4), 0);
        due.is("light(0) of day 3", x.hour(30) + x.hour(30) + x.hour(12) + x.light(0), 30 + 60 + 72 + 6);
        ThreeHeirs y = new ThreeHeirs();
        Due.feedAll(y, "c6 18;s9;t2 0;l9;w0 0 0;x");
        y.county();
        Due.feedAll(y, "c6 18;s4;t2 0;l1;w0 0 0;");
        due.is("county() behind a fault", y.county(), 1);
        due.is("gets(2, 1) behind a fault", y.gets(2, 1), 1);
        due.is("told(2), told(3), told(4) behind a fault", y.told(2) + y.told(3) + y.told(4), 3);
        due.is("light(0) behind a fault", y.light(0), 6);
    }

    private static void theSeedStays() {
        String[] texts = {ONE, "x", ""};
        ThreeHeirs x = new ThreeHeirs();
        x.seed(2147483647);
        for (String text : texts) {
            Due.feedAll(x, text);
            x.county();
            due.is("the seed behind county() of " + text, x.seed(2147483647), 2147483647);
        }
    }
}
