/** The edges of section 2 and of promises 11 to 16: hours, what is set, notes, eclipses, draws, and what is undone. */
public final class EdgesOfDeedsTest {
    private static final Due due = new Due();
    private static final int MOST_SEED = 2147483647;

    public static void main(String[] args) {
        hourIsOf1To30();
        hourNeedsACounty();
        aDayHas24Hours();
        seasonsBeginAnew();
        lightIsFrom1To11();
        lightIsTo13To23();
        noonPartsTheDay();
        theShortestAndTheLongestDay();
        purseAndAngerAre0AtFirst();
        angerIsOfWhatWasAheadOfTheHour();
        aHedgeIs9AtMost();
        aHedgeGrowsByThreesInTheLight();
        aCandleIs0AtLeast();
        aChairStays();
        musicEndsAtNoon();
        putIsOf0To9();
        putIsOfThings();
        putToTheSameValue();
        noteIsOfHeirsAndThings();
        noteIsNotToHimself();
        eclipseIsOf0To24();
        anEclipseEnds();
        anEclipseComesInsteadOfAnother();
        noteAndPutInAnEclipse();
        driftIsOf1To30();
        driftDrawsNothingMoreWithoutThings();
        driftSetsTheFirstAndTheLast();
        driftBeginsAnEclipse();
        driftWrapsTheSeed();
        hoursAbove90000();
        undoIsOf1To30();
        undoOfNotSoMany();
        undoKeeps30();
        eachDeedIsUndoneAlone();
        undoneDeedsAreGone();
        theSeedStaysByUndo();
        nothingIsUndoneAheadOfTheText();
        due.finish();
    }

    private static void hourIsOf1To30() {
        Edge.ends(due, "hour()", Edge::lived, ThreeHeirs::hour, 1, 30, Due.OUTSIDE);
        due.is("hour(1)", Edge.hall().hour(1), 1);
        due.is("hour(30)", Edge.hall().hour(30), 30);
    }

    private static void hourNeedsACounty() {
        Edge.refused(due, "hour(1) of none", ThreeHeirs::new, x -> x.hour(1), Due.NOT);
        Edge.refused(due, "hour(30) of none", ThreeHeirs::new, x -> x.hour(30), Due.NOT);
        ThreeHeirs x = Edge.hall();
        x.county();
        due.is("hour(1) when it is gone", x.hour(1), Due.NOT);
        due.is("hour(1) without things, lands, wants", Due.of("c6 18;").hour(1), 1);
    }

    private static void aDayHas24Hours() {
        ThreeHeirs x = Due.of("c6 18;s4,9;");
        x.hour(23);
        due.is("light(0) at 23", x.light(0), 6);
        due.is("whose it is at 23", x.told(8), 2);
        x.hour(1);
        due.is("light(0) at 24", x.light(0), 1);
        due.is("whose it is at 24", x.told(8), 2);
        x.hour(1);
        due.is("whose it is at 25", x.told(8), 0);
        x.hour(21);
        due.is("whose it is at 46", x.told(8), 1);
        x.hour(1);
        due.is("whose it is at 47", x.told(8), 2);
        due.is("light(0) at 47", x.light(0), 1);
        x.hour(1);
        due.is("light(0) at 48", x.light(0), 6);
    }

    private static void seasonsBeginAnew() {
        int[] seasons = {0, 1, 2, 3, 4, 5, 6, 7, 8, 9, 0, 9};
        for (int count : new int[] {1, 2, 11, 12}) {
            StringBuilder text = new StringBuilder("c6 18;s0");
            for (int i = 1; i < count; i++) {
                text.append(',').append(seasons[i]);
            }
            ThreeHeirs x = Due.of(text + ";");
            for (int day = 0; day < 26; day++) {
                int season = seasons[day % count];
                due.is("light(0) of day " + day + " by " + count, x.light(0), 10 - season);
                due.is("light(1) of day " + day + " by " + count, x.light(1), 14 + season);
                x.hour(24);
            }
        }
    }

    private static void lightIsFrom1To11() {
        // Sunrise, season, from: at the ends, one short of them, one and more beyond.
        int[][] rows = {{1, 4, 1}, {1, 3, 2}, {1, 5, 1}, {1, 9, 1}, {5, 7, 2}, {5, 8, 1}, {5, 9, 1}, {6, 9, 1},
            {11, 4, 11}, {11, 5, 10}, {11, 3, 11}, {11, 0, 11}, {7, 1, 10}, {7, 0, 11}, {8, 0, 11}, {6, 0, 10}};
        for (int[] row : rows) {
            String text = "c" + row[0] + " 18;s" + row[1] + ";";
            due.is("light(0) of " + text, Due.of(text).light(0), row[2]);
        }
    }

    private static void lightIsTo13To23() {
        int[][] rows = {{13, 4, 13}, {13, 5, 14}, {13, 3, 13}, {13, 0, 13}, {17, 1, 14}, {17, 0, 13}, {16, 0, 13},
            {23, 4, 23}, {23, 3, 22}, {23, 5, 23}, {23, 9, 23}, {18, 8, 22}, {18, 9, 23}, {19, 9, 23}};
        for (int[] row : rows) {
            String text = "c6 " + row[0] + ";s" + row[1] + ";";
            due.is("light(1) of " + text, Due.of(text).light(1), row[2]);
        }
    }

    private static void noonPartsTheDay() {
        ThreeHeirs x = Due.of("c6 18;");
        int[] holders = {2, 2, 2, 2, 2, 2, 0, 0, 0, 0, 0, 0, 1, 1, 1, 1, 1, 1, 2, 2, 2, 2, 2, 2};
        for (int hour = 0; hour < 24; hour++) {
            due.is("whose it is at " + hour, x.told(8), holders[hour]);
            x.hour(1);
        }
    }

    private static void theShortestAndTheLongestDay() {
        ThreeHeirs winter = Due.of("c11 13;s0;l1;");
        winter.hour(24);
        ThreeHeirs june = Due.of("c1 23;s9;l1;");
        june.hour(24);
        int[][] purses = {{1, 1, 22}, {11, 11, 2}};
        for (int h = 0; h < 3; h++) {
            due.is("purse of " + h + " in winter", winter.heir(h, 0), purses[0][h]);
            due.is("purse of " + h + " in June", june.heir(h, 0), purses[1][h]);
        }
    }

    private static void purseAndAngerAre0AtFirst() {
        ThreeHeirs x = Edge.fullest();
        for (int h = 0; h < 3; h++) {
            due.is("purse of " + h, x.heir(h, 0), 0);
            due.is("anger of " + h, x.heir(h, 1), 0);
        }
        x.hour(1);
        due.is("all six rents", x.heir(2, 0), 54);
        due.is("nothing of another's hour", x.heir(0, 0), 0);
        due.is("no anger when all is met", x.heir(2, 1), 0);
        ThreeHeirs y = Due.of(Due.many("c6 18;t2 0;", "w2 0 1;", 10));
        y.hour(1);
        due.is("anger of ten wants", y.heir(2, 1), 10);
        y.hour(6);
        due.is("anger of an heir without wants", y.heir(0, 1), 0);
    }

    private static void angerIsOfWhatWasAheadOfTheHour() {
        ThreeHeirs x = Due.of("c6 18;t1 5;w2 0 5;");
        x.hour(1);
        due.is("met ahead of the hour", x.heir(2, 1), 0);
        x.hour(1);
        due.is("not met ahead of the next", x.heir(2, 1), 1);
    }

    private static void aHedgeIs9AtMost() {
        ThreeHeirs x = Due.of("c1 23;t0 8;t0 9;");
        x.hour(4);
        due.is("8 becomes 9", x.thing(0, 1), 9);
        due.is("9 stays", x.thing(1, 1), 9);
        x.hour(3);
        due.is("9 stays behind the next", x.thing(0, 1), 9);
    }

    private static void aHedgeGrowsByThreesInTheLight() {
        ThreeHeirs x = Due.of("c1 23;t0 0;");
        // Light from 1 to 23: 0 and 24 are dark; it grows at 3, 6, .. 21 and 27, 30.
        int[] behind = {0, 0, 0, 1, 1, 1, 2, 2, 2, 3, 3, 3, 4, 4, 4, 5, 5, 5, 6, 6, 6, 7, 7, 7, 7, 7, 7, 8, 8, 8, 9};
        for (int hour = 0; hour < behind.length; hour++) {
            x.hour(1);
            due.is("hedge behind " + hour, x.thing(0, 1), behind[hour]);
        }
        ThreeHeirs edges = Due.of("c6 18;t0 0;");
        edges.hour(6);
        due.is("not in the dark at 3", edges.thing(0, 1), 0);
        edges.hour(1);
        due.is("at 6, the first light", edges.thing(0, 1), 1);
        edges.hour(11);
        due.is("at 15, the last by threes", edges.thing(0, 1), 4);
        edges.hour(1);
        due.is("not at 18, the first dark", edges.thing(0, 1), 4);
    }

    private static void aCandleIs0AtLeast() {
        ThreeHeirs x = Due.of("c6 18;t1 1;t1 0;t1 9;");
        x.hour(1);
        due.is("1 becomes 0", x.thing(0, 1), 0);
        due.is("0 stays", x.thing(1, 1), 0);
        x.hour(5);
        due.is("0 stays behind the next", x.thing(0, 1), 0);
        due.is("six hours of the dark", x.thing(2, 1), 3);
        x.hour(12);
        due.is("none of the light", x.thing(2, 1), 3);
        x.hour(1);
        due.is("the first dark again", x.thing(2, 1), 2);
    }

    private static void aChairStays() {
        ThreeHeirs x = Due.of("c6 18;t2 0;t2 9;");
        x.hour(30);
        x.eclipse(24);
        x.hour(30);
        due.is("0 stays", x.thing(0, 1), 0);
        due.is("9 stays", x.thing(1, 1), 9);
    }

    private static void musicEndsAtNoon() {
        ThreeHeirs x = Due.of("c6 18;t3 9;t3 0;");
        x.hour(12);
        due.is("ahead of noon", x.thing(0, 1), 9);
        x.hour(1);
        due.is("behind HOUR 12", x.thing(0, 1), 0);
        due.is("0 stays", x.thing(1, 1), 0);
        x.put(0, 5);
        x.hour(23);
        due.is("at the next noon yet", x.thing(0, 1), 5);
        x.hour(1);
        due.is("behind it", x.thing(0, 1), 0);
    }

    private static void putIsOf0To9() {
        Edge.ends(due, "put(0, ..)", Edge::lived, (x, v) -> x.put(0, v), 0, 9, Due.OUTSIDE);
        ThreeHeirs x = Edge.hall();
        x.put(0, 0);
        due.is("set to 0", x.thing(0, 1), 0);
        x.put(0, 9);
        due.is("set to 9", x.thing(0, 1), 9);
    }

    private static void putIsOfThings() {
        Edge.ends(due, "put(.., 0)", Edge::lived, (x, t) -> x.put(t, 0), 0, 3, Due.UNKNOWN);
        Edge.refused(due, "put(0, 0) of none", ThreeHeirs::new, x -> x.put(0, 0), Due.UNKNOWN);
        due.is("put(7, 4) of eight", Edge.fullest().put(7, 4), 2);
        due.is("put(8, 4) of eight", Edge.fullest().put(8, 4), Due.UNKNOWN);
    }

    private static void putToTheSameValue() {
        ThreeHeirs x = Edge.hall();
        due.is("put(0, 3)", x.put(0, 3), 2);
        due.is("it is logged", x.logged(0, 3), 3);
        due.is("it can be undone", x.told(15), 1);
    }

    private static void noteIsOfHeirsAndThings() {
        // At noon HEIR 1 has the HOUR, so that both ends are others.
        Edge.Maker noon = () -> {
            ThreeHeirs x = Edge.hall();
            x.hour(12);
            return x;
        };
        Edge.ends(due, "note(.., 0)", noon, (x, h) -> x.note(h, 0), 0, 2, Due.UNKNOWN);
        Edge.ends(due, "note(0, ..)", Edge::lived, (x, t) -> x.note(0, t), 0, 3, Due.UNKNOWN);
        due.is("note(0, 7) of eight", Edge.fullest().note(0, 7), 0);
        due.is("note(0, 8) of eight", Edge.fullest().note(0, 8), Due.UNKNOWN);
        Edge.refused(due, "note(0, 0) of none", ThreeHeirs::new, x -> x.note(0, 0), Due.UNKNOWN);
        Edge.refused(due, "note(0, 0) without things", () -> Due.of("c6 18;"), x -> x.note(0, 0), Due.UNKNOWN);
    }

    private static void noteIsNotToHimself() {
        int[] hours = {0, 6, 12};
        int[] holders = {2, 0, 1};
        for (int i = 0; i < 3; i++) {
            for (int h = 0; h < 3; h++) {
                ThreeHeirs x = Edge.hall();
                if (hours[i] > 0) {
                    x.hour(hours[i]);
                }
                boolean isHimself = h == holders[i];
                due.is("note(" + h + ", 2) at " + hours[i], x.note(h, 2), isHimself ? Due.NOT : 2);
                due.is("told(15) behind it", x.told(15), hours[i] + (isHimself ? 0 : 1));
            }
        }
    }

    private static void eclipseIsOf0To24() {
        Edge.ends(due, "eclipse()", Edge::lived, ThreeHeirs::eclipse, 0, 24, Due.OUTSIDE);
        Edge.refused(due, "eclipse(0) of none", ThreeHeirs::new, x -> x.eclipse(0), Due.NOT);
        Edge.refused(due, "eclipse(24) of none", ThreeHeirs::new, x -> x.eclipse(24), Due.NOT);
        due.is("none at first", Edge.hall().told(7), 0);
    }

    private static void anEclipseEnds() {
        ThreeHeirs x = Due.of("c1 23;");
        x.hour(1);
        x.eclipse(24);
        for (int left = 24; left > 0; left--) {
            due.is("told(7)", x.told(7), left);
            due.is("the dark man has it", x.told(8), 2);
            x.hour(1);
        }
        due.is("told(7) behind 24", x.told(7), 0);
        due.is("the first has it", x.told(8), 0);
        x.hour(1);
        due.is("told(7) is not less than 0", x.told(7), 0);
        x.eclipse(1);
        due.is("one hour", x.told(8), 2);
        x.hour(1);
        due.is("behind one hour", x.told(8), 0);
    }

    private static void anEclipseComesInsteadOfAnother() {
        ThreeHeirs x = Due.of("c1 23;");
        x.hour(1);
        due.is("eclipse(24)", x.eclipse(24), 0);
        due.is("eclipse(5)", x.eclipse(5), 24);
        x.hour(2);
        due.is("eclipse(0) of what is left", x.eclipse(0), 3);
        due.is("it is light", x.told(8), 0);
        due.is("eclipse(0) of none", x.eclipse(0), 0);
        due.is("each can be undone", x.told(15), 7);
    }

    private static void noteAndPutInAnEclipse() {
        ThreeHeirs x = Edge.hall();
        x.hour(7);
        x.eclipse(1);
        due.is("the dark man cannot be told", x.note(2, 0), Due.NOT);
        due.is("the first can", x.note(0, 0), 4);
        due.is("the dark man sets", x.put(0, 1), 2);
        due.is("and is logged", x.logged(0, 1), 2);
        x.hour(1);
        due.is("it is the first's again", x.put(0, 2), 0);
    }

    private static void driftIsOf1To30() {
        Edge.ends(due, "drift()", Edge::lived, ThreeHeirs::drift, 1, 30, Due.OUTSIDE);
        due.is("drift(1)", Edge.hall().drift(1), 1);
        due.is("drift(30)", Edge.hall().drift(30), 30);
        Edge.refused(due, "drift(1) of none", ThreeHeirs::new, x -> x.drift(1), Due.NOT);
        Edge.refused(due, "drift(30) of none", ThreeHeirs::new, x -> x.drift(30), Due.NOT);
    }

    private static long after(long seed, int draws) {
        long s = seed;
        for (int i = 0; i < draws; i++) {
            s = (s * 1103515245L + 12345L) % 2147483648L;
        }
        return s;
    }

    private static int drawn(long seed, int draws, int n) {
        return (int) (after(seed, draws) / 65536 % n);
    }

    /** The least seed by which the first draws, of so many each, are these. */
    private static int seedFor(int[] of, int[] due) {
        for (int seed = 0; seed < 1000000; seed++) {
            boolean isSo = true;
            for (int i = 0; i < of.length && isSo; i++) {
                isSo = drawn(seed, i + 1, of[i]) == due[i];
            }
            if (isSo) {
                return seed;
            }
        }
        return -1;
    }

    private static void driftDrawsNothingMoreWithoutThings() {
        int seed = seedFor(new int[] {8}, new int[] {0});
        ThreeHeirs x = Due.of("c6 18;");
        x.seed(seed);
        x.drift(1);
        due.is("nothing is set", x.told(12), 0);
        due.is("one draw", x.seed(0), after(seed, 1));
        ThreeHeirs y = Due.of("c6 18;t2 0;");
        y.seed(seed);
        y.drift(1);
        due.is("one is set", y.told(12), 1);
        due.is("three draws", y.seed(0), after(seed, 3));
        int idle = seedFor(new int[] {8}, new int[] {2});
        ThreeHeirs z = Due.of("c6 18;t2 0;");
        z.seed(idle);
        z.drift(1);
        due.is("on 2 nothing is set", z.told(12), 0);
        due.is("on 2 one draw", z.seed(0), after(idle, 1));
    }

    private static void driftSetsTheFirstAndTheLast() {
        for (int t : new int[] {0, 7}) {
            for (int v : new int[] {0, 9}) {
                ThreeHeirs x = Edge.fullest();
                x.seed(seedFor(new int[] {8, 8, 10}, new int[] {0, t, v}));
                x.drift(1);
                int[] row = {0, 2, t, v};
                for (int what = 0; what < 4; what++) {
                    due.is("logged(0, " + what + ") of " + t + ", " + v, x.logged(0, what), row[what]);
                }
                // It is set ahead of the hour, so he who has it knows.
                due.is("known(2, " + t + ")", x.known(2, t), v);
                due.is("one deed with its hour", x.told(15), 1);
            }
        }
    }

    private static void driftBeginsAnEclipse() {
        ThreeHeirs x = Due.of("c1 23;l1;");
        x.hour(1);
        x.eclipse(24);
        x.seed(seedFor(new int[] {8, 4}, new int[] {1, 0}));
        x.drift(1);
        due.is("of 0 hours instead of 24", x.told(7), 0);
        due.is("so the first had it", x.heir(0, 0), 1);
        int seed = seedFor(new int[] {8, 4}, new int[] {1, 3});
        x.seed(seed);
        x.drift(1);
        due.is("of 3 hours, one is by", x.told(7), 2);
        due.is("the dark man had it", x.heir(2, 0), 2);
        due.is("two draws", x.seed(0), after(seed, 2));
        due.is("one deed with its hour", x.undo(1), 2);
        due.is("the eclipse is undone", x.told(7), 0);
    }

    private static void driftWrapsTheSeed() {
        ThreeHeirs x = Due.of("c6 18;");
        x.seed(MOST_SEED);
        x.drift(1);
        // 2147483647 times 1103515245 and 12345 is, left over by 2 to the 31, 12345 less 1103515245 and 2 to the 31.
        int once = 1043980748;
        int draws = once / 65536 % 8 == 1 ? 2 : 1;
        due.is("the seed", x.seed(0), after(once, draws - 1));
        due.is("by the test's own draws", after(MOST_SEED, 1), once);
        ThreeHeirs y = Due.of("c6 18;");
        y.drift(1);
        // 12345 / 65536 is 0, but there is nothing to set.
        due.is("of 0", y.seed(0), 12345);
    }

    /** Not promised, as it takes more than 512 calls; but this class holds to it there too. */
    private static void hoursAbove90000() {
        ThreeHeirs x = Due.of(Due.many("c6 18;t2 0;l9;l9;l9;l9;l9;l9;", "w2 0 1;", 10));
        for (int i = 0; i < 3000; i++) {
            x.hour(30);
        }
        due.is("told(6)", x.told(6), 90000);
        due.is("hour(30) at 90000", x.hour(30), 90030);
        due.is("hour(1) above", x.hour(1), Due.FULL);
        due.is("drift(1) above", x.drift(1), Due.FULL);
        due.is("hour(31) above", x.hour(31), Due.OUTSIDE);
        due.is("drift(0) above", x.drift(0), Due.OUTSIDE);
        due.is("told(6) above", x.told(6), 90030);
        due.is("undo(30)", x.undo(30), 90000);
        due.is("drift(1) at 90000", x.drift(1), 90001);
        due.is("hour(1) at 90001", x.hour(1), Due.FULL);
        due.is("drift(1) at 90001", x.drift(1), Due.FULL);
        due.is("the other calls go on", x.put(0, 1) >= 0 ? 1 : 0, 1);
        due.isTrue("so no purse comes to 9999999", x.heir(2, 0) > 2000000 && x.heir(2, 0) < 9999999);
        due.isTrue("nor does anger", x.heir(2, 1) > 400000 && x.heir(2, 1) < 9999999);
    }

    private static void undoIsOf1To30() {
        Edge.Maker thirty = () -> {
            ThreeHeirs x = Edge.hall();
            x.hour(30);
            return x;
        };
        Edge.ends(due, "undo()", thirty, ThreeHeirs::undo, 1, 30, Due.OUTSIDE);
        due.is("undo(1) of 30", thirty.make().undo(1), 29);
        due.is("undo(30) of 30", thirty.make().undo(30), 0);
    }

    private static void undoOfNotSoMany() {
        Edge.refused(due, "undo(1) of none", ThreeHeirs::new, x -> x.undo(1), Due.NOT);
        Edge.refused(due, "undo(1) of no deed", Edge::hall, x -> x.undo(1), Due.NOT);
        Edge.refused(due, "undo(30) of no deed", Edge::hall, x -> x.undo(30), Due.NOT);
        Edge.refused(due, "undo(8) of seven", Edge::lived, x -> x.undo(8), Due.NOT);
        due.is("told(15)", Edge.lived().told(15), 7);
        due.is("undo(7) of seven", Edge.lived().undo(7), 7);
    }

    private static void undoKeeps30() {
        ThreeHeirs x = Edge.hall();
        x.hour(29);
        due.is("told(15) of 29", x.told(15), 29);
        x.put(0, 1);
        due.is("told(15) of 30", x.told(15), 30);
        x.put(0, 2);
        due.is("told(15) of 31", x.told(15), 30);
        due.is("undo(30): the first hour stays", x.undo(30), 1);
        due.is("told(15) behind it", x.told(15), 0);
        due.is("undo(1) behind it", x.undo(1), Due.NOT);
        ThreeHeirs y = Edge.hall();
        y.hour(1);
        y.keep(0);
        x.keep(0);
        due.isTrue("as behind one hour", Edge.wholeOf(x).equals(Edge.wholeOf(y)));
    }

    private static void eachDeedIsUndoneAlone() {
        ThreeHeirs x = Edge.hall();
        x.hour(2);
        x.put(2, 7);
        x.note(0, 2);
        x.eclipse(9);
        x.drift(2);
        due.is("told(15)", x.told(15), 7);
        due.is("undo(1) of an hour by draws", x.undo(1), 3);
        due.is("undo(1) of the other", x.undo(1), 2);
        due.is("told(7)", x.told(7), 9);
        due.is("undo(1) of the eclipse", x.undo(1), 2);
        due.is("told(7) behind it", x.told(7), 0);
        due.is("known(0, 2)", x.known(0, 2), 7);
        due.is("undo(1) of the note", x.undo(1), 2);
        due.is("known(0, 2) behind it", x.known(0, 2), Due.NONE);
        due.is("undo(1) of the put", x.undo(1), 2);
        due.is("thing(2, 1) behind it", x.thing(2, 1), 2);
        due.is("told(12) behind it", x.told(12), 0);
        due.is("undo(1) of an hour", x.undo(1), 1);
        due.is("purse behind it", x.heir(2, 0), 6);
        due.is("undo(1) of the first", x.undo(1), 0);
        due.is("known(2, 2) behind it", x.known(2, 2), Due.NONE);
        due.is("told(15) at last", x.told(15), 0);
    }

    private static void undoneDeedsAreGone() {
        ThreeHeirs x = Edge.hall();
        x.hour(30);
        x.hour(30);
        x.undo(20);
        due.is("told(15)", x.told(15), 10);
        x.hour(25);
        due.is("told(15) full again", x.told(15), 30);
        due.is("undo(30)", x.undo(30), 35);
        ThreeHeirs y = Edge.hall();
        y.hour(30);
        y.hour(5);
        y.keep(0);
        x.keep(0);
        due.isTrue("as behind 35 hours", Edge.wholeOf(x).equals(Edge.wholeOf(y)));
    }

    private static void theSeedStaysByUndo() {
        ThreeHeirs x = Edge.hall();
        x.seed(51);
        x.drift(1);
        int seed = x.seed(0);
        x.seed(seed);
        due.isTrue("a draw was made", seed != 51);
        x.undo(1);
        due.is("the seed behind undo()", x.seed(0), seed);
    }

    private static void nothingIsUndoneAheadOfTheText() {
        ThreeHeirs x = Edge.hall();
        x.hour(5);
        Due.feedAll(x, Edge.HALL);
        x.county();
        due.is("undo(1) behind the text", x.undo(1), Due.NOT);
        x.hour(2);
        due.is("undo(3) behind two hours", x.undo(3), Due.NOT);
        due.is("undo(2) behind two hours", x.undo(2), 0);
    }
}
