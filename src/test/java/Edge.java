/** Helps the tests of edges: both ends of a number, and that what is refused changes nothing at all. */
final class Edge {
    static final String HALL = "c6 18;s4,7,1;t0 3;t1 5;t2 2;t3 8;l4;l2;w0 0 3;w1 0 6;w2 0 3;w2 1 5;w0 2 9;";
    /** Eight things, six lands, ten wants, twelve seasons: one more of each is too many. */
    static final String FULLEST = "c6 18;s4,7,1,0,9,2,8,3,6,5,4,4;t0 3;t1 5;t2 2;t3 8;t0 0;t1 9;t2 9;t3 0;"
        + "l9;l9;l9;l9;l9;l9;w0 0 3;w0 7 0;w0 6 9;w1 0 3;w1 1 5;w1 2 2;w2 3 8;w2 4 0;w2 5 9;w2 7 0;";

    /** Makes an object anew, the same one each time. */
    interface Maker {
        ThreeHeirs make();
    }

    /** One call with what it is told. */
    interface Call {
        int on(ThreeHeirs x);
    }

    /** A call of which one number is looked at. */
    interface NumberCall {
        int on(ThreeHeirs x, int n);
    }

    private Edge() {
    }

    static ThreeHeirs hall() {
        return Due.of(HALL);
    }

    static ThreeHeirs fullest() {
        return Due.of(FULLEST);
    }

    /** An object in which everything that a call might spoil is there: a past, images, an eclipse, finds, a text. */
    static ThreeHeirs lived() {
        ThreeHeirs x = hall();
        x.seed(51);
        x.hour(3);
        x.keep(0);
        x.hour(4);
        x.put(0, 8);
        x.keep(1);
        x.put(2, 5);
        x.note(1, 2);
        x.eclipse(6);
        x.hour(3);
        x.put(3, 1);
        x.find(0, 3, false);
        x.find(1, 4, true);
        x.write(0, 8);
        x.write(1, 9);
        Due.feedAll(x, "c6 ");
        return x;
    }

    /** The same with six finds, twenty entries in the book and a text of 240 letters. */
    static ThreeHeirs brimming() {
        ThreeHeirs x = Due.of("c6 18;t2 3;");
        x.hour(7);
        for (int i = 0; i < 6; i++) {
            x.find(0, i + 4, false);
        }
        for (int i = 0; i < 20; i++) {
            x.write(0, 3);
        }
        Due.feedAll(x, Due.many("c6 18", " ", 235));
        return x;
    }

    /** All that can be got out of an object, by undoing and going back too; it is used up by this. */
    static String wholeOf(ThreeHeirs x) {
        StringBuilder s = new StringBuilder(Due.stateOf(x));
        s.append("\nundone ").append(x.undo(Math.max(1, x.told(15)))).append(' ').append(Due.stateOf(x));
        for (int i = 0; i < 2; i++) {
            s.append("\nimage ").append(i).append(' ').append(x.goBack(i)).append(' ').append(Due.stateOf(x));
        }
        return s.append("\ntext ").append(x.county()).append(' ').append(x.fault()).toString();
    }

    /** A call that is refused, and by which nothing is otherwise than on an object that never had it. */
    static void refused(Due due, String name, Maker maker, Call call, int refusal) {
        ThreeHeirs x = maker.make();
        due.is(name, call.on(x), refusal);
        due.isTrue(name + " changes nothing", wholeOf(x).equals(wholeOf(maker.make())));
    }

    /** A number of a call: the last that are let in and the first that are not, at both ends. */
    static void ends(Due due, String name, Maker maker, NumberCall call, int least, int most, int refusal) {
        for (int n : new int[] {least, most}) {
            due.isTrue(name + " lets " + n + " in", !Due.isRefusal(call.on(maker.make(), n)));
        }
        for (long n : new long[] {least - 1L, most + 1L, Integer.MIN_VALUE, Integer.MAX_VALUE}) {
            if ((n < least || n > most) && n == (int) n) {
                refused(due, name + " of " + n, maker, x -> call.on(x, (int) n), refusal);
            }
        }
    }
}
