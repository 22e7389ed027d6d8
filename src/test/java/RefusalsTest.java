/**
 * Of several refusals the first in the order UNKNOWN, OUTSIDE, NOT, FULL is told, and what is refused changes
 * nothing: each call with every two refusals of its promise that can meet, in the order of the promises.
 */
public final class RefusalsTest {
    private static final Due due = new Due();
    private static final int LOW = Integer.MIN_VALUE, HIGH = Integer.MAX_VALUE;

    public static void main(String[] args) {
        ofTheText();
        ofWhatIsTold();
        ofHours();
        ofOtherDeeds();
        ofWhatIsTried();
        ofKeepSo();
        ofMovers();
        ofWhatIsFound();
        ofImages();
        manyAtOnce();
        due.finish();
    }

    private static void lived(String name, Edge.Call call, int refusal) {
        Edge.refused(due, name, Edge::lived, call, refusal);
    }

    private static void none(String name, Edge.Call call, int refusal) {
        Edge.refused(due, name + " of none", ThreeHeirs::new, call, refusal);
    }

    private static void brimming(String name, Edge.Call call, int refusal) {
        Edge.refused(due, name + " of a full one", Edge::brimming, call, refusal);
    }

    private static void ofTheText() {
        brimming("feed(32)", x -> x.feed(32), Due.FULL);
        brimming("feed(255)", x -> x.feed(255), Due.FULL);
        brimming("feed(256): OUTSIDE and FULL", x -> x.feed(256), Due.OUTSIDE);
        brimming("feed(-1): OUTSIDE and FULL", x -> x.feed(-1), Due.OUTSIDE);
    }

    private static void ofWhatIsTold() {
        lived("heir(3, 4): UNKNOWN and OUTSIDE", x -> x.heir(3, 4), Due.UNKNOWN);
        lived("heir(-1, -1): UNKNOWN and OUTSIDE", x -> x.heir(-1, -1), Due.UNKNOWN);
        none("heir(3, 4)", x -> x.heir(3, 4), Due.UNKNOWN);
        lived("thing(4, 2): UNKNOWN and OUTSIDE", x -> x.thing(4, 2), Due.UNKNOWN);
        lived("thing(-1, -1): UNKNOWN and OUTSIDE", x -> x.thing(-1, -1), Due.UNKNOWN);
        none("thing(0, 2)", x -> x.thing(0, 2), Due.UNKNOWN);
        lived("want(5, 3): UNKNOWN and OUTSIDE", x -> x.want(5, 3), Due.UNKNOWN);
        lived("want(-1, -1): UNKNOWN and OUTSIDE", x -> x.want(-1, -1), Due.UNKNOWN);
        none("want(0, 3)", x -> x.want(0, 3), Due.UNKNOWN);
        lived("known(3, 4): both", x -> x.known(3, 4), Due.UNKNOWN);
        lived("logged(20, 4): OUTSIDE and none there", x -> x.logged(20, 4), Due.OUTSIDE);
        lived("logged(-1, -1): OUTSIDE and none there", x -> x.logged(-1, -1), Due.OUTSIDE);
    }

    private static void ofHours() {
        none("hour(0): OUTSIDE and NOT", x -> x.hour(0), Due.OUTSIDE);
        none("hour(31): OUTSIDE and NOT", x -> x.hour(31), Due.OUTSIDE);
        none("drift(0): OUTSIDE and NOT", x -> x.drift(0), Due.OUTSIDE);
        none("drift(31): OUTSIDE and NOT", x -> x.drift(31), Due.OUTSIDE);
        none("undo(0): OUTSIDE and NOT", x -> x.undo(0), Due.OUTSIDE);
        none("undo(31): OUTSIDE and NOT", x -> x.undo(31), Due.OUTSIDE);
        lived("undo(31): OUTSIDE and NOT", x -> x.undo(31), Due.OUTSIDE);
        none("eclipse(-1): OUTSIDE and NOT", x -> x.eclipse(-1), Due.OUTSIDE);
        none("eclipse(25): OUTSIDE and NOT", x -> x.eclipse(25), Due.OUTSIDE);
    }

    private static void ofOtherDeeds() {
        lived("put(4, 10): UNKNOWN and OUTSIDE", x -> x.put(4, 10), Due.UNKNOWN);
        lived("put(-1, -1): UNKNOWN and OUTSIDE", x -> x.put(-1, -1), Due.UNKNOWN);
        none("put(0, 10): UNKNOWN and OUTSIDE", x -> x.put(0, 10), Due.UNKNOWN);
        // In the eclipse the dark man has the hour.
        lived("note(2, 0)", x -> x.note(2, 0), Due.NOT);
        lived("note(2, 4): UNKNOWN and NOT", x -> x.note(2, 4), Due.UNKNOWN);
        lived("note(2, -1): UNKNOWN and NOT", x -> x.note(2, -1), Due.UNKNOWN);
        lived("note(3, 4): both", x -> x.note(3, 4), Due.UNKNOWN);
        none("note(-1, 0)", x -> x.note(-1, 0), Due.UNKNOWN);
    }

    private static void ofWhatIsTried() {
        none("whose(-1): OUTSIDE and NOT", x -> x.whose(-1), Due.OUTSIDE);
        none("whose(241): OUTSIDE and NOT", x -> x.whose(241), Due.OUTSIDE);
        lived("gets(3, 241): UNKNOWN and OUTSIDE", x -> x.gets(3, 241), Due.UNKNOWN);
        lived("gets(-1, -1): UNKNOWN and OUTSIDE", x -> x.gets(-1, -1), Due.UNKNOWN);
        lived("willBe(4, 241): UNKNOWN and OUTSIDE", x -> x.willBe(4, 241), Due.UNKNOWN);
        lived("willBe(-1, -1): UNKNOWN and OUTSIDE", x -> x.willBe(-1, -1), Due.UNKNOWN);
        none("next(3): UNKNOWN and NOT", x -> x.next(3), Due.UNKNOWN);
        none("next(-1): UNKNOWN and NOT", x -> x.next(-1), Due.UNKNOWN);
        none("poorest(2): OUTSIDE and NOT", x -> x.poorest(2), Due.OUTSIDE);
        none("poorest(-1): OUTSIDE and NOT", x -> x.poorest(-1), Due.OUTSIDE);
        none("light(2): OUTSIDE and NOT", x -> x.light(2), Due.OUTSIDE);
        none("light(-1): OUTSIDE and NOT", x -> x.light(-1), Due.OUTSIDE);
        none("child(24, 0): OUTSIDE and NOT", x -> x.child(24, 0), Due.OUTSIDE);
        none("child(0, 12): OUTSIDE and NOT", x -> x.child(0, 12), Due.OUTSIDE);
        none("child(-1, -1): OUTSIDE and NOT", x -> x.child(-1, -1), Due.OUTSIDE);
        lived("against(3, -1): both", x -> x.against(3, -1), Due.UNKNOWN);
    }

    private static void ofKeepSo() {
        lived("keepSo(3, 4, ..): both", x -> x.keepSo(3, 4, 5, 9, 0), Due.UNKNOWN);
        for (int way = 0; way < 3; way++) {
            int v = way == 0 ? 10 : 5;
            int n = way == 1 ? 49 : 9;
            int what = way == 2 ? 2 : 0;
            lived("keepSo(3, ..): UNKNOWN and OUTSIDE", x -> x.keepSo(3, 2, v, n, what), Due.UNKNOWN);
            lived("keepSo(2, 4, ..): UNKNOWN and OUTSIDE", x -> x.keepSo(2, 4, v, n, what), Due.UNKNOWN);
            none("keepSo(2, 0, ..): UNKNOWN and OUTSIDE", x -> x.keepSo(2, 0, v, n, what), Due.UNKNOWN);
        }
        lived("keepSo() of three outside", x -> x.keepSo(2, 2, 10, 49, 2), Due.OUTSIDE);
    }

    private static void ofMovers() {
        lived("movers(4, 10, 9): UNKNOWN and OUTSIDE", x -> x.movers(4, 10, 9), Due.UNKNOWN);
        lived("movers(4, 5, 49): UNKNOWN and OUTSIDE", x -> x.movers(4, 5, 49), Due.UNKNOWN);
        lived("movers(4, 5, 11): UNKNOWN and NOT", x -> x.movers(4, 5, 11), Due.UNKNOWN);
        lived("movers(0, 10, 11): OUTSIDE and NOT", x -> x.movers(0, 10, 11), Due.OUTSIDE);
        lived("movers(0, 5, 49): OUTSIDE and NOT", x -> x.movers(0, 5, 49), Due.OUTSIDE);
        lived("movers(0, 5, 11): NOT", x -> x.movers(0, 5, 11), Due.NOT);
        none("movers(0, 10, 49): UNKNOWN of all", x -> x.movers(0, 10, 49), Due.UNKNOWN);
    }

    private static void ofWhatIsFound() {
        lived("find(4, 10): UNKNOWN and OUTSIDE", x -> x.find(4, 10, true), Due.UNKNOWN);
        brimming("find(1, 0): UNKNOWN and FULL", x -> x.find(1, 0, true), Due.UNKNOWN);
        brimming("find(0, 10): OUTSIDE and FULL", x -> x.find(0, 10, true), Due.OUTSIDE);
        brimming("find(1, 10): all three", x -> x.find(1, 10, true), Due.UNKNOWN);
        lived("write(4, 10): UNKNOWN and OUTSIDE", x -> x.write(4, 10), Due.UNKNOWN);
        brimming("write(1, 0): UNKNOWN and FULL", x -> x.write(1, 0), Due.UNKNOWN);
        brimming("write(0, 10): OUTSIDE and FULL", x -> x.write(0, 10), Due.OUTSIDE);
        brimming("write(1, 10): all three", x -> x.write(1, 10), Due.UNKNOWN);
    }

    private static void ofImages() {
        none("goBack(2): UNKNOWN and NOT", x -> x.goBack(2), Due.UNKNOWN);
        none("goBack(-1): UNKNOWN and NOT", x -> x.goBack(-1), Due.UNKNOWN);
        none("keep(2)", x -> x.keep(2), Due.UNKNOWN);
    }

    /** The farthest numbers too, one behind the other, and all is as if none had come. */
    private static void manyAtOnce() {
        ThreeHeirs x = Edge.lived();
        for (int n : new int[] {LOW, HIGH}) {
            int[] answers = {x.feed(n), x.told(n), x.heir(n, 0), x.thing(n, 0), x.want(n, 0), x.known(n, 0),
                x.known(0, n), x.logged(0, n), x.hour(n), x.put(n, n), x.put(0, n), x.note(n, 0), x.note(0, n),
                x.eclipse(n), x.drift(n), x.undo(n), x.whose(n), x.gets(n, 0), x.gets(0, n), x.willBe(n, 0),
                x.willBe(0, n), x.next(n), x.keepSo(n, n, n, n, n), x.keepSo(0, 0, 0, n, 0), x.agreed(n),
                x.against(n, n), x.against(0, n), x.movers(n, n, n), x.movers(0, 0, n), x.poorest(n), x.light(n),
                x.child(n, n), x.child(0, n), x.clear(n, n), x.clear(0, n), x.find(n, n, true), x.find(0, n, true),
                x.fits(n), x.write(n, n), x.write(0, n), x.keep(n), x.goBack(n)};
            for (int i = 0; i < answers.length; i++) {
                due.isTrue("call " + i + " refuses " + n, Due.isRefusal(answers[i]));
            }
        }
        due.isTrue("all is as it was", Edge.wholeOf(x).equals(Edge.wholeOf(Edge.lived())));
    }
}
