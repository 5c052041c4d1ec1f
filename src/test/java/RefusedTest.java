import java.util.List;

/**
 * "Refused, and nothing changes: .. the first of these that fits": each call that is refused, alone and where several
 * refusals fit, on objects in several states; and the calls that only tell or foretell. Of two objects that were
 * brought to one state, one gets the call: behind it, both must look the same in all that can be seen.
 */
public final class RefusedTest {
    private static final Due due = new Due();
    private static final int UNKNOWN = OppositeThreads.UNKNOWN, OUTSIDE = OppositeThreads.OUTSIDE, NOT = OppositeThreads.NOT;
    private static final int FULL = OppositeThreads.FULL, NULL = OppositeThreads.NULL, SIZE = OppositeThreads.SIZE;
    private static final int CAST = OppositeThreads.CAST, INDEX = OppositeThreads.INDEX, ROOM = OppositeThreads.ROOM;
    private static final int MAX = Integer.MAX_VALUE, MIN = Integer.MIN_VALUE;
    private static final int[] BELOW_AND_ABOVE = {-1, MIN, MAX};

    private interface State {
        OppositeThreads make();
    }

    private interface Call {
        int on(OppositeThreads x);
    }

    private final State state;
    private final List<Integer> look;

    private RefusedTest(State state) {
        this.state = state;
        look = Look.at(state.make());
    }

    public static void main(String[] args) {
        RefusedTest busy = new RefusedTest(RefusedTest::busy);
        busy.isBusy();
        busy.told();
        busy.done();
        busy.foretold();
        busy.seen();
        busy.sheetsMade();
        busy.sheetsRead();
        busy.sheetsCopied();
        busy.sheetsJoined();
        busy.questions();
        new RefusedTest(OppositeThreads::new).ofNewObject();
        new RefusedTest(RefusedTest::full).whereFull();
        new RefusedTest(RefusedTest::late).onLastDays();
        due.end();
    }

    private void is(String call, Call made, int want) {
        OppositeThreads x = state.make();
        due.is(call, made.on(x), want);
        due.holds(call + " changes nothing", Look.at(x).equals(look));
    }

    /** Three men a side, 5 at home; eight can be undone, two are kept, three are seen; ints, longs, and a missing sheet. */
    private static OppositeThreads busy() {
        OppositeThreads x = Due.told("army 3;sniper 1;drummer 4;buttons 5 0;buttons 0 6;buttons 3 5");
        x.keep(1);
        for (int i = 0; i < 5; i++) {
            x.mend(0, 4);
            x.swap(0, 1);
            x.mend(1, 3);
        }
        x.keep(0);
        x.day(1);
        x.seen(0, 3, 1);
        x.seen(0, 3, 1);
        x.seen(1, 0, 0);
        fill(x, 0, 0, 11, -12, 13);
        fill(x, 1, 1, 21, 22, 23, 24, -25, 26, 27, 28);
        Due.type(x, "sailor 0;army 2;plain 4");
        return x;
    }

    private static OppositeThreads full() {
        OppositeThreads x = new OppositeThreads();
        for (int i = 0; i < 6; i++) {
            x.seen(i % 2, 3, 1);
        }
        fill(x, 2, 0, 1, 2, 3, 4, 5, 6, 7, 8, 9, 10);
        for (int i = 0; i < 200; i++) {
            x.write('a');
        }
        return x;
    }

    private static OppositeThreads late() {
        OppositeThreads x = Due.told("army 1;buttons 1 0");
        for (int i = 0; i < 110; i++) {
            x.day(9);
        }
        x.day(8);
        return x;
    }

    private static void fill(OppositeThreads x, int sheet, int sort, int... numbers) {
        x.sheet(sheet, sort, numbers.length);
        for (int i = 0; i < numbers.length; i++) {
            x.set(sheet, sort, i, numbers[i]);
        }
    }

    private void isBusy() {
        OppositeThreads x = state.make();
        due.is("eight can be undone", x.count(8), 8);
        due.is("two sheets, eleven places", x.count(7), 11);
        due.is("a text with a fault at its end", x.fault(), x.count(9) - 1);
        due.is("the two are kept on one day", x.back(0) + x.back(1), 0);
        due.is("but are unlike", x.man(0, 2) == 3 && x.back(0) == 0 && x.man(1, 2) == 3 ? 1 : 0, 1);
    }

    private void told() {
        is("write(-1)", x -> x.write(-1), OUTSIDE);
        is("write(256)", x -> x.write(256), OUTSIDE);
        is("write(MIN)", x -> x.write(MIN), OUTSIDE);
        is("write(MAX)", x -> x.write(MAX), OUTSIDE);
        is("army() of a text with a fault", x -> x.army(), NOT);
        is("man(6, 0)", x -> x.man(6, 0), UNKNOWN);
        is("man(6, 6): no such man, nor such what", x -> x.man(6, 6), UNKNOWN);
        is("as(6, 0)", x -> x.as(6, 0), UNKNOWN);
        is("as(6, 6): no such man, nor such kind", x -> x.as(6, 6), UNKNOWN);
        for (int none : BELOW_AND_ABOVE) {
            is("man(none, 0)", x -> x.man(none, 0), UNKNOWN);
            is("man(none, none)", x -> x.man(none, none), UNKNOWN);
            is("man(0, none)", x -> x.man(0, none), OUTSIDE);
            is("as(none, 1)", x -> x.as(none, 1), UNKNOWN);
            is("as(none, none)", x -> x.as(none, none), UNKNOWN);
            is("as(0, none)", x -> x.as(0, none), OUTSIDE);
        }
        is("man(0, 6)", x -> x.man(0, 6), OUTSIDE);
        is("man(5, 6) of one at home", x -> x.man(5, 6), OUTSIDE);
        is("as(0, 6)", x -> x.as(0, 6), OUTSIDE);
        is("as(0, 2): a plain one is no sailor", x -> x.as(0, 2), NOT);
        is("as(5, 4): nor a corporal, at home either", x -> x.as(5, 4), NOT);
    }

    private void done() {
        is("day(0)", x -> x.day(0), OUTSIDE);
        is("day(10)", x -> x.day(10), OUTSIDE);
        is("keep(2)", x -> x.keep(2), UNKNOWN);
        is("back(2)", x -> x.back(2), UNKNOWN);
        is("mend(0, 6)", x -> x.mend(0, 6), UNKNOWN);
        is("mend(6, 0)", x -> x.mend(6, 0), UNKNOWN);
        is("mend(6, 6)", x -> x.mend(6, 6), UNKNOWN);
        is("swap(0, 6)", x -> x.swap(0, 6), UNKNOWN);
        is("swap(6, 0)", x -> x.swap(6, 0), UNKNOWN);
        for (int none : BELOW_AND_ABOVE) {
            is("day(none)", x -> x.day(none), OUTSIDE);
            is("keep(none)", x -> x.keep(none), UNKNOWN);
            is("back(none)", x -> x.back(none), UNKNOWN);
            is("mend(none, 3)", x -> x.mend(none, 3), UNKNOWN);
            is("mend(0, none)", x -> x.mend(0, none), UNKNOWN);
            is("swap(none, 0)", x -> x.swap(none, 0), UNKNOWN);
            is("swap(0, none)", x -> x.swap(0, none), UNKNOWN);
        }
        is("mend(1, 1): two that are the same, ahead of one SIDE", x -> x.mend(1, 1), UNKNOWN);
        is("swap(1, 1): two that are the same, ahead of one MENDER", x -> x.swap(1, 1), UNKNOWN);
        is("mend(0, 1): of his side", x -> x.mend(0, 1), NOT);
        is("mend(5, 3): of his side", x -> x.mend(5, 3), NOT);
        is("mend(3, 0): his mender", x -> x.mend(3, 0), NOT);
        is("swap(0, 3): of unlike sides", x -> x.swap(0, 3), NOT);
        is("swap(5, 2): of unlike sides", x -> x.swap(5, 2), NOT);
        is("swap(0, 1): they have one mender", x -> x.swap(0, 1), NOT);
    }

    private void foretold() {
        is("behind(6, 0)", x -> x.behind(6, 0), UNKNOWN);
        is("behind(6, 61)", x -> x.behind(6, 61), UNKNOWN);
        is("behind(0, 61)", x -> x.behind(0, 61), OUTSIDE);
        is("home(6)", x -> x.home(6), UNKNOWN);
        is("left(2, 0)", x -> x.left(2, 0), UNKNOWN);
        is("left(2, 61)", x -> x.left(2, 61), UNKNOWN);
        is("left(0, 61)", x -> x.left(0, 61), OUTSIDE);
        is("coat(0)", x -> x.coat(0), OUTSIDE);
        is("coat(21)", x -> x.coat(21), OUTSIDE);
        is("pairs(2, 1, 0)", x -> x.pairs(2, 1, 0), UNKNOWN);
        is("pairs(2, 0, 3)", x -> x.pairs(2, 0, 3), UNKNOWN);
        is("pairs(0, 0, 0)", x -> x.pairs(0, 0, 0), OUTSIDE);
        is("pairs(1, 21, 0)", x -> x.pairs(1, 21, 0), OUTSIDE);
        is("pairs(0, 1, 3)", x -> x.pairs(0, 1, 3), OUTSIDE);
        is("pairs(1, 1, -2)", x -> x.pairs(1, 1, -2), OUTSIDE);
        is("keeps(6, 0, 0)", x -> x.keeps(6, 0, 0), UNKNOWN);
        is("keeps(6, 11, 2)", x -> x.keeps(6, 11, 2), UNKNOWN);
        is("keeps(0, 11, 0)", x -> x.keeps(0, 11, 0), OUTSIDE);
        is("keeps(0, 0, 2)", x -> x.keeps(0, 0, 2), OUTSIDE);
        is("keeps(5, 11, 0): at home, and q is none", x -> x.keeps(5, 11, 0), OUTSIDE);
        is("keeps(5, 0, 2): at home, and part is none", x -> x.keeps(5, 0, 2), OUTSIDE);
        is("keeps(5, 0, 0): at home", x -> x.keeps(5, 0, 0), NOT);
        is("keeps(5, 10, 1): at home", x -> x.keeps(5, 10, 1), NOT);
        for (int none : BELOW_AND_ABOVE) {
            is("behind(none, none)", x -> x.behind(none, none), UNKNOWN);
            is("behind(0, none)", x -> x.behind(0, none), OUTSIDE);
            is("home(none)", x -> x.home(none), UNKNOWN);
            is("left(none, none)", x -> x.left(none, none), UNKNOWN);
            is("left(1, none)", x -> x.left(1, none), OUTSIDE);
            is("coat(none)", x -> x.coat(none), OUTSIDE);
            is("pairs(none, none, none)", x -> x.pairs(none, none, none), UNKNOWN);
            is("pairs(0, none, 0)", x -> x.pairs(0, none, 0), OUTSIDE);
            is("keeps(none, none, none)", x -> x.keeps(none, none, none), UNKNOWN);
            is("keeps(0, none, 0)", x -> x.keeps(0, none, 0), OUTSIDE);
            is("keeps(0, 0, none)", x -> x.keeps(0, 0, none), OUTSIDE);
        }
        is("pairs(0, 1, MIN)", x -> x.pairs(0, 1, MIN), OUTSIDE);
        is("pairs(0, 1, MAX)", x -> x.pairs(0, 1, MAX), OUTSIDE);
    }

    private void seen() {
        is("seen(2, 0, 0)", x -> x.seen(2, 0, 0), OUTSIDE);
        is("seen(0, 4, 0)", x -> x.seen(0, 4, 0), OUTSIDE);
        is("seen(0, 1, 4)", x -> x.seen(0, 1, 4), OUTSIDE);
        is("count(10)", x -> x.count(10), OUTSIDE);
        for (int none : BELOW_AND_ABOVE) {
            is("seen(none, 0, 0)", x -> x.seen(none, 0, 0), OUTSIDE);
            is("seen(0, none, 0)", x -> x.seen(0, none, 0), OUTSIDE);
            is("seen(0, 0, none)", x -> x.seen(0, 0, none), OUTSIDE);
            is("count(none)", x -> x.count(none), OUTSIDE);
        }
    }

    private void sheetsMade() {
        is("sheet(3, 0, 0)", x -> x.sheet(3, 0, 0), UNKNOWN);
        is("sheet(3, 2, 11)", x -> x.sheet(3, 2, 11), UNKNOWN);
        is("sheet(3, 0, -1)", x -> x.sheet(3, 0, -1), UNKNOWN);
        is("sheet(0, 2, 0)", x -> x.sheet(0, 2, 0), OUTSIDE);
        is("sheet(0, -1, -1): sort ahead of size", x -> x.sheet(0, -1, -1), OUTSIDE);
        is("sheet(0, 2, -1): sort ahead of size", x -> x.sheet(0, 2, -1), OUTSIDE);
        is("sheet(1, 0, 11)", x -> x.sheet(1, 0, 11), OUTSIDE);
        is("sheet(1, 0, MAX)", x -> x.sheet(1, 0, MAX), OUTSIDE);
        is("sheet(0, 1, -1)", x -> x.sheet(0, 1, -1), SIZE);
        is("sheet(2, 0, MIN)", x -> x.sheet(2, 0, MIN), SIZE);
        for (int none : BELOW_AND_ABOVE) {
            is("sheet(none, 0, 1)", x -> x.sheet(none, 0, 1), UNKNOWN);
            is("sheet(0, none, 1)", x -> x.sheet(0, none, 1), OUTSIDE);
        }
    }

    private void sheetsRead() {
        is("set(3, 2, 9, 10000)", x -> x.set(3, 2, 9, 10000), UNKNOWN);
        is("set(2, 2, 9, 0): sort ahead of missing", x -> x.set(2, 2, 9, 0), OUTSIDE);
        is("set(2, 0, 9, 10000): number ahead of missing", x -> x.set(2, 0, 9, 10000), OUTSIDE);
        is("set(0, 1, 9, -10000): number ahead of cast", x -> x.set(0, 1, 9, -10000), OUTSIDE);
        is("set(0, 0, 9, 10000): number ahead of place", x -> x.set(0, 0, 9, 10000), OUTSIDE);
        is("set(2, 0, -1, 0): missing ahead of place", x -> x.set(2, 0, -1, 0), NULL);
        is("set(2, 1, 0, 0)", x -> x.set(2, 1, 0, 0), NULL);
        is("set(0, 1, 3, 0): cast ahead of place", x -> x.set(0, 1, 3, 0), CAST);
        is("set(1, 0, 0, 0)", x -> x.set(1, 0, 0, 0), CAST);
        is("set(0, 0, 3, 0)", x -> x.set(0, 0, 3, 0), INDEX);
        is("set(1, 1, 8, 0)", x -> x.set(1, 1, 8, 0), INDEX);
        is("get(3, 2, 9)", x -> x.get(3, 2, 9), UNKNOWN);
        is("get(2, 2, 9): sort ahead of missing", x -> x.get(2, 2, 9), OUTSIDE);
        is("get(2, 0, -1): missing ahead of place", x -> x.get(2, 0, -1), NULL);
        is("get(0, 1, 3): cast ahead of place", x -> x.get(0, 1, 3), CAST);
        is("get(1, 0, 0)", x -> x.get(1, 0, 0), CAST);
        is("get(0, 0, 3)", x -> x.get(0, 0, 3), INDEX);
        is("get(1, 1, 8)", x -> x.get(1, 1, 8), INDEX);
        is("sum(3)", x -> x.sum(3), UNKNOWN);
        is("sum(2)", x -> x.sum(2), NULL);
        is("drop(3)", x -> x.drop(3), UNKNOWN);
        is("drop(2)", x -> x.drop(2), NULL);
        for (int none : BELOW_AND_ABOVE) {
            is("set(none, 0, 0, 0)", x -> x.set(none, 0, 0, 0), UNKNOWN);
            is("set(0, none, 0, 0)", x -> x.set(0, none, 0, 0), OUTSIDE);
            is("set(0, 0, none, 0)", x -> x.set(0, 0, none, 0), INDEX);
            is("get(none, 0, 0)", x -> x.get(none, 0, 0), UNKNOWN);
            is("get(0, none, 0)", x -> x.get(0, none, 0), OUTSIDE);
            is("get(0, 0, none)", x -> x.get(0, 0, none), INDEX);
            is("sum(none)", x -> x.sum(none), UNKNOWN);
            is("drop(none)", x -> x.drop(none), UNKNOWN);
        }
        is("set(0, 0, 0, MIN)", x -> x.set(0, 0, 0, MIN), OUTSIDE);
        is("set(0, 0, 0, MAX)", x -> x.set(0, 0, 0, MAX), OUTSIDE);
    }

    private void sheetsCopied() {
        is("copy(3, 0, 2, 0, -1): unknown ahead of missing", x -> x.copy(3, 0, 2, 0, -1), UNKNOWN);
        is("copy(2, 0, 3, 0, -1): unknown ahead of missing", x -> x.copy(2, 0, 3, 0, -1), UNKNOWN);
        is("copy(2, 0, 0, 0, -1): missing ahead of size", x -> x.copy(2, 0, 0, 0, -1), NULL);
        is("copy(0, 0, 2, 0, -1): missing ahead of size", x -> x.copy(0, 0, 2, 0, -1), NULL);
        is("copy(2, 9, 2, 9, 9): missing ahead of place", x -> x.copy(2, 9, 2, 9, 9), NULL);
        is("copy(0, 0, 1, 0, -1): size ahead of cast", x -> x.copy(0, 0, 1, 0, -1), SIZE);
        is("copy(0, -1, 0, -1, -1): size ahead of place", x -> x.copy(0, -1, 0, -1, -1), SIZE);
        is("copy(0, 9, 0, 9, MIN)", x -> x.copy(0, 9, 0, 9, MIN), SIZE);
        is("copy(0, 9, 1, 9, 9): cast ahead of place", x -> x.copy(0, 9, 1, 9, 9), CAST);
        is("copy(1, 0, 0, 0, 1)", x -> x.copy(1, 0, 0, 0, 1), CAST);
        is("copy(1, 0, 0, 0, 0): cast, if there is none to copy too", x -> x.copy(1, 0, 0, 0, 0), CAST);
        is("copy(0, 0, 0, 1, 3): not so many there", x -> x.copy(0, 0, 0, 1, 3), INDEX);
        is("copy(0, 1, 0, 0, 3): not so many here", x -> x.copy(0, 1, 0, 0, 3), INDEX);
        is("copy(0, 1, 0, 0, MAX)", x -> x.copy(0, 1, 0, 0, MAX), INDEX);
        is("copy(0, 4, 0, 0, 0)", x -> x.copy(0, 4, 0, 0, 0), INDEX);
        is("copy(0, 0, 0, 4, 0)", x -> x.copy(0, 0, 0, 4, 0), INDEX);
        for (int none : BELOW_AND_ABOVE) {
            is("copy(none, 0, 0, 0, 1)", x -> x.copy(none, 0, 0, 0, 1), UNKNOWN);
            is("copy(0, 0, none, 0, 1)", x -> x.copy(0, 0, none, 0, 1), UNKNOWN);
            is("copy(0, none, 0, 0, 1)", x -> x.copy(0, none, 0, 0, 1), INDEX);
            is("copy(0, 0, 0, none, 1)", x -> x.copy(0, 0, 0, none, 1), INDEX);
            is("copy(0, none, 0, none, MAX)", x -> x.copy(0, none, 0, none, MAX), INDEX);
            is("copy(0, none, 0, none, 0)", x -> x.copy(0, none, 0, none, 0), INDEX);
        }
    }

    private void sheetsJoined() {
        is("join(3, 2): unknown ahead of missing", x -> x.join(3, 2), UNKNOWN);
        is("join(2, 3): unknown ahead of missing", x -> x.join(2, 3), UNKNOWN);
        is("join(1, 2): missing", x -> x.join(1, 2), NULL);
        is("join(2, 1): missing", x -> x.join(2, 1), NULL);
        is("join(2, 2): missing", x -> x.join(2, 2), NULL);
        is("join(0, 1): eleven", x -> x.join(0, 1), ROOM);
        is("join(1, 0): eleven", x -> x.join(1, 0), ROOM);
        is("join(1, 1): sixteen", x -> x.join(1, 1), ROOM);
        for (int none : BELOW_AND_ABOVE) {
            is("join(none, 0)", x -> x.join(none, 0), UNKNOWN);
            is("join(0, none)", x -> x.join(0, none), UNKNOWN);
        }
    }

    /** What only tells, or foretells ("nothing changes"): each has its due answer elsewhere, here it changes nothing. */
    private void questions() {
        Call[] calls = {
            x -> x.fault(), x -> x.man(0, 0), x -> x.man(0, 1), x -> x.man(0, 2), x -> x.man(0, 3), x -> x.man(0, 4),
            x -> x.man(0, 5), x -> x.as(0, 0), x -> x.as(1, 3), x -> x.behind(0, 0), x -> x.behind(3, 60), x -> x.home(0),
            x -> x.home(4), x -> x.quiet(), x -> x.left(0, 60), x -> x.left(1, 0), x -> x.coat(1), x -> x.coat(20),
            x -> x.pairs(0, 1, -1), x -> x.pairs(1, 20, 2), x -> x.keeps(0, 0, 0), x -> x.keeps(3, 10, 1), x -> x.kinds(),
            x -> x.ask(), x -> x.get(0, 0, 2), x -> x.get(1, 1, 0), x -> x.sum(0), x -> x.sum(1), x -> x.copy(0, 3, 0, 3, 0),
            x -> x.count(0), x -> x.count(5), x -> x.count(9),
        };
        for (int i = 0; i < calls.length; i++) {
            OppositeThreads x = state.make();
            int first = calls[i].on(x);
            due.is("question " + i + " asked again", calls[i].on(x), first);
            due.holds("question " + i + " changes nothing", Look.at(x).equals(look));
        }
    }

    private void ofNewObject() {
        is("army() of an empty text", x -> x.army(), NOT);
        is("undo() of none", x -> x.undo(), NOT);
        is("back(0) of none", x -> x.back(0), NOT);
        is("back(1) of none", x -> x.back(1), NOT);
        is("erase() of an empty text", x -> x.erase(), 0);
        is("forget() of nothing seen", x -> x.forget(), 0);
        is("man(4, 0)", x -> x.man(4, 0), UNKNOWN);
        is("drop(0)", x -> x.drop(0), NULL);
    }

    private void whereFull() {
        is("write('a') behind 200", x -> x.write('a'), FULL);
        is("write(0) behind 200", x -> x.write(0), FULL);
        is("write(255) behind 200", x -> x.write(255), FULL);
        is("write(256): outside ahead of full", x -> x.write(256), OUTSIDE);
        is("write(-1): outside ahead of full", x -> x.write(-1), OUTSIDE);
        is("seen(0, 3, 1) behind six", x -> x.seen(0, 3, 1), FULL);
        is("seen(1, 0, 0) behind six", x -> x.seen(1, 0, 0), FULL);
        is("seen(2, 0, 0): outside ahead of full", x -> x.seen(2, 0, 0), OUTSIDE);
        is("seen(0, 4, 0): outside ahead of full", x -> x.seen(0, 4, 0), OUTSIDE);
        is("seen(0, 0, 4): outside ahead of full", x -> x.seen(0, 0, 4), OUTSIDE);
        is("join(2, 2): no room", x -> x.join(2, 2), ROOM);
        is("set(2, 0, 10, 1)", x -> x.set(2, 0, 10, 1), INDEX);
        is("get(2, 0, 10)", x -> x.get(2, 0, 10), INDEX);
    }

    private void onLastDays() {
        is("day(2) on day 998", x -> x.day(2), FULL);
        is("day(9) on day 998", x -> x.day(9), FULL);
        is("day(0): outside ahead of full", x -> x.day(0), OUTSIDE);
        is("day(10): outside ahead of full", x -> x.day(10), OUTSIDE);
        is("day(MAX): outside ahead of full", x -> x.day(MAX), OUTSIDE);
    }
}
