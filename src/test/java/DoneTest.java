/** Promises 8 to 13 and 32: day, mend, swap, undo, keep, back, count. */
public final class DoneTest {
    private static final Due due = new Due();

    public static void main(String[] args) {
        dayHits();
        dayBringsHamper();
        dayRefused();
        mends();
        swaps();
        undoes();
        undoesDaysTogether();
        keepsAndGoesBack();
        counts();
        due.end();
    }

    private static void buttons(String what, OppositeThreads x, int... want) {
        for (int m = 0; m < want.length; m++) {
            due.is(what + ": buttons of " + m, x.man(m, 1), want[m]);
        }
    }

    private static void dayHits() {
        // 0 knows 2, 1 knows 3: 0 hits 3, 1 hits 2; 2 knows 0 and hits 1, 3 knows 1 and hits 0.
        OppositeThreads x = Due.told("sniper 0;buttons 3 1");
        due.is("day 1", x.day(1), 1);
        buttons("a hit of two on one button", x, 2, 2, 2, 0);
        due.is("home", x.count(2), 7);
        // All aim by what there was ahead of the day: who goes home has aimed yet.
        x = Due.told("buttons 0 1;buttons 3 1");
        x.day(1);
        buttons("both hit", x, 0, 2, 2, 0);
        // Hits are together: 0, 1, 2 aim at 3, but for 0 who knows him.
        x = Due.told("army 3;sniper 1;buttons 3 6");
        x.day(1);
        buttons("hits together", x, 1, 2, 3, 3, 2, 3);
        // On days that 2 divides a drummer aims at nobody.
        x = Due.told("drummer 0;drummer 1;drummer 2;drummer 3;buttons 0 6;buttons 1 6;buttons 2 6;buttons 3 6");
        x.day(1);
        buttons("day 1 of drummers", x, 5, 5, 5, 5);
        x.day(1);
        buttons("day 2 of drummers", x, 5, 5, 5, 5);
        due.is("days 3 to 5", x.day(3), 5);
        buttons("with the hamper of day 4", x, 4, 4, 4, 4);
    }

    private static void dayBringsHamper() {
        OppositeThreads x = Due.told("army 1;buttons 0 5;buttons 1 6");
        due.is("day 3", x.day(3), 3);
        buttons("no hamper yet", x, 5, 6);
        due.is("day 4", x.day(1), 4);
        buttons("a button more, six at most", x, 6, 6);
        x = Due.told("army 2;buttons 2 0;buttons 3 0;mender 0 2;mender 1 3");
        due.is("day 9", x.day(9), 9);
        buttons("menders at home mend nothing", x, 3, 3, 0, 0);
        x = Due.told("army 2;buttons 0 0;buttons 1 0;buttons 2 1");
        x.day(8);
        buttons("none for those whose mender is home", x, 0, 0, 1, 3);
        // 0 and 1 know 2, who alone is there; he knows 0 and hits 1 each day: 1 is home on the hamper's day.
        x = Due.told("buttons 3 0;mender 1 2;mender 0 2;buttons 1 4;buttons 2 2");
        x.day(4);
        buttons("hit first, then the hamper", x, 4, 0, 3, 0);
        x = Due.told("buttons 3 0;mender 1 2;mender 0 2;buttons 1 5;buttons 2 2");
        x.day(4);
        buttons("one button left is two then", x, 4, 2, 3, 0);
        // The hamper goes by who is home behind the hits: 2's mender 1 goes home on day 4.
        x = Due.told("buttons 3 0;mender 2 1;mender 0 2;mender 1 2;buttons 0 4;buttons 2 2");
        x.day(4);
        buttons("who was sent home that day", x, 0, 4, 3, 0);
    }

    private static void dayRefused() {
        OppositeThreads x = Due.told("army 1");
        due.is("day(0)", x.day(0), OppositeThreads.OUTSIDE);
        due.is("day(-1)", x.day(-1), OppositeThreads.OUTSIDE);
        due.is("day(10)", x.day(10), OppositeThreads.OUTSIDE);
        due.is("day(MAX)", x.day(Integer.MAX_VALUE), OppositeThreads.OUTSIDE);
        due.is("no undo of these", x.count(8), 0);
        for (int d = 9; d <= 990; d += 9) {
            due.is("day(9)", x.day(9), d);
        }
        due.is("day 998", x.day(8), 998);
        due.is("day(2), full", x.day(2), OppositeThreads.FULL);
        due.is("day(10), full", x.day(10), OppositeThreads.OUTSIDE);
        due.is("day 999", x.day(1), 999);
        due.is("day(1), full", x.day(1), OppositeThreads.FULL);
        due.is("day", x.count(1), 999);
        due.is("foretold behind 999", x.behind(0, 60), 6);
        due.is("undo", x.undo(), 7);
        due.is("day then", x.count(1), 998);
    }

    private static void mends() {
        OppositeThreads x = Due.told("army 3");
        due.is("mend(0, 4)", x.mend(0, 4), 3);
        due.is("mender", x.man(0, 2), 4);
        due.is("knows another", x.man(4, 5), 3);
        due.is("aims at the one he knew", x.man(0, 3), 3);
        due.is("mend(5, 0)", x.mend(5, 0), 2);
        due.is("mend(0, 4) again", x.mend(0, 4), OppositeThreads.NOT);
        due.is("mend(0, 1)", x.mend(0, 1), OppositeThreads.NOT);
        due.is("mend(5, 3)", x.mend(5, 3), OppositeThreads.NOT);
        due.is("mend(6, 0)", x.mend(6, 0), OppositeThreads.UNKNOWN);
        due.is("mend(0, 6)", x.mend(0, 6), OppositeThreads.UNKNOWN);
        due.is("mend(-1, 0)", x.mend(-1, 0), OppositeThreads.UNKNOWN);
        due.is("mend(0, -1)", x.mend(0, -1), OppositeThreads.UNKNOWN);
        due.is("mend(1, 1): two that are the same", x.mend(1, 1), OppositeThreads.UNKNOWN);
        due.is("two can be undone", x.count(8), 2);
    }

    private static void swaps() {
        OppositeThreads x = Due.told("army 3");
        due.is("swap(0, 2)", x.swap(0, 2), 5);
        due.is("first one's", x.man(0, 2), 5);
        due.is("other one's", x.man(2, 2), 3);
        due.is("swap(5, 4)", x.swap(5, 4), 1);
        due.is("swap(0, 3)", x.swap(0, 3), OppositeThreads.NOT);
        x.mend(1, 5);
        due.is("one mender", x.swap(0, 1), OppositeThreads.NOT);
        due.is("swap(1, 1)", x.swap(1, 1), OppositeThreads.UNKNOWN);
        due.is("swap(6, 0)", x.swap(6, 0), OppositeThreads.UNKNOWN);
        due.is("swap(0, 6)", x.swap(0, 6), OppositeThreads.UNKNOWN);
        due.is("swap(-1, 0)", x.swap(-1, 0), OppositeThreads.UNKNOWN);
        due.is("three can be undone", x.count(8), 3);
    }

    private static void undoes() {
        OppositeThreads x = new OppositeThreads();
        due.is("undo of none", x.undo(), OppositeThreads.NOT);
        x.mend(0, 3);
        x.swap(2, 3);
        x.day(1);
        due.is("undo the day", x.undo(), 2);
        due.is("day", x.count(1), 0);
        due.is("buttons", x.count(3), 6);
        due.is("swapped yet", x.man(2, 2), 1);
        due.is("undo the swap", x.undo(), 1);
        due.is("not swapped", x.man(2, 2), 0);
        due.is("nor the other", x.man(3, 2), 1);
        due.is("mended yet", x.man(0, 2), 3);
        due.is("undo the mending", x.undo(), 0);
        due.is("not mended", x.man(0, 2), 2);
        due.is("undo of none left", x.undo(), OppositeThreads.NOT);
        for (int i = 0; i < 11; i++) {
            x.mend(0, i % 2 == 0 ? 3 : 2);
        }
        due.is("eight can be", x.count(8), 8);
        for (int i = 7; i >= 0; i--) {
            due.is("undo", x.undo(), i);
            due.is("mender then", x.man(0, 2), i % 2 == 0 ? 3 : 2);
        }
        due.is("the ninth can't", x.undo(), OppositeThreads.NOT);
        due.is("mender of the third", x.man(0, 2), 3);
    }

    private static void undoesDaysTogether() {
        OppositeThreads x = Due.told("army 2;buttons 0 6;buttons 1 6");
        x.day(1);
        int buttons = x.count(3);
        x.day(9);
        due.is("undo days together", x.undo(), 1);
        due.is("day 1", x.count(1), 1);
        due.is("buttons", x.count(3), buttons);
        x.seen(0, 1, 1);
        x.sheet(0, 0, 3);
        x.undo();
        due.is("seen stays", x.count(6), 1);
        due.is("sheets stay", x.count(7), 3);
        x.keep(0);
        due.is("keep can't be undone", x.undo(), OppositeThreads.NOT);
    }

    private static void keepsAndGoesBack() {
        OppositeThreads x = new OppositeThreads();
        due.is("keep(-1)", x.keep(-1), OppositeThreads.UNKNOWN);
        due.is("keep(2)", x.keep(2), OppositeThreads.UNKNOWN);
        due.is("back(-1)", x.back(-1), OppositeThreads.UNKNOWN);
        due.is("back(2)", x.back(2), OppositeThreads.UNKNOWN);
        due.is("back of none", x.back(0), OppositeThreads.NOT);
        x.day(1);
        due.is("keep(0)", x.keep(0), 1);
        x.mend(0, 3);
        x.day(1);
        due.is("keep(1)", x.keep(1), 2);
        due.is("can be undone yet", x.count(8), 3);
        due.is("day 3", x.day(1), 3);
        x.seen(0, 1, 1);
        x.sheet(0, 0, 3);
        due.is("back(0)", x.back(0), 1);
        due.is("mender", x.man(0, 2), 2);
        due.is("buttons", x.man(0, 1), 2);
        due.is("nothing can be undone", x.undo(), OppositeThreads.NOT);
        due.is("seen stays", x.count(6), 1);
        due.is("sheets stay", x.count(7), 3);
        due.is("back(1)", x.back(1), 2);
        due.is("mended", x.man(0, 2), 3);
        due.is("back(0) again", x.back(0), 1);
        x.day(1);
        due.is("keep(0) again", x.keep(0), 2);
        x.day(1);
        due.is("back to the newer one", x.back(0), 2);
    }

    private static void counts() {
        OppositeThreads x = Due.told("army 3;buttons 0 0;buttons 1 5;buttons 5 6;mender 3 1;mender 4 1;mender 5 1");
        x.write('a');
        x.seen(0, 0, 0);
        x.sheet(0, 0, 4);
        x.sheet(2, 1, 10);
        x.mend(1, 5);
        due.is("men a side", x.count(0), 3);
        due.is("day", x.count(1), 0);
        due.is("not home", x.count(2), 0b111110);
        due.is("buttons of side 0", x.count(3), 8);
        due.is("buttons of side 1", x.count(4), 12);
        due.is("aimers: all but 0", x.count(5), 5);
        due.is("seen", x.count(6), 1);
        due.is("places", x.count(7), 14);
        due.is("undo", x.count(8), 1);
        due.is("letters", x.count(9), 1);
        due.is("count(10)", x.count(10), OppositeThreads.OUTSIDE);
        due.is("count(-1)", x.count(-1), OppositeThreads.OUTSIDE);
        x = Due.told("army 2;buttons 0 0;mender 2 1;mender 3 1;drummer 1");
        due.is("the others know the only one", x.count(5), 1);
        x.day(1);
        due.is("and a drummer rests on day 2", x.count(5), 0);
    }
}
