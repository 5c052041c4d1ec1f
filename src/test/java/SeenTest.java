/** Promises 21 to 24: seen, forget, kinds, ask. */
public final class SeenTest {
    private static final Due due = new Due();

    public static void main(String[] args) {
        seesAndForgets();
        kindsThatFit();
        asksForDay();
        due.end();
    }

    private static void seesAndForgets() {
        OppositeThreads x = new OppositeThreads();
        due.is("forget of none", x.forget(), 0);
        due.is("seen(-1, 0, 0)", x.seen(-1, 0, 0), OppositeThreads.OUTSIDE);
        due.is("seen(2, 0, 0)", x.seen(2, 0, 0), OppositeThreads.OUTSIDE);
        due.is("seen(0, -1, 0)", x.seen(0, -1, 0), OppositeThreads.OUTSIDE);
        due.is("seen(0, 4, 0)", x.seen(0, 4, 0), OppositeThreads.OUTSIDE);
        due.is("seen(0, 0, -1)", x.seen(0, 0, -1), OppositeThreads.OUTSIDE);
        due.is("seen(0, 0, 4)", x.seen(0, 0, 4), OppositeThreads.OUTSIDE);
        due.is("none of these is seen", x.count(6), 0);
        for (int i = 1; i <= 6; i++) {
            due.is("seen " + i, x.seen(0, 1, 1), i);
        }
        due.is("seen 7", x.seen(1, 3, 3), OppositeThreads.FULL);
        due.is("seen 7, outside", x.seen(1, 4, 3), OppositeThreads.OUTSIDE);
        due.is("kinds of six", x.kinds(), 1);
        due.is("forget", x.forget(), 6);
        due.is("seen then", x.count(6), 0);
        due.is("kinds of none", x.kinds(), 31);
    }

    private static void kindsThatFit() {
        OppositeThreads x = new OppositeThreads();
        int[][] fits = {
            // day, w, h, kinds
            {0, 0, 0, 0}, {1, 0, 0, 16}, {0, 1, 1, 1}, {1, 1, 1, 1}, {0, 1, 2, 4}, {1, 1, 2, 4},
            {0, 2, 1, 2}, {1, 2, 1, 2}, {0, 3, 1, 24}, {1, 3, 1, 8},
        };
        for (int day = 0; day <= 1; day++) {
            for (int w = 0; w <= 3; w++) {
                for (int h = 0; h <= 3; h++) {
                    int want = 0;
                    for (int[] fit : fits) {
                        want = fit[0] == day && fit[1] == w && fit[2] == h ? fit[3] : want;
                    }
                    x.forget();
                    due.is("seen(" + day + ", " + w + ", " + h + ")", x.seen(day, w, h), 1);
                    due.is("kinds then", x.kinds(), want);
                }
            }
        }
        x.forget();
        x.seen(0, 3, 1);
        x.seen(1, 0, 0);
        due.is("a drummer", x.kinds(), 16);
        x.seen(0, 1, 1);
        due.is("no kind", x.kinds(), 0);
    }

    private static void asksForDay() {
        OppositeThreads x = new OppositeThreads();
        due.is("ask of all: day 1 parts corporal and drummer too", x.ask(), 1);
        x.seen(0, 3, 1);
        due.is("ask of corporal and drummer", x.ask(), 1);
        x.seen(1, 3, 1);
        due.is("ask of corporal alone", x.ask(), OppositeThreads.NONE);
        x.seen(0, 0, 0);
        due.is("ask of no kind", x.ask(), OppositeThreads.NONE);
        due.is("nothing is seen by asking", x.count(6), 3);
    }
}
