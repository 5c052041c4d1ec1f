/** Promises 14 to 20: behind, home, quiet, left, coat, pairs, keeps. */
public final class ForetoldTest {
    private static final Due due = new Due();

    public static void main(String[] args) {
        behindDays();
        homeDays();
        quietDays();
        leftOfSide();
        nothingChanges();
        bestCoat();
        bestPairs();
        oddsToStay();
        due.end();
    }

    private static void behindDays() {
        OppositeThreads x = Due.told("army 1;buttons 0 1;buttons 1 4");
        due.is("behind(0, 0)", x.behind(0, 0), 1);
        due.is("behind(0, 3)", x.behind(0, 3), 1);
        due.is("behind(0, 4)", x.behind(0, 4), 2);
        due.is("behind(1, 8)", x.behind(1, 8), 6);
        due.is("behind(0, 60)", x.behind(0, 60), 6);
        due.is("behind(0, 61)", x.behind(0, 61), OppositeThreads.OUTSIDE);
        due.is("behind(0, -1)", x.behind(0, -1), OppositeThreads.OUTSIDE);
        due.is("behind(2, 61)", x.behind(2, 61), OppositeThreads.UNKNOWN);
        due.is("behind(-1, 0)", x.behind(-1, 0), OppositeThreads.UNKNOWN);
        x.day(3);
        due.is("days go on from now", x.behind(0, 1), 2);
    }

    private static void homeDays() {
        // 0 and 1 know 2, who alone is there and hits 1 once a day.
        OppositeThreads x = Due.told("buttons 3 0;mender 1 2;buttons 1 3");
        due.is("home(1)", x.home(1), 3);
        due.is("home(3)", x.home(3), 0);
        due.is("home(0)", x.home(0), OppositeThreads.NONE);
        due.is("home(2)", x.home(2), OppositeThreads.NONE);
        due.is("home(4)", x.home(4), OppositeThreads.UNKNOWN);
        due.is("home(-1)", x.home(-1), OppositeThreads.UNKNOWN);
        x.day(2);
        due.is("home(1) from day 2", x.home(1), 1);
        // Four coats of six, hit on odd days alone and mended each fourth: one button fewer in 4 days.
        x = Due.told("drummer 0;drummer 1;drummer 2;drummer 3;buttons 0 6;buttons 1 6;buttons 2 6;buttons 3 6");
        due.is("home late", x.home(0), 19);
        due.is("left the day before", x.behind(0, 18), 1);
    }

    private static void quietDays() {
        OppositeThreads x = Due.told("buttons 3 0;mender 1 2;buttons 1 3");
        due.is("quiet when 1 is home", x.quiet(), 3);
        x.day(3);
        due.is("quiet now", x.quiet(), 0);
        due.is("one man a side is quiet", Due.told("army 1").quiet(), 0);
        x = Due.told("drummer 0;drummer 1;drummer 2;drummer 3");
        due.is("drummers are quiet ahead of day 2", x.quiet(), 1);
        x.day(1);
        due.is("and then", x.quiet(), 0);
        // One corporal goes round three coats of six; each fourth day brings three buttons for the four he shot off.
        x = Due.told("army 4;corporal 0;buttons 1 0;buttons 2 0;buttons 3 0;buttons 5 6;buttons 6 6;buttons 7 6;"
            + "mender 5 0;mender 6 0;mender 7 0");
        // So each has two behind day 48, one goes home on day 52, and the others four days later.
        due.is("quiet late", x.quiet(), 56);
        due.is("six buttons behind 48 days", x.behind(5, 48) + x.behind(6, 48) + x.behind(7, 48), 6);
        due.is("two left behind 52 days, and 4 who is known", x.left(1, 52), 3);
        x.day(8);
        due.is("quiet from day 8", x.quiet(), 48);
        x = Due.told("buttons 2 0;buttons 3 0");
        due.is("nobody over there", x.quiet(), 0);
    }

    private static void leftOfSide() {
        OppositeThreads x = Due.told("army 3;buttons 0 1;buttons 5 0");
        due.is("left(0, 0)", x.left(0, 0), 3);
        due.is("left(1, 0)", x.left(1, 0), 2);
        due.is("left(0, 1)", x.left(0, 1), 2);
        due.is("left(2, 61)", x.left(2, 61), OppositeThreads.UNKNOWN);
        due.is("left(-1, 0)", x.left(-1, 0), OppositeThreads.UNKNOWN);
        due.is("left(0, 61)", x.left(0, 61), OppositeThreads.OUTSIDE);
        due.is("left(1, -1)", x.left(1, -1), OppositeThreads.OUTSIDE);
        due.is("left(1, 60)", Due.told("army 1").left(1, 60), 1);
    }

    private static void nothingChanges() {
        OppositeThreads x = Due.told("army 4;sniper 1;drummer 6");
        x.day(1);
        int inField = x.count(2);
        int buttons = x.count(3);
        x.behind(0, 60);
        x.home(0);
        x.quiet();
        x.left(0, 60);
        x.coat(20);
        x.pairs(1, 20, 0);
        x.keeps(0, 5, 0);
        due.is("day", x.count(1), 1);
        due.is("undo", x.count(8), 1);
        due.is("not home", x.count(2), inField);
        due.is("buttons", x.count(3), buttons);
        for (int m = 0; m < 8; m++) {
            due.is("mender", x.man(m, 2), (m + 4) % 8);
        }
    }

    private static void bestCoat() {
        // 1 alone is hit (by 2): he stays behind a day if 2 knows him.
        OppositeThreads x = Due.told("buttons 3 0;mender 1 2;buttons 1 1;buttons 0 6");
        due.is("coat(1): 2 is mended by 1, but then hits 0", x.coat(1), 21);
        due.is("coat(6)", x.coat(6), 21);
        due.is("coat(7): then 0 is home instead", x.coat(7), OppositeThreads.NONE);
        due.is("coat(0)", x.coat(0), OppositeThreads.OUTSIDE);
        due.is("coat(21)", x.coat(21), OppositeThreads.OUTSIDE);
        due.is("coat(-1)", x.coat(-1), OppositeThreads.OUTSIDE);
        due.is("coat of one a side", Due.told("army 1").coat(20), OppositeThreads.NONE);
        due.is("coat: nobody falls", new OppositeThreads().coat(2), OppositeThreads.NONE);
        x.mend(2, 1);
        due.is("already so", x.coat(1), OppositeThreads.NONE);
        // 0 and 1 would send home 3 and 2, 3 and 2 aim at nobody: the first coat that keeps one is taken.
        x = Due.told("buttons 2 1;buttons 3 1;sniper 2;sniper 3;buttons 0 6;buttons 1 6");
        due.is("of several the least", x.coat(1), 3);
    }

    private static void bestPairs() {
        // Either way each hits one; the first pairs are taken where all are as good.
        OppositeThreads x = new OppositeThreads();
        due.is("pairs(0, 1, NONE)", x.pairs(0, 1, -1), 4);
        due.is("pairs(0, 1, 0)", x.pairs(0, 1, 0), 2);
        due.is("pairs(1, 1, 1)", x.pairs(1, 1, 1), 1);
        // 0 alone can hit, and sends home whom he doesn't know: he should know 3, who has one button.
        x = Due.told("buttons 1 0;sniper 0;buttons 2 6;buttons 3 1;mender 2 0;mender 3 0;buttons 0 6");
        due.is("left", x.pairs(0, 1, -1), 3);
        due.is("0 should know 3", x.pairs(0, 1, 0), 3);
        due.is("1 the other", x.pairs(0, 1, 1), 2);
        due.is("side 1 can't help it", x.pairs(1, 1, -1), 2);
        due.is("so its pairs are the first", x.pairs(1, 1, 0), 0);
        due.is("and unlike", x.pairs(1, 1, 1), 1);
        // The same seen from over there: 2 alone can hit, and should know 1.
        x = Due.told("buttons 3 0;sniper 2;buttons 0 6;buttons 1 1;mender 0 2;mender 1 2;buttons 2 6;mender 2 0");
        due.is("left by side 1", x.pairs(1, 1, -1), 3);
        due.is("2 should know 1", x.pairs(1, 1, 0), 1);
        due.is("3 the other", x.pairs(1, 1, 1), 0);
        due.is("pairs(2, 0, 9)", x.pairs(2, 0, 9), OppositeThreads.UNKNOWN);
        due.is("pairs(-1, 1, 0)", x.pairs(-1, 1, 0), OppositeThreads.UNKNOWN);
        due.is("pairs(0, 0, 0)", x.pairs(0, 0, 0), OppositeThreads.OUTSIDE);
        due.is("pairs(0, 21, 0)", x.pairs(0, 21, 0), OppositeThreads.OUTSIDE);
        due.is("pairs(0, 20, 2)", x.pairs(0, 20, 2), OppositeThreads.OUTSIDE);
        due.is("pairs(0, 20, -2)", x.pairs(0, 20, -2), OppositeThreads.OUTSIDE);
        x = Due.told("army 4;buttons 4 0;buttons 5 0;buttons 6 0;buttons 7 1;sniper 0;buttons 1 0;buttons 2 0;buttons 3 0");
        due.is("0 knows 7", x.pairs(0, 1, 0), 7);
        due.is("1 the least yet", x.pairs(0, 1, 1), 4);
        due.is("2", x.pairs(0, 1, 2), 5);
        due.is("3", x.pairs(0, 1, 3), 6);
        due.is("two stay", x.pairs(0, 1, -1), 2);
    }

    private static void odds(OppositeThreads x, int man, int q, int above, int below) {
        due.is("keeps(" + man + ", " + q + ", 0)", x.keeps(man, q, 0), above);
        due.is("keeps(" + man + ", " + q + ", 1)", x.keeps(man, q, 1), below);
    }

    private static void oddsToStay() {
        // 1, 2, 3 aim at 4 and know others; 0 knows him and aims at 5.
        OppositeThreads x = Due.told("army 4;sniper 1;buttons 4 3;buttons 7 0");
        // Sent home by the sniper and one other: .7 (1 - .3 .3) = .637.
        odds(x, 4, 3, 363, 1000);
        odds(x, 4, 0, 0, 1);
        odds(x, 4, 10, 1, 1);
        odds(x, 4, 5, 5, 8);
        odds(x, 6, 0, 1, 1);
        due.is("keeps: home", x.keeps(7, 5, 0), OppositeThreads.NOT);
        due.is("keeps: home, outside", x.keeps(7, 11, 0), OppositeThreads.OUTSIDE);
        due.is("keeps(8, 11, 0)", x.keeps(8, 11, 0), OppositeThreads.UNKNOWN);
        due.is("keeps(-1, 0, 0)", x.keeps(-1, 0, 0), OppositeThreads.UNKNOWN);
        due.is("keeps(4, -1, 0)", x.keeps(4, -1, 0), OppositeThreads.OUTSIDE);
        due.is("keeps(4, 11, 0)", x.keeps(4, 11, 0), OppositeThreads.OUTSIDE);
        due.is("keeps(4, 0, 2)", x.keeps(4, 0, 2), OppositeThreads.OUTSIDE);
        due.is("keeps(4, 0, -1)", x.keeps(4, 0, -1), OppositeThreads.OUTSIDE);
        // All four aim at 4, who has one button: all must aim at the ground.
        x = Due.told("army 4;mender 0 5;buttons 4 1");
        odds(x, 4, 1, 1, 10000);
        odds(x, 4, 2, 1, 625);
        odds(x, 4, 9, 6561, 10000);
        // A drummer's day off.
        x = Due.told("drummer 0;drummer 1;buttons 3 6;buttons 2 6");
        x.day(1);
        odds(x, 2, 0, 1, 1);
    }
}
