/** Section 3 of the document and promises 14 to 24: each sentence there that names a boundary, with a test of its own. */
public final class ForetoldEdgesTest {
    private static final Due due = new Due();
    private static final int NONE = OppositeThreads.NONE, UNKNOWN = OppositeThreads.UNKNOWN;
    private static final int OUTSIDE = OppositeThreads.OUTSIDE, NOT = OppositeThreads.NOT;
    // 0 alone hits, a corporal, and each fourth day brings back three buttons for the four that he shot off.
    private static final String LONG_WAR = "army 4;corporal 0;mender 0 7;buttons 1 0;buttons 2 0;buttons 3 0;"
        + "buttons 4 6;buttons 5 6;buttons 6 6;buttons 7 6;mender 5 0;mender 6 0;mender 7 0";

    public static void main(String[] args) {
        daysForetold();
        foretoldIsDone();
        foretoldBeyondLastDay();
        homeFirst();
        homeLate();
        quietFirst();
        quietByDrummers();
        leftOfEachSide();
        coatDays();
        coatMoreThanElse();
        coatOfSeveral();
        coatOfEitherSide();
        coatByTheOtherSideAlone();
        pairsDays();
        pairsOfMen();
        pairsUnlike();
        pairsFirstOfSeveral();
        keepsByTenths();
        keepsInLowestTerms();
        keepsNobodyAims();
        keepsHomeOrNot();
        seenSix();
        seenNumbers();
        kindsByTwo();
        askParts();
        due.end();
    }

    // "behind n DAYS (0 .. 60)", "LEFT (n 0 .. 60)"
    private static void daysForetold() {
        OppositeThreads x = Due.told("army 1;buttons 0 1;buttons 1 0");
        for (int n = -2; n <= 62; n++) {
            boolean fits = n >= 0 && n <= 60;
            due.is("behind(0, " + n + ")", x.behind(0, n), fits ? 1 : OUTSIDE);
            due.is("left(0, " + n + ")", x.left(0, n), fits ? 1 : OUTSIDE);
            due.is("left(1, " + n + ")", x.left(1, n), fits ? 0 : OUTSIDE);
        }
        due.is("behind: no such man", x.behind(2, 60), UNKNOWN);
        due.is("behind: the last man", x.behind(1, 60), 0);
    }

    // "nothing but DAYS being done from now": what is foretold is what comes
    private static void foretoldIsDone() {
        OppositeThreads x = Due.told(LONG_WAR);
        int[][] told = new int[61][8];
        int[] left = new int[61];
        for (int n = 0; n <= 60; n += 5) {
            for (int m = 0; m < 8; m++) {
                told[n][m] = x.behind(m, n);
            }
            left[n] = 10 * x.left(0, n) + x.left(1, n);
        }
        for (int n = 0; n <= 60; n += 5) {
            for (int m = 0; m < 8; m++) {
                due.is("buttons of " + m + " behind " + n, x.man(m, 1), told[n][m]);
            }
            due.is("left behind " + n, 10 * x.left(0, 0) + x.left(1, 0), left[n]);
            x.day(5);
        }
    }

    // No day is told to be the last of those that are foretold.
    private static void foretoldBeyondLastDay() {
        OppositeThreads x = Due.told("army 1;buttons 1 0;buttons 0 2");
        for (int i = 0; i < 111; i++) {
            x.day(9);
        }
        due.is("day 999", x.count(1), 999);
        due.is("behind 60 more", x.behind(0, 60), 2);
        due.is("left behind 60 more", x.left(0, 60), 1);
        due.is("home", x.home(0), NONE);
        due.is("quiet", x.quiet(), 0);
        due.is("coat", x.coat(20), NONE);
        due.is("pairs", x.pairs(0, 20, NONE), 1);
        due.is("it is day 999 yet", x.count(1), 999);
    }

    // "HOME: behind how many DAYS (0 .. 60) one is HOME first; none"
    private static void homeFirst() {
        // 2 alone hits, and 1, who has b buttons; a hamper comes behind the hits of day 4.
        int[] days = {0, 1, 2, 3, 4, 6, 7};
        for (int b = 0; b <= 6; b++) {
            OppositeThreads x = Due.told("buttons 3 0;mender 1 2;buttons 1 " + b);
            due.is("home with " + b, x.home(1), days[b]);
            due.is("left then", x.behind(1, days[b]), 0);
            due.is("left the day before", b == 0 || x.behind(1, days[b] - 1) > 0 ? 1 : 0, 1);
            due.is("nobody aims at 0", x.home(0), NONE);
            due.is("already home", x.home(3), 0);
        }
        OppositeThreads x = Due.told("buttons 3 0;mender 1 2;buttons 1 4");
        for (int d = 4; d >= 0; d--) {
            due.is("from now", x.home(1), d);
            x.day(1);
        }
        due.is("and then now", x.home(1), 0);
        due.is("no such man", x.home(4), UNKNOWN);
    }

    // The latest that there is: three coats of six on day 1, which are as full again behind the hamper of day 4.
    private static void homeLate() {
        OppositeThreads x = Due.told(LONG_WAR);
        x.day(1);
        x.mend(0, 4);
        int latest = Math.max(x.home(5), Math.max(x.home(6), x.home(7)));
        due.is("the last goes home behind 59", latest, 59);
        due.is("two there behind 58", x.left(1, 58), 2);
        due.is("one there behind 59", x.left(1, 59), 1);
        due.is("quiet behind 59", x.quiet(), 59);
        due.is("4, whom he knows, never goes", x.home(4), NONE);
        due.is("nor does he", x.home(0), NONE);
    }

    // "QUIET: behind the fewest (0 .. 60) nobody AIMS at anybody on the DAY then to come"
    private static void quietFirst() {
        due.is("nobody is open", Due.told("army 1").quiet(), 0);
        due.is("all are home", Due.told("army 1;buttons 0 0;buttons 1 0").quiet(), 0);
        for (int b = 0; b <= 3; b++) {
            OppositeThreads x = Due.told("buttons 3 0;mender 1 2;buttons 1 " + b);
            due.is("quiet when the only target is home", x.quiet(), b);
            due.is("aimers now", x.count(5), b == 0 ? 0 : 1);
        }
        due.is("all sent home at once", Due.told("buttons 0 1;buttons 1 1;buttons 2 1;buttons 3 1").quiet(), 1);
    }

    private static void quietByDrummers() {
        OppositeThreads x = Due.told("drummer 0;drummer 1;drummer 2;drummer 3;buttons 0 6;buttons 1 6;buttons 2 6;buttons 3 6");
        for (int d = 0; d < 10; d++) {
            due.is("on day " + d, x.quiet(), d % 2 == 0 ? 1 : 0);
            x.day(1);
        }
    }

    // "LEFT: how many of a SIDE are not HOME behind n DAYS"
    private static void leftOfEachSide() {
        for (int away = 0; away <= 4; away++) {
            StringBuilder text = new StringBuilder("army 4");
            for (int m = 0; m < away; m++) {
                text.append(";buttons ").append(7 - m).append(" 0");
            }
            OppositeThreads x = Due.told(text.toString());
            due.is("left of side 0", x.left(0, 0), 4);
            due.is("left of side 1", x.left(1, 0), 4 - away);
        }
        OppositeThreads x = new OppositeThreads();
        due.is("left(-1, 0)", x.left(-1, 0), UNKNOWN);
        due.is("left(2, 0)", x.left(2, 0), UNKNOWN);
        due.is("behind 2 days", x.left(0, 2), 2);
        due.is("behind 3 days", x.left(0, 3), 0);
    }

    // "COAT for n DAYS (1 .. 20)"
    private static void coatDays() {
        OppositeThreads x = Due.told("army 1");
        for (int n = -1; n <= 22; n++) {
            due.is("coat(" + n + ")", x.coat(n), n >= 1 && n <= 20 ? NONE : OUTSIDE);
        }
        // 2 alone hits, and sends 1 home behind the first day; if he knows him, 0 behind as many as he has buttons.
        int[] until = {0, 0, 1, 2, 3, 5, 6};
        for (int b = 2; b <= 6; b++) {
            x = Due.told("buttons 3 0;mender 1 2;buttons 1 1;buttons 0 " + b);
            for (int n = 1; n <= 20; n++) {
                due.is("coat(" + n + ") with " + b, x.coat(n), n <= until[b] ? 21 : NONE);
            }
        }
        // 0 alone hits, a drummer, and 5 has one button fewer each fourth day; if 4 were open too, neither had.
        x = Due.told("army 3;drummer 0;buttons 1 0;buttons 2 0;buttons 3 0;buttons 4 6;buttons 5 6;mender 0 4;mender 4 0;mender 5 0");
        due.is("home behind 19", x.home(5), 19);
        due.is("coat(18)", x.coat(18), NONE);
        due.is("coat(19)", x.coat(19), 3);
        due.is("coat(20)", x.coat(20), 3);
    }

    // "so that most MEN of both SIDES are not HOME behind them, more than else; .. none"
    private static void coatMoreThanElse() {
        due.is("all stay anyhow", new OppositeThreads().coat(2), NONE);
        due.is("one a side", Due.told("army 1").coat(1), NONE);
        due.is("all are home", Due.told("buttons 0 0;buttons 1 0;buttons 2 0;buttons 3 0").coat(20), NONE);
        // 2 alone hits: as many go home whomever he knows.
        due.is("one goes home either way", Due.told("buttons 3 0;mender 1 2;buttons 0 1;buttons 1 1").coat(1), NONE);
        due.is("one stays if he knows the other", Due.told("buttons 3 0;mender 1 2;buttons 0 2;buttons 1 1").coat(1), 21);
        OppositeThreads x = Due.told("buttons 3 0;mender 1 2;buttons 0 2;buttons 1 1;mender 2 1");
        due.is("he does know him", x.coat(1), NONE);
        // One coat keeps one, another keeps two: the second is told, though the first is of a lesser number.
        x = Due.told("army 3;buttons 1 0;buttons 2 0;buttons 3 1;buttons 4 1;buttons 5 6;buttons 0 1;mender 0 5;"
            + "sniper 0;mender 3 0;mender 4 0;mender 5 1");
        due.is("left behind a day", x.left(0, 1) + x.left(1, 1), 2);
        x.mend(5, 0);
        due.is("left if 5 knows 0", x.left(0, 1) + x.left(1, 1), 3);
        x.undo();
        x.mend(0, 3);
        due.is("left if 0 knows 3", x.left(0, 1) + x.left(1, 1), 2);
        x.undo();
        due.is("coat", x.coat(1), 50);
    }

    // "of several the least of 10 times m, and s"
    private static void coatOfSeveral() {
        // 0 hits 3, 1 hits 2, each with one button: 0 by 3, 1 by 2 keep one each.
        OppositeThreads x = Due.told("buttons 2 1;buttons 3 1;buttons 0 6;buttons 1 6");
        due.is("0 by 3 and not 1 by 2", x.coat(1), 3);
        x = Due.told("buttons 2 1;buttons 3 6;buttons 0 6;buttons 1 6");
        due.is("1 by 2", x.coat(1), 12);
        // 0 hits 5, who has one button: he should know him, and then hits one that has more.
        x = Due.told("army 4;buttons 1 0;buttons 2 0;buttons 3 0;buttons 5 1;mender 5 0;mender 6 0;mender 7 0");
        due.is("0 by 5", x.coat(1), 5);
        // A sailor who sends home the greatest: he may know that one alone.
        x = Due.told("army 4;sailor 3;buttons 0 0;buttons 1 0;buttons 2 0;buttons 7 1;mender 3 4;mender 4 3;mender 5 3;mender 6 3;mender 7 3");
        due.is("3 by 7", x.coat(1), 37);
        // A corporal hits the fullest, whoever he is; that all have one and the same is of no help.
        x = Due.told("army 4;corporal 3;buttons 0 0;buttons 1 0;buttons 2 0;buttons 4 1;buttons 5 1;buttons 6 1;buttons 7 1;"
            + "mender 4 3;mender 5 3;mender 6 3;mender 7 3");
        due.is("no coat helps", x.coat(1), NONE);
    }

    private static void coatOfEitherSide() {
        // 7 alone hits: 0, who has one button; he should know him.
        OppositeThreads x = Due.told("army 4;buttons 4 0;buttons 5 0;buttons 6 0;buttons 0 1;mender 0 7;mender 1 7;mender 2 7");
        due.is("7 by 0", x.coat(1), 70);
        // A sailor: 3 has one.
        x = Due.told("army 4;sailor 7;mender 7 0;buttons 4 0;buttons 5 0;buttons 6 0;buttons 3 1;mender 0 7;mender 1 7;mender 2 7");
        due.is("7 by 3", x.coat(1), 73);
    }

    // "whose COAT should be mended by whom": if a corporal knew nobody, he went round both, and both stayed
    private static void coatByTheOtherSideAlone() {
        OppositeThreads x = Due.told("corporal 0;buttons 1 0;mender 3 0");
        due.is("whichever 0 knows, the other goes home", x.coat(4), NONE);
        x = Due.told("corporal 3;buttons 2 0;mender 0 3");
        due.is("whichever 3 knows, the other goes home", x.coat(4), NONE);
    }

    // "PAIRS for a SIDE and n DAYS (1 .. 20)", "UNKNOWN: the SIDE; OUTSIDE: n"
    private static void pairsDays() {
        OppositeThreads x = Due.told("army 1");
        for (int n = -1; n <= 22; n++) {
            boolean fits = n >= 1 && n <= 20;
            due.is("pairs(0, " + n + ", NONE)", x.pairs(0, n, NONE), fits ? 2 : OUTSIDE);
            due.is("pairs(1, " + n + ", 0)", x.pairs(1, n, 0), fits ? 0 : OUTSIDE);
        }
        for (int side = -1; side <= 2; side++) {
            due.is("pairs(" + side + ", 1, 0)", x.pairs(side, 1, 0), side == 0 || side == 1 ? 1 - side : UNKNOWN);
        }
        // 0 alone, a drummer, hits on odd days the one whom he does not know: 2 goes home behind 19, 3 sooner.
        x = Due.told("drummer 0;buttons 1 0;buttons 2 6;buttons 3 5;mender 2 0;mender 3 0");
        due.is("if he knows 2, 3 goes home", x.home(3), 15);
        due.is("14 days: either", x.pairs(0, 14, 0), 2);
        due.is("14 days: all three stay", x.pairs(0, 14, NONE), 3);
        due.is("15 days: he should know 3", x.pairs(0, 15, 0), 3);
        due.is("15 days: all three stay", x.pairs(0, 15, NONE), 3);
        due.is("18 days", x.pairs(0, 18, NONE), 3);
        due.is("19 days: one goes anyhow", x.pairs(0, 19, NONE), 2);
        due.is("20 days: either", x.pairs(0, 20, 0), 2);
    }

    // "the MENDER of the k-th MAN of the SIDE (0 on)", "OUTSIDE: k not NONE .. n a SIDE less 1"
    private static void pairsOfMen() {
        for (int n = 1; n <= 4; n++) {
            OppositeThreads x = Due.told("army " + n);
            for (int side = 0; side <= 1; side++) {
                for (int k = -3; k <= n + 1; k++) {
                    // Of four a side, three aim at the first over there, and he has three buttons, whoever knows him.
                    int left = n == 4 ? 6 : 2 * n;
                    int want = k < -1 || k >= n ? OUTSIDE : k == NONE ? left : (1 - side) * n + k;
                    due.is("pairs(" + side + ", 1, " + k + ") of " + n, x.pairs(side, 1, k), want);
                }
            }
        }
    }

    // "which MENDERS its MEN should have now, unlike ones"
    private static void pairsUnlike() {
        // All four would do best to know 7, whom they hit else; but one alone may.
        OppositeThreads x = Due.told("army 4;sailor 0;sailor 1;sailor 2;sailor 3;mender 0 7;mender 1 7;mender 2 7;buttons 7 1;buttons 6 6;buttons 0 6");
        due.is("all know him: he stays", x.left(1, 1), 4);
        due.is("one alone may", x.pairs(0, 1, NONE), 7);
        int all = 0;
        for (int k = 0; k < 4; k++) {
            all |= 1 << x.pairs(0, 1, k);
        }
        due.is("each has one of his own", all, 0b11110000);
        for (int side = 0; side <= 1; side++) {
            int seen = 0;
            for (int k = 0; k < 4; k++) {
                seen |= 1 << x.pairs(side, 20, k);
            }
            due.is("of the other side", seen, side == 0 ? 0b11110000 : 0b1111);
        }
    }

    // "of several the first (by their numbers, MAN by MAN)"
    private static void pairsFirstOfSeveral() {
        // 1 alone hits, a sailor who would send home 7: he should know him; the others then in their order.
        OppositeThreads x = Due.told("army 4;sailor 1;buttons 0 0;buttons 2 0;buttons 3 0;buttons 7 1;mender 4 1;mender 5 1;mender 6 1;mender 7 1");
        int[] want = {4, 7, 5, 6};
        for (int k = 0; k < 4; k++) {
            due.is("side 0, man " + k, x.pairs(0, 1, k), want[k]);
        }
        // The same of 0, who comes first.
        x = Due.told("army 4;sailor 0;buttons 1 0;buttons 2 0;buttons 3 0;buttons 7 1;mender 4 0;mender 5 0;mender 6 0;mender 7 0");
        for (int k = 0; k < 4; k++) {
            due.is("0 has the last, man " + k, x.pairs(0, 1, k), k == 0 ? 7 : 3 + k);
        }
        // And of 7, over there.
        x = Due.told("army 4;sailor 7;buttons 4 0;buttons 5 0;buttons 6 0;buttons 3 1;mender 0 7;mender 1 7;mender 2 7;mender 7 0");
        for (int k = 0; k < 4; k++) {
            due.is("7 has the last, man " + k, x.pairs(1, 1, k), k);
        }
        // All as good: the first of all, though their menders now are others.
        x = Due.told("army 4;buttons 0 0;buttons 1 0;buttons 2 0;buttons 3 0;mender 4 3;mender 5 2;mender 6 1;mender 7 0");
        for (int k = 0; k < 4; k++) {
            due.is("side 1, man " + k, x.pairs(1, 20, k), k);
            due.is("side 0 of those at home, man " + k, x.pairs(0, 20, k), 4 + k);
        }
        due.is("four stay", x.pairs(1, 20, NONE), 4);
    }

    private static void odds(OppositeThreads x, int man, int q, int above, int below) {
        due.is("keeps(" + man + ", " + q + ", 0)", x.keeps(man, q, 0), above);
        due.is("keeps(" + man + ", " + q + ", 1)", x.keeps(man, q, 1), below);
    }

    // "aims at the ground by q of ten (0 .. 10)"
    private static void keepsByTenths() {
        OppositeThreads x = Due.told("buttons 2 1");
        int[] above = {0, 1, 1, 3, 2, 1, 3, 7, 4, 9, 1};
        int[] below = {1, 10, 5, 10, 5, 2, 5, 10, 5, 10, 1};
        for (int q = 0; q <= 10; q++) {
            odds(x, 2, q, above[q], below[q]);
        }
        for (int part = -1; part <= 2; part++) {
            due.is("keeps(2, -1, " + part + ")", x.keeps(2, -1, part), OUTSIDE);
            due.is("keeps(2, 11, " + part + ")", x.keeps(2, 11, part), OUTSIDE);
        }
        due.is("part -1", x.keeps(2, 5, -1), OUTSIDE);
        due.is("part 2", x.keeps(2, 5, 2), OUTSIDE);
    }

    // "Parts are told in lowest terms: above (part 0), below (1)"
    private static void keepsInLowestTerms() {
        OppositeThreads x = Due.told("army 4;mender 0 5;buttons 4 1");
        odds(x, 4, 0, 0, 1);
        odds(x, 4, 1, 1, 10000);
        odds(x, 4, 3, 81, 10000);
        odds(x, 4, 5, 1, 16);
        odds(x, 4, 8, 256, 625);
        odds(x, 4, 10, 1, 1);
        // Four snipers on six: he goes home if three of them hit.
        x = Due.told("army 4;mender 0 5;buttons 4 6;sniper 0;sniper 1;sniper 2;sniper 3");
        odds(x, 4, 5, 11, 16);
        odds(x, 4, 0, 0, 1);
        odds(x, 4, 1, 523, 10000);
        odds(x, 4, 10, 1, 1);
        // And on four: if two do.
        x = Due.told("army 4;mender 0 5;buttons 4 4;sniper 0;sniper 1;sniper 2;sniper 3");
        odds(x, 4, 5, 5, 16);
        // A sniper and three others on four: 1 less .5 (1 less 1/8 less 3/8) less .5 0 = 3/4.
        x = Due.told("army 4;mender 0 5;buttons 4 4;sniper 3");
        odds(x, 4, 5, 3, 4);
        // The same over here: 4 to 7 aim at 0.
        x = Due.told("army 4;mender 4 1;buttons 0 4;sniper 7");
        odds(x, 0, 5, 3, 4);
        odds(x, 0, 0, 0, 1);
        odds(x, 1, 0, 1, 1);
        // Four hits on five are not enough, whatever they do; four on four all at once.
        odds(Due.told("army 4;mender 0 5;buttons 4 5"), 4, 0, 1, 1);
        odds(Due.told("army 4;mender 0 5;buttons 4 4"), 4, 9, 9999, 10000);
        odds(Due.told("army 4;mender 0 5;buttons 4 4"), 4, 0, 0, 1);
    }

    // "each who would AIM at a MAN on the next DAY": if none does, he stays
    private static void keepsNobodyAims() {
        for (int q = 0; q <= 10; q += 5) {
            odds(Due.told("army 1;buttons 0 1"), 0, q, 1, 1);
            odds(Due.told("army 1;buttons 0 1"), 1, q, 1, 1);
        }
        OppositeThreads x = Due.told("drummer 0;drummer 1;buttons 2 2;buttons 3 2");
        odds(x, 2, 0, 1, 1);
        x.day(1);
        due.is("one button", x.man(2, 1), 1);
        odds(x, 2, 0, 1, 1);
        x.day(1);
        odds(x, 2, 0, 0, 1);
        odds(x, 2, 5, 1, 2);
    }

    // "NOT: he is HOME"
    private static void keepsHomeOrNot() {
        OppositeThreads x = Due.told("buttons 3 0;buttons 2 1");
        due.is("home", x.keeps(3, 5, 0), NOT);
        due.is("home, below", x.keeps(3, 5, 1), NOT);
        due.is("one button", x.keeps(2, 5, 1), 2);
        x.day(1);
        due.is("home then", x.keeps(2, 5, 1), NOT);
        due.is("no such man", x.keeps(4, 5, 1), UNKNOWN);
    }

    // "SEEN, 6 at most", "FULL", "SEEN is nothing: how many there were"
    private static void seenSix() {
        for (int number = 0; number <= 7; number++) {
            OppositeThreads x = new OppositeThreads();
            for (int i = 1; i <= number; i++) {
                due.is("seen " + i, x.seen(0, 1, 1), i <= 6 ? i : OppositeThreads.FULL);
            }
            int had = Math.min(6, number);
            due.is("count", x.count(6), had);
            due.is("forget", x.forget(), had);
            due.is("count then", x.count(6), 0);
            due.is("forget again", x.forget(), 0);
            due.is("kinds of nothing", x.kinds(), 31);
        }
        OppositeThreads x = new OppositeThreads();
        for (int i = 0; i < 6; i++) {
            x.seen(0, 3, 1);
        }
        due.is("the seventh", x.seen(1, 0, 0), OppositeThreads.FULL);
        due.is("is not looked at", x.kinds(), 24);
        x.forget();
        for (int i = 0; i < 5; i++) {
            x.seen(0, 3, 1);
        }
        due.is("the sixth", x.seen(1, 0, 0), 6);
        due.is("is", x.kinds(), 16);
        x.forget();
        x.seen(1, 2, 1);
        due.is("what was forgotten is gone", x.kinds(), 2);
    }

    // "on a DAY that 2 divides (1), or not (0)", "w: nobody (0) .. (3)", "h (0 .. 3)"
    private static void seenNumbers() {
        for (int day = -1; day <= 2; day++) {
            for (int w = -1; w <= 4; w++) {
                for (int h = -1; h <= 4; h++) {
                    boolean fits = day >= 0 && day <= 1 && w >= 0 && w <= 3 && h >= 0 && h <= 3;
                    OppositeThreads x = new OppositeThreads();
                    due.is("seen(" + day + ", " + w + ", " + h + ")", x.seen(day, w, h), fits ? 1 : OUTSIDE);
                    due.is("seen then", x.count(6), fits ? 1 : 0);
                }
            }
        }
    }

    /** The kinds, by bits, that would aim at w and hit h on such a day, as the document tells them. */
    private static int kindsOf(int day, int w, int h) {
        if (w == 0) {
            return day == 1 && h == 0 ? 1 << 4 : 0;
        }
        if (w == 1) {
            return h == 1 ? 1 : h == 2 ? 1 << 2 : 0;
        }
        if (w == 2) {
            return h == 1 ? 1 << 1 : 0;
        }
        return h != 1 ? 0 : day == 1 ? 1 << 3 : 1 << 3 | 1 << 4;
    }

    // "KINDS (0 .. 4, by bits) by which all that is SEEN would be so": each two sights, in both orders
    private static void kindsByTwo() {
        for (int first = 0; first < 32; first++) {
            for (int second = 0; second < 32; second++) {
                OppositeThreads x = new OppositeThreads();
                x.seen(first / 16, first / 4 % 4, first % 4);
                x.seen(second / 16, second / 4 % 4, second % 4);
                int fit = kindsOf(first / 16, first / 4 % 4, first % 4) & kindsOf(second / 16, second / 4 % 4, second % 4);
                due.is("kinds of " + first + ", " + second, x.kinds(), fit);
                // Only a corporal and a drummer are alike in what can be seen, and a day that 2 divides parts them.
                due.is("ask of " + first + ", " + second, x.ask(), fit == 24 ? 1 : NONE);
            }
        }
    }

    // "ASK: .. the greatest part that is alike is least; none (none parts them)"
    private static void askParts() {
        OppositeThreads x = new OppositeThreads();
        due.is("of all five: four parts on one day, five on the other", x.ask(), 1);
        x.seen(0, 3, 1);
        due.is("of two", x.ask(), 1);
        x.seen(1, 0, 0);
        due.is("of one", x.ask(), NONE);
        x.seen(0, 0, 0);
        due.is("of none", x.ask(), NONE);
        x.forget();
        due.is("of all five again", x.ask(), 1);
    }
}
