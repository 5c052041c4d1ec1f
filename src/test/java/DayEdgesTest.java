/** Section 2 of the document and promises 8 to 13 and 32: each sentence there that names a boundary, with a test of its own. */
public final class DayEdgesTest {
    private static final Due due = new Due();
    private static final int NONE = OppositeThreads.NONE, UNKNOWN = OppositeThreads.UNKNOWN;
    private static final int OUTSIDE = OppositeThreads.OUTSIDE, NOT = OppositeThreads.NOT, FULL = OppositeThreads.FULL;

    public static void main(String[] args) {
        daysAtOnce();
        lastDay();
        homeAimsAtNobody();
        noneOpen();
        allByWhatThereIsAheadOfIt();
        hitsTogether();
        hamperEachFourthDay();
        sixButtonsAtMost();
        hamperForThoseInField();
        hamperBehindHits();
        plainAndSniper();
        sailor();
        corporal();
        drummer();
        mendedByAnother();
        changedAbout();
        undoCounts();
        ninthIsPushedOut();
        rowGoesRound();
        daysAreUndoneTogether();
        undoBehindOthers();
        keptByTwo();
        keptStays();
        backCanNotBeUndone();
        backChangesArmyAlone();
        keptSinceLastText();
        counts();
        due.end();
    }

    private static void buttons(String what, OppositeThreads x, int... want) {
        for (int m = 0; m < want.length; m++) {
            due.is(what + ": buttons of " + m, x.man(m, 1), want[m]);
        }
    }

    // "DAYS (n 1 .. 9 ..): which it is. OUTSIDE"
    private static void daysAtOnce() {
        for (int n = -1; n <= 11; n++) {
            OppositeThreads x = Due.told("army 4;drummer 0;sniper 5;buttons 0 6;buttons 5 6;corporal 7");
            boolean fits = n >= 1 && n <= 9;
            due.is("day(" + n + ")", x.day(n), fits ? n : OUTSIDE);
            OppositeThreads y = Due.told("army 4;drummer 0;sniper 5;buttons 0 6;buttons 5 6;corporal 7");
            for (int d = 0; d < n && fits; d++) {
                due.is("one more", y.day(1), d + 1);
            }
            for (int m = 0; m < 8; m++) {
                due.is("as one by one", x.man(m, 1), y.man(m, 1));
            }
        }
    }

    // "FULL: it would be above 999"
    private static void lastDay() {
        for (int n = 1; n <= 9; n++) {
            OppositeThreads x = Due.told("army 1");
            for (int i = 0; i < 110; i++) {
                x.day(9);
            }
            due.is("day 990", x.count(1), 990);
            due.is("to day 999 but for n", n == 9 ? 990 : x.day(9 - n), 999 - n);
            due.is("one too many", n == 9 ? FULL : x.day(n + 1), FULL);
            due.is("is not done", x.count(1), 999 - n);
            due.is("to day 999", x.day(n), 999);
            due.is("no more", x.day(1), FULL);
            due.is("nor nine", x.day(9), FULL);
            due.is("it is day 999", x.count(1), 999);
            due.is("can be undone", x.undo(), 7);
            due.is("then there is room again", x.day(n), 999);
        }
    }

    // "Each MAN that is not HOME AIMS .. at one of those MEN that are not HOME"
    private static void homeAimsAtNobody() {
        OppositeThreads x = Due.told("sniper 0;buttons 0 0");
        due.is("0 is home", x.man(0, 3), NONE);
        due.is("3 knows 1, and 0 is home", x.man(3, 3), NONE);
        due.is("two aim", x.count(5), 2);
        x.day(1);
        buttons("nobody hit 3", x, 0, 2, 2, 3);
        x = Due.told("army 3;buttons 3 0;buttons 5 0;sailor 1;mender 1 3;mender 0 5");
        due.is("the least is home", x.man(0, 3), 4);
        due.is("the greatest is home", x.man(1, 3), 4);
    }

    // "or at nobody (if there are none, too)"
    private static void noneOpen() {
        for (String kind : new String[] {"plain", "sailor", "sniper", "corporal", "drummer"}) {
            OppositeThreads x = Due.told("army 1;" + kind + " 0;" + kind + " 1");
            due.is(kind + ": knows the only one", x.man(0, 3), NONE);
            due.is(kind + ": of side 1", x.man(1, 3), NONE);
            due.is(kind + ": nobody aims", x.count(5), 0);
            x.day(3);
            buttons(kind, x, 3, 3);
            x = Due.told(kind + " 0;buttons 2 0;buttons 3 0");
            due.is(kind + ": all are home", x.man(0, 3), NONE);
            x = Due.told(kind + " 0;mender 0 3;buttons 2 0");
            due.is(kind + ": all others are home", x.man(0, 3), NONE);
            x = Due.told(kind + " 0;mender 0 3;buttons 2 1");
            due.is(kind + ": one is open", x.man(0, 3), 2);
        }
    }

    // "all by what there is ahead of it"
    private static void allByWhatThereIsAheadOfIt() {
        OppositeThreads x = Due.told("buttons 0 1;buttons 1 1;buttons 2 1;buttons 3 1");
        x.day(1);
        buttons("all are sent home at once", x, 0, 0, 0, 0);
        // Both aim at 3, though he is no more the fullest behind the first one's hit.
        x = Due.told("army 3;corporal 0;corporal 1;mender 0 5;mender 1 5;buttons 2 0;buttons 3 4;buttons 4 4");
        x.day(1);
        buttons("the fullest of the morning", x, 1, 2, 0, 2, 4, 3);
        x = Due.told("army 3;mender 0 5;mender 1 5;buttons 2 0;buttons 3 1;buttons 4 4");
        x.day(1);
        due.is("both aimed at the one who went home", x.man(4, 1), 4);
    }

    // "as many BUTTONS fewer (0 at least) as all who AIM at him HIT together"
    private static void hitsTogether() {
        String all = "army 4;mender 0 5;buttons 4 6";
        String[] snipers = {"", ";sniper 0", ";sniper 0;sniper 1", ";sniper 0;sniper 1;sniper 2", ";sniper 0;sniper 1;sniper 2;sniper 3"};
        int[] left = {2, 1, 0, 0, 0};
        for (int i = 0; i < snipers.length; i++) {
            OppositeThreads x = Due.told(all + snipers[i]);
            due.is("all four aim at him", x.man(0, 3) + x.man(1, 3) + x.man(2, 3) + x.man(3, 3), 16);
            x.day(1);
            due.is("hits of four and " + i, x.man(4, 1), left[i]);
            due.is("home with none", x.count(2) >> 4 & 1, left[i] == 0 ? 0 : 1);
        }
        OppositeThreads x = Due.told("sniper 1;buttons 2 2");
        x.day(1);
        due.is("two of two", x.man(2, 1), 0);
        x = Due.told("sniper 1;buttons 2 1");
        x.day(1);
        due.is("two of one: none at least", x.man(2, 1), 0);
    }

    // "if 4 divides the DAY, a hamper comes: .. gets a BUTTON more"
    private static void hamperEachFourthDay() {
        OppositeThreads x = Due.told("army 1;buttons 0 1;buttons 1 2");
        for (int d = 1; d <= 40; d++) {
            x.day(1);
            buttons("day " + d, x, Math.min(6, 1 + d / 4), Math.min(6, 2 + d / 4));
        }
    }

    // "(6 at most)"
    private static void sixButtonsAtMost() {
        OppositeThreads x = Due.told("army 1;buttons 0 6;buttons 1 5");
        x.day(4);
        buttons("five and six", x, 6, 6);
        x.day(4);
        buttons("no more", x, 6, 6);
        // 1 alone hits: 2, whom he does not know.
        x = Due.told("army 2;buttons 0 0;buttons 2 6;mender 2 1;mender 3 1");
        x.day(3);
        buttons("ahead of the hamper", x, 0, 3, 3, 3);
        x.day(1);
        buttons("four hits and one button", x, 0, 4, 3, 4);
        x = Due.told("army 2;buttons 0 0;buttons 3 6;mender 2 1;mender 3 1");
        x.day(3);
        x.mend(1, 2);
        x.day(1);
        buttons("a hit on six, and six again", x, 0, 3, 0, 6);
    }

    // "each who is not HOME, and whose MENDER is not"
    private static void hamperForThoseInField() {
        OppositeThreads x = Due.told("army 1;buttons 0 0");
        x.day(4);
        buttons("home, and mended by one at home", x, 0, 3);
        x = Due.told("army 1;buttons 0 0;buttons 1 0");
        x.day(8);
        buttons("nobody is there", x, 0, 0);
        x = Due.told("army 3;buttons 0 0;buttons 1 0;mender 2 4;mender 3 2;mender 4 2;mender 5 0;buttons 3 0;buttons 5 2");
        // 2 knows 4 and hits 5 until he is home; 5 hits 2; 4 knows 2.
        x.day(1);
        buttons("day 1", x, 0, 0, 2, 0, 3, 1);
        x.day(1);
        buttons("day 2", x, 0, 0, 1, 0, 3, 0);
        x.day(2);
        buttons("day 4: 2 and 4 mend one another", x, 0, 0, 2, 0, 4, 0);
    }

    // "Then, if 4 divides the DAY": behind the hits, by who is not home then
    private static void hamperBehindHits() {
        // 2 alone hits, and 1: with four buttons he is home on day 4, and with five he has one left and gets one.
        OppositeThreads x = Due.told("buttons 3 0;mender 1 2;buttons 1 4");
        x.day(4);
        buttons("sent home on day 4 he gets none", x, 4, 0, 4, 0);
        x = Due.told("buttons 3 0;mender 1 2;buttons 1 5");
        x.day(4);
        buttons("with one left he gets one", x, 4, 2, 4, 0);
        // 3 hits 0 each day, 2 hits 1, 0 hits 3, 1 hits 2: on day 4 0 goes home, who mended 2's coat.
        x = Due.told("buttons 0 4;buttons 1 6;buttons 2 6;buttons 3 6");
        x.day(4);
        buttons("whose mender is sent home on day 4 gets none", x, 0, 3, 2, 3);
        x = Due.told("buttons 0 5;buttons 1 6;buttons 2 6;buttons 3 6");
        x.day(4);
        buttons("whose mender has one left gets one", x, 2, 3, 3, 3);
    }

    // "PLAIN: AIMS at the OPEN one of the least number, HITS 1", "SNIPER: as PLAIN, but HITS 1 more"
    private static void plainAndSniper() {
        for (int sniper = 0; sniper <= 1; sniper++) {
            String kind = sniper == 1 ? "sniper" : "plain";
            OppositeThreads x = Due.told("army 4;" + kind + " 0;mender 0 7;buttons 6 6");
            due.is(kind + ": the least", x.man(0, 3), 4);
            x.mend(0, 4);
            due.is(kind + ": the least that he does not know", x.man(0, 3), 5);
            due.is(kind + ": hits", x.man(0, 4), 1 + sniper);
            x = Due.told("army 4;" + kind + " 7;mender 7 3;buttons 2 6");
            due.is(kind + " of side 1: the least", x.man(7, 3), 0);
            x.mend(7, 0);
            due.is(kind + " of side 1: the least that he does not know", x.man(7, 3), 1);
        }
    }

    // "SAILOR: as PLAIN, but at the one of the greatest number"
    private static void sailor() {
        OppositeThreads x = Due.told("army 4;sailor 0;mender 0 4;buttons 5 6");
        due.is("the greatest", x.man(0, 3), 7);
        x.mend(0, 7);
        due.is("the greatest that he does not know", x.man(0, 3), 6);
        due.is("hits", x.man(0, 4), 1);
        x = Due.told("army 4;sailor 4;mender 4 0;buttons 1 6");
        due.is("of side 1: the greatest", x.man(4, 3), 3);
        x.mend(4, 3);
        due.is("of side 1: the greatest that he does not know", x.man(4, 3), 2);
    }

    // "CORPORAL: AIMS at the OPEN one that has most BUTTONS, of several of these the least number; HITS 1"
    private static void corporal() {
        OppositeThreads x = Due.told("army 4;corporal 0;mender 0 7;buttons 5 4;buttons 6 4;buttons 7 6");
        due.is("of several the least", x.man(0, 3), 5);
        x.mend(0, 5);
        due.is("the fullest", x.man(0, 3), 7);
        due.is("hits", x.man(0, 4), 1);
        x = Due.told("army 4;corporal 0;mender 0 7");
        due.is("all alike", x.man(0, 3), 4);
        x = Due.told("army 4;corporal 0;mender 0 7;buttons 4 0;buttons 5 0;buttons 6 1");
        due.is("one button is most", x.man(0, 3), 6);
        x = Due.told("army 4;corporal 7;mender 7 0;buttons 3 4");
        due.is("of side 1: the last is the fullest", x.man(7, 3), 3);
        x = Due.told("army 4;corporal 7;mender 7 0");
        due.is("of side 1: of several the least", x.man(7, 3), 1);
    }

    // "DRUMMER: as CORPORAL, but at nobody on DAYS that 2 divides"
    private static void drummer() {
        OppositeThreads x = Due.told("army 4;drummer 0;mender 0 4;buttons 5 4;buttons 6 6;buttons 7 6;"
            + "buttons 1 0;buttons 2 0;buttons 3 0;mender 5 0;mender 6 0;mender 7 0");
        int[] aims = {6, NONE, 7, NONE, 6, NONE, 7, NONE};
        for (int d = 1; d <= aims.length; d++) {
            due.is("on day " + d, x.man(0, 3), aims[d - 1]);
            due.is("how many aim on day " + d, x.count(5), aims[d - 1] == NONE ? 0 : 1);
            x.day(1);
        }
        buttons("six days on", x, 5, 0, 0, 0, 5, 6, 6, 6);
    }

    // "a COAT is mended by another MAN of the other SIDE": "who his MENDER was"
    private static void mendedByAnother() {
        OppositeThreads x = Due.told("army 4");
        due.is("by the last", x.mend(0, 7), 4);
        due.is("by the one before", x.mend(0, 6), 7);
        due.is("by the first again", x.mend(0, 4), 6);
        due.is("by his mender", x.mend(0, 4), NOT);
        due.is("of side 1", x.mend(7, 0), 3);
        due.is("nobody else's", x.man(4, 2) + x.man(5, 2) + x.man(6, 2), 3);
        x = Due.told("army 2;buttons 0 0;buttons 3 0");
        due.is("one at home by one at home", x.mend(0, 3), 2);
    }

    // "two MEN of one SIDE have each other's MENDER": "the MENDER of the first one then"
    private static void changedAbout() {
        OppositeThreads x = Due.told("army 4");
        due.is("first and last", x.swap(0, 3), 7);
        due.is("the first one's", x.man(0, 2), 7);
        due.is("the other one's", x.man(3, 2), 4);
        due.is("and back", x.swap(3, 0), 7);
        due.is("of side 1", x.swap(7, 4), 0);
        x.mend(0, 5);
        due.is("one mender", x.swap(0, 1), NOT);
        due.is("the other way too", x.swap(1, 0), NOT);
        due.is("oneself", x.swap(2, 2), UNKNOWN);
    }

    // "how many can be undone yet. NOT: none", "(the last 8 can be)"
    private static void undoCounts() {
        for (int done = 0; done <= 10; done++) {
            OppositeThreads x = Due.told("army 1");
            for (int i = 0; i < done; i++) {
                x.day(1);
            }
            int can = Math.min(8, done);
            due.is("can be undone", x.count(8), can);
            for (int i = can - 1; i >= 0; i--) {
                due.is("undo", x.undo(), i);
                due.is("day", x.count(1), done - can + i);
            }
            due.is("no more", x.undo(), NOT);
            due.is("day then", x.count(1), done - can);
        }
    }

    // The last 8 can be: days, menders, changes alike
    private static void ninthIsPushedOut() {
        OppositeThreads x = Due.told("army 3");
        due.is("1", x.mend(0, 4), 3);
        due.is("2", x.swap(0, 2), 5);
        due.is("3", x.day(1), 1);
        due.is("4", x.mend(5, 0), 2);
        due.is("5", x.swap(3, 4), 1);
        due.is("6", x.day(2), 3);
        due.is("7", x.mend(1, 3), 4);
        due.is("8", x.swap(1, 2), 4);
        due.is("8 can be", x.count(8), 8);
        due.is("9", x.day(1), 4);
        due.is("8 can be yet", x.count(8), 8);
        int[] day = {3, 3, 3, 1, 1, 1, 0, 0};
        int[] menderOf1 = {4, 3, 4, 4, 4, 4, 4, 4};
        int[] menderOf3 = {1, 1, 1, 1, 0, 0, 0, 0};
        int[] menderOf5 = {0, 0, 0, 0, 0, 2, 2, 2};
        int[] menderOf0 = {5, 5, 5, 5, 5, 5, 5, 4};
        for (int i = 0; i < 8; i++) {
            due.is("undo " + i, x.undo(), 7 - i);
            due.is("day " + i, x.count(1), day[i]);
            due.is("mender of 0, " + i, x.man(0, 2), menderOf0[i]);
            due.is("mender of 1, " + i, x.man(1, 2), menderOf1[i]);
            due.is("mender of 3, " + i, x.man(3, 2), menderOf3[i]);
            due.is("mender of 5, " + i, x.man(5, 2), menderOf5[i]);
        }
        buttons("all as at first", x, 3, 3, 3, 3, 3, 3);
        due.is("the first was pushed out", x.undo(), NOT);
        due.is("so it stands", x.man(0, 2), 4);
    }

    private static void rowGoesRound() {
        OppositeThreads x = Due.told("army 1");
        int day = 0;
        int can = 0;
        for (int round = 0; round < 12; round++) {
            for (int i = 0; i < 5; i++) {
                due.is("day", x.day(1), ++day);
                can = Math.min(8, can + 1);
            }
            for (int i = 0; i < 3; i++) {
                due.is("undo", x.undo(), --can);
                due.is("day then", x.count(1), --day);
            }
        }
        for (int i = can; i > 0; i--) {
            due.is("undo to the end", x.undo(), i - 1);
            due.is("day then", x.count(1), --day);
        }
        due.is("none is left", x.undo(), NOT);
    }

    // "(.. together they are undone)"
    private static void daysAreUndoneTogether() {
        for (int n = 1; n <= 9; n++) {
            OppositeThreads x = Due.told("army 4;sniper 0;drummer 5;buttons 4 6");
            x.day(1);
            int[] had = new int[8];
            for (int m = 0; m < 8; m++) {
                had[m] = x.man(m, 1);
            }
            x.day(n);
            due.is("undo day(" + n + ")", x.undo(), 1);
            due.is("day 1 again", x.count(1), 1);
            buttons("as on day 1", x, had);
        }
    }

    // "The latest day(), mend(), swap() is undone": behind an undo, a new one is the latest
    private static void undoBehindOthers() {
        OppositeThreads x = Due.told("army 2");
        x.mend(0, 3);
        x.undo();
        due.is("the mending is undone", x.man(0, 2), 2);
        x.swap(0, 1);
        due.is("undo the change", x.undo(), 0);
        due.is("mender of 0", x.man(0, 2), 2);
        due.is("mender of 1", x.man(1, 2), 3);
        due.is("undo is not undone", x.undo(), NOT);
        x.mend(0, 3);
        x.write('a');
        x.seen(0, 0, 0);
        x.sheet(0, 0, 1);
        x.keep(0);
        due.is("nothing else counts", x.count(8), 1);
        due.is("nor is undone", x.undo(), 0);
        due.is("text", x.count(9), 1);
        due.is("seen", x.count(6), 1);
        due.is("places", x.count(7), 1);
        due.is("kept with the mending", x.back(0), 0);
        due.is("mender then", x.man(0, 2), 3);
    }

    // "The army as it is now is kept (k 0, 1): the DAY. UNKNOWN: no such k"
    private static void keptByTwo() {
        for (int k = -1; k <= 2; k++) {
            OppositeThreads x = Due.told("army 1");
            x.day(5);
            boolean fits = k == 0 || k == 1;
            due.is("keep(" + k + ")", x.keep(k), fits ? 5 : UNKNOWN);
            x.day(1);
            due.is("back(" + k + ")", x.back(k), fits ? 5 : UNKNOWN);
            due.is("day", x.count(1), fits ? 5 : 6);
            if (fits) {
                due.is("the other one was not kept", x.back(1 - k), NOT);
            }
        }
    }

    private static void keptStays() {
        OppositeThreads x = Due.told("army 2");
        x.keep(0);
        x.day(1);
        x.keep(1);
        x.mend(0, 3);
        x.undo();
        x.day(9);
        due.is("back to 1", x.back(1), 1);
        buttons("kept", x, 2, 2, 2, 2);
        due.is("back to 0", x.back(0), 0);
        buttons("kept", x, 3, 3, 3, 3);
        x.day(2);
        due.is("back to 0 again", x.back(0), 0);
        buttons("kept yet", x, 3, 3, 3, 3);
        x.mend(1, 2);
        due.is("kept anew", x.keep(1), 0);
        x.back(0);
        due.is("mender of 1", x.man(1, 2), 3);
        due.is("back to the newer", x.back(1), 0);
        due.is("its mender of 1", x.man(1, 2), 2);
    }

    // "It is as it was kept, nothing can be undone"
    private static void backCanNotBeUndone() {
        OppositeThreads x = Due.told("army 2");
        for (int i = 0; i < 9; i++) {
            x.mend(0, i % 2 == 0 ? 3 : 2);
        }
        x.keep(0);
        due.is("keeping leaves what can be undone", x.count(8), 8);
        x.back(0);
        due.is("none behind back", x.count(8), 0);
        due.is("undo", x.undo(), NOT);
        due.is("as it was kept", x.man(0, 2), 3);
        x.day(1);
        due.is("one more", x.count(8), 1);
        due.is("undo that", x.undo(), 0);
        due.is("and no more", x.undo(), NOT);
    }

    // "The army as it is now is kept": no text, nothing seen, no sheet
    private static void backChangesArmyAlone() {
        OppositeThreads x = Due.told("army 2");
        x.keep(0);
        x.write('a');
        x.seen(0, 3, 1);
        x.sheet(1, 0, 4);
        x.set(1, 0, 3, 9);
        x.day(1);
        due.is("back", x.back(0), 0);
        due.is("letters", x.count(9), 1);
        due.is("seen", x.kinds(), 24);
        due.is("sheet", x.get(1, 0, 3), 50009);
    }

    // "NOT: nothing was kept since the last text"
    private static void keptSinceLastText() {
        OppositeThreads x = Due.told("army 2");
        x.keep(0);
        x.keep(1);
        Due.type(x, "army 9");
        due.is("a text with a fault", x.army(), NOT);
        due.is("0 is kept yet", x.back(0), 0);
        due.is("1 is kept yet", x.back(1), 0);
        Due.type(x, "army 2");
        x.army();
        due.is("0 is kept no more", x.back(0), NOT);
        due.is("1 is kept no more", x.back(1), NOT);
        x.keep(1);
        due.is("0 is not yet kept", x.back(0), NOT);
        due.is("1 is kept", x.back(1), 0);
    }

    // "count: 0 MEN a SIDE .. 9 letters of THE TEXT. OUTSIDE"
    private static void counts() {
        OppositeThreads x = new OppositeThreads();
        int[] first = {2, 0, 15, 6, 6, 4, 0, 0, 0, 0};
        for (int what = -1; what <= 10; what++) {
            due.is("new: count(" + what + ")", x.count(what), what < 0 || what > 9 ? OUTSIDE : first[what]);
        }
        x = Due.told("army 4;buttons 0 6;buttons 1 6;buttons 2 6;buttons 3 6;buttons 4 0;buttons 5 0;buttons 6 0;buttons 7 0");
        int[] uneven = {4, 0, 0b1111, 24, 0, 0, 0, 0, 0, 0};
        for (int what = 0; what <= 9; what++) {
            due.is("uneven: count(" + what + ")", x.count(what), uneven[what]);
        }
        for (int i = 0; i < 3; i++) {
            x.sheet(i, i % 2, 10);
            x.seen(0, 0, 0);
            x.seen(0, 0, 0);
            x.mend(0, 5 + i);
        }
        x.write(0);
        x.day(7);
        int[] then = {4, 7, 0b1111, 24, 0, 0, 6, 30, 4, 1};
        for (int what = 0; what <= 9; what++) {
            due.is("then: count(" + what + ")", x.count(what), then[what]);
        }
        due.is("all eight aim", Due.told("army 4").count(5), 8);
        due.is("all but the first are there", Due.told("army 4;buttons 0 0").count(2), 0b11111110);
        due.is("all but the last are there", Due.told("army 4;buttons 7 0").count(2), 0b01111111);
    }
}
