/** Promises 1 to 7: a new object, write, erase, fault, army, man, as. */
public final class ToldTest {
    private static final Due due = new Due();

    public static void main(String[] args) {
        newObject();
        writeAndErase();
        faultsOfWords();
        faultsOfNumbers();
        faultsOfClauses();
        erasedLettersTellNothing();
        armyDoesClauses();
        armyBeginsAnew();
        armyRefused();
        manAnswers();
        aimsByKind();
        asKind();
        due.end();
    }

    private static void newObject() {
        OppositeThreads x = new OppositeThreads();
        due.is("new: men a side", x.count(0), 2);
        for (int m = 0; m < 4; m++) {
            due.is("new: kind", x.man(m, 0), 0);
            due.is("new: buttons", x.man(m, 1), 3);
            due.is("new: mender", x.man(m, 2), (m + 2) % 4);
        }
        due.is("new: day", x.count(1), 0);
        due.is("new: seen", x.count(6), 0);
        due.is("new: places", x.count(7), 0);
        due.is("new: undo", x.undo(), OppositeThreads.NOT);
        due.is("new: back", x.back(0), OppositeThreads.NOT);
        due.is("new: letters", x.count(9), 0);
        due.is("new: sum", x.sum(0), OppositeThreads.NULL);
    }

    private static void writeAndErase() {
        OppositeThreads x = new OppositeThreads();
        due.is("write(0)", x.write(0), 1);
        due.is("write(255)", x.write(255), 2);
        due.is("write(-1)", x.write(-1), OppositeThreads.OUTSIDE);
        due.is("write(256)", x.write(256), OppositeThreads.OUTSIDE);
        due.is("letters", x.count(9), 2);
        due.is("erase", x.erase(), 2);
        due.is("erase of none", x.erase(), 0);
        for (int i = 1; i <= 200; i++) {
            due.is("write " + i, x.write(' '), i);
        }
        due.is("write 201", x.write('a'), OppositeThreads.FULL);
        due.is("write outside, full", x.write(256), OppositeThreads.OUTSIDE);
        due.is("letters, full", x.count(9), 200);
        due.is("fault of blanks", x.fault(), 200);
        due.is("erase of 200", x.erase(), 200);
        due.is("write then", x.write('a'), 1);
    }

    private static void faultAt(String text, int place) {
        OppositeThreads x = new OppositeThreads();
        Due.type(x, text);
        due.is("fault of '" + text + "'", x.fault(), place);
        due.is("letters of '" + text + "'", x.count(9), text.length());
        if (place != OppositeThreads.NONE) {
            due.is("army of '" + text + "'", x.army(), OppositeThreads.NOT);
            due.is("letters yet of '" + text + "'", x.count(9), text.length());
        }
    }

    private static void faultsOfWords() {
        faultAt("", 0);
        faultAt("   ", 3);
        faultAt("army 2", OppositeThreads.NONE);
        faultAt("  army   2  ", OppositeThreads.NONE);
        faultAt("army2", OppositeThreads.NONE);
        faultAt("plain 0;sailor 1;sniper 2;corporal 3;drummer 0", OppositeThreads.NONE);
        faultAt("armyy 2", 0);
        faultAt("arm 2", 0);
        faultAt("brmy 2", 0);
        faultAt("armyz 2", 0);
        faultAt("Army 2", 0);
        faultAt("aRmy 2", 0);
        faultAt("army", 4);
        faultAt("army ", 5);
        faultAt("army army", 5);
        faultAt("2", 0);
        faultAt("man 0", 0);
        faultAt("army\t2", 4);
        faultAt("army 2.", 6);
        faultAt("army -1", 5);
        faultAt("sniper " + (char) 228, 7);
    }

    private static void faultsOfNumbers() {
        faultAt("army 0", 5);
        faultAt("army 1", OppositeThreads.NONE);
        faultAt("army 4", OppositeThreads.NONE);
        faultAt("army 5", 5);
        faultAt("army 04", OppositeThreads.NONE);
        faultAt("army 004", 5);
        faultAt("army 11", 5);
        faultAt("army 19", 5);
        faultAt("army 1 1", 7);
        faultAt("plain 3", OppositeThreads.NONE);
        faultAt("plain 4", 6);
        faultAt("plain 00", OppositeThreads.NONE);
        faultAt("army 4;plain 7", OppositeThreads.NONE);
        faultAt("army 4;plain 8", 13);
        faultAt("army 4;army 1;plain 2", 20);
        faultAt("buttons 0 0", OppositeThreads.NONE);
        faultAt("buttons 0 6", OppositeThreads.NONE);
        faultAt("buttons 0 7", 10);
        faultAt("buttons 4 7", 8);
        faultAt("buttons 0", 9);
        faultAt("buttons 0;", 9);
        faultAt("buttons 06", 8);
        faultAt("mender 0 2", OppositeThreads.NONE);
        faultAt("mender 0 3", OppositeThreads.NONE);
        faultAt("mender 3 1", OppositeThreads.NONE);
        faultAt("mender 0 1", 9);
        faultAt("mender 0 0", 9);
        faultAt("mender 0 4", 9);
        faultAt("mender 3 2", 9);
        faultAt("mender 9 9", 7);
        faultAt("plain 0x", 7);
        faultAt("plain 12345678901234567890", 6);
    }

    private static String times(String clause, int number) {
        StringBuilder text = new StringBuilder(clause);
        for (int i = 1; i < number; i++) {
            text.append(';').append(clause);
        }
        return text.toString();
    }

    private static void faultsOfClauses() {
        faultAt("army 2;", 7);
        faultAt("army 2; ", 8);
        faultAt(";army 2", 0);
        faultAt("army 2;;army 2", 7);
        faultAt("army 2 ; army 3", OppositeThreads.NONE);
        faultAt("army 2 army 2", 7);
        faultAt("army 2,army 2", 6);
        faultAt("plain 0;plain 9;junk", 14);
        faultAt(times("army 2", 24), OppositeThreads.NONE);
        faultAt(times("army 2", 25), 24 * 7 - 1);
        faultAt(times("army 2", 24) + ";", 24 * 7 - 1);
        faultAt(times("army 2", 24) + " x", 24 * 7);
    }

    private static void erasedLettersTellNothing() {
        OppositeThreads x = new OppositeThreads();
        Due.type(x, "plain 2");
        Due.type(x, "plain ");
        due.is("a number that was erased", x.fault(), 6);
        Due.type(x, "plain 12");
        Due.type(x, "plain 1");
        due.is("a digit that was erased", x.fault(), OppositeThreads.NONE);
        Due.type(x, "plain 1;");
        Due.type(x, "plain 1");
        due.is("a clause's end that was erased", x.army(), 1);
        Due.type(x, "plain 1");
        Due.type(x, "plai");
        due.is("a word's end that was erased", x.fault(), 0);
    }

    private static void armyDoesClauses() {
        OppositeThreads x = new OppositeThreads();
        Due.type(x, "sailor 0;sniper 1;corporal 2;drummer 3;buttons 0 0;buttons 3 6;mender 0 3;plain 1");
        due.is("army", x.army(), 8);
        due.is("text is empty", x.count(9), 0);
        due.is("sailor", x.man(0, 0), 1);
        due.is("plain behind sniper", x.man(1, 0), 0);
        due.is("corporal", x.man(2, 0), 3);
        due.is("drummer", x.man(3, 0), 4);
        due.is("no buttons", x.man(0, 1), 0);
        due.is("six buttons", x.man(3, 1), 6);
        due.is("mender", x.man(0, 2), 3);
        due.is("mender as at first", x.man(1, 2), 3);
        Due.type(x, "sniper 1");
        due.is("army again", x.army(), 1);
        due.is("told earlier: kind", x.man(0, 0), 1);
        due.is("told earlier: buttons", x.man(3, 1), 6);
        due.is("told earlier: mender", x.man(0, 2), 3);
        due.is("told now", x.man(1, 0), 2);
        Due.type(x, "sailor 3;army 2;drummer 1");
        due.is("army anew", x.army(), 3);
        due.is("all else as at first: kind", x.man(3, 0), 0);
        due.is("all else as at first: buttons", x.man(3, 1), 3);
        due.is("all else as at first: mender", x.man(0, 2), 2);
        due.is("behind it", x.man(1, 0), 4);
        Due.type(x, "army 4");
        due.is("army of 24 at most", x.army(), 1);
        due.is("men", x.count(0), 4);
        due.is("last man's mender", x.man(7, 2), 3);
        Due.type(x, times("army 1", 24));
        due.is("24 clauses", x.army(), 24);
        due.is("one man a side", x.count(0), 1);
        due.is("who is there no more knows nobody", x.man(0, 5), 1 << 1);
        due.is("and has no buttons", x.count(3) + x.count(4), 6);
        due.is("and is not in the field", x.count(2), 3);
    }

    private static void armyBeginsAnew() {
        OppositeThreads x = Due.told("army 3;buttons 0 5;mender 0 4");
        x.day(2);
        x.mend(0, 3);
        x.keep(0);
        x.keep(1);
        x.seen(0, 1, 1);
        x.sheet(0, 0, 2);
        x.sheet(1, 1, 4);
        x.sheet(2, 1, 0);
        due.is("hit", x.man(0, 1) < 5 ? 1 : 0, 1);
        Due.type(x, "sailor 5");
        due.is("army", x.army(), 1);
        due.is("buttons as told, not as they were", x.man(0, 1), 5);
        due.is("mender as told", x.man(0, 2), 4);
        due.is("day 0", x.count(1), 0);
        due.is("nothing seen", x.count(6), 0);
        due.is("no undo", x.count(8), 0);
        due.is("undo", x.undo(), OppositeThreads.NOT);
        due.is("nothing kept", x.back(0), OppositeThreads.NOT);
        due.is("nothing kept, 1", x.back(1), OppositeThreads.NOT);
        for (int sheet = 0; sheet < 3; sheet++) {
            due.is("sheet " + sheet + " is missing", x.sum(sheet), OppositeThreads.NULL);
        }
        due.is("places", x.count(7), 0);
    }

    private static void armyRefused() {
        OppositeThreads x = Due.told("army 3;buttons 0 5");
        x.day(1);
        x.keep(0);
        x.seen(0, 1, 1);
        x.sheet(0, 0, 2);
        int buttons = x.man(0, 1);
        Due.type(x, "army 1;sailor 2");
        due.is("army with a fault", x.army(), OppositeThreads.NOT);
        due.is("men", x.count(0), 3);
        due.is("day", x.count(1), 1);
        due.is("buttons", x.man(0, 1), buttons);
        due.is("seen", x.count(6), 1);
        due.is("places", x.count(7), 2);
        due.is("undo", x.count(8), 1);
        due.is("letters", x.count(9), 15);
        due.is("kept", x.back(0), 1);
        Due.type(x, "plain 0");
        due.is("army then", x.army(), 1);
        due.is("a text with a fault tells nothing", x.count(0), 3);
    }

    private static void manAnswers() {
        OppositeThreads x = Due.told("army 3;mender 0 5;mender 1 5;mender 2 5;sniper 4;buttons 3 0");
        due.is("knowers", x.man(5, 5), 7);
        due.is("no knowers", x.man(4, 5), 0);
        due.is("knowers of side 1", x.man(1, 5), 1 << 4);
        due.is("a man at home knows", x.man(0, 5), 1 << 3);
        due.is("sniper hits", x.man(4, 4), 2);
        due.is("plain hits", x.man(5, 4), 1);
        due.is("home aims", x.man(3, 3), OppositeThreads.NONE);
        due.is("man(-1, 9)", x.man(-1, 9), OppositeThreads.UNKNOWN);
        due.is("man(6, 0)", x.man(6, 0), OppositeThreads.UNKNOWN);
        due.is("man(0, -1)", x.man(0, -1), OppositeThreads.OUTSIDE);
        due.is("man(0, 6)", x.man(0, 6), OppositeThreads.OUTSIDE);
        due.is("man at the edge", x.man(Integer.MIN_VALUE, 0), OppositeThreads.UNKNOWN);
    }

    private static void aimsByKind() {
        OppositeThreads x = Due.told("army 4;buttons 4 1;buttons 5 4;buttons 6 6;buttons 7 6;mender 0 7");
        String[] kinds = {"plain", "sailor", "sniper", "corporal", "drummer"};
        int[] oddDay = {4, 6, 4, 6, 6};
        int[] evenDay = {4, 6, 4, 6, OppositeThreads.NONE};
        for (int k = 0; k < kinds.length; k++) {
            Due.type(x, kinds[k] + " 0;sailor 1;sailor 2;sailor 3;buttons 7 6");
            x.army();
            due.is(kinds[k] + " aims on day 1", x.man(0, 3), oddDay[k]);
        }
        for (int k = 0; k < kinds.length; k++) {
            Due.type(x, "plain 1;plain 2;plain 3;buttons 0 6;buttons 4 6;" + kinds[k] + " 0;mender 1 4;mender 2 4;mender 3 4;buttons 5 6");
            x.army();
            x.day(1);
            // 5 was hit by 1, 2, 3, so that the fullest yet are 6 and 7, and 7 is known.
            due.is(kinds[k] + " aims on day 2", x.man(0, 3), evenDay[k]);
        }
        x = Due.told("army 2;corporal 0;mender 0 3;mender 1 3;buttons 2 0");
        due.is("the only other is home", x.man(0, 3), OppositeThreads.NONE);
        due.is("all know the only one", x.count(5), 1);
        x = Due.told("army 3;corporal 0;mender 0 5;buttons 3 4;buttons 4 4");
        due.is("of the fullest the least", x.man(0, 3), 3);
        x = Due.told("army 3;sailor 0;mender 0 5");
        due.is("sailor takes the greatest that is open", x.man(0, 3), 4);
        x = Due.told("army 2;sailor 0;mender 0 3");
        due.is("sailor takes the first where he alone is open", x.man(0, 3), 2);
        x = Due.told("army 2;sailor 0;mender 0 3;buttons 2 0");
        due.is("sailor: none is open", x.man(0, 3), OppositeThreads.NONE);
        x = Due.told("army 3;sailor 5;mender 5 2;sniper 4;mender 4 0");
        due.is("sailor of side 1", x.man(5, 3), 1);
        due.is("sniper of side 1", x.man(4, 3), 1);
    }

    private static void asKind() {
        OppositeThreads x = Due.told("army 3;sailor 1;sniper 2;corporal 3;drummer 4;buttons 2 0");
        int[][] fits = {{0, 1}, {0, 1, 2}, {0, 1, 3}, {0, 4}, {0, 4, 5}};
        for (int m = 0; m < fits.length; m++) {
            for (int kind = 0; kind <= 5; kind++) {
                int want = OppositeThreads.NOT;
                for (int fit : fits[m]) {
                    want = fit == kind ? (m == 2 ? 2 : 1) : want;
                }
                due.is("as(" + m + ", " + kind + ")", x.as(m, kind), want);
            }
        }
        due.is("as(6, 9)", x.as(6, 9), OppositeThreads.UNKNOWN);
        due.is("as(-1, 0)", x.as(-1, 0), OppositeThreads.UNKNOWN);
        due.is("as(0, 6)", x.as(0, 6), OppositeThreads.OUTSIDE);
        due.is("as(0, -1)", x.as(0, -1), OppositeThreads.OUTSIDE);
    }
}
