/** Section 1 of the document and promises 1 to 7: each sentence there that names a boundary, with a test of its own. */
public final class TextEdgesTest {
    private static final Due due = new Due();
    private static final int NONE = OppositeThreads.NONE, UNKNOWN = OppositeThreads.UNKNOWN;
    private static final int OUTSIDE = OppositeThreads.OUTSIDE, NOT = OppositeThreads.NOT;
    private static final String[] KINDS = {"plain", "sailor", "sniper", "corporal", "drummer"};

    public static void main(String[] args) {
        menOfSide();
        numbersOfMen();
        allAsAtFirst();
        buttonsAndHome();
        menderOfOtherSide();
        lettersOfText();
        textOfTwoHundred();
        erasedText();
        everyLetterBehindClause();
        everyLetterBehindWord();
        everyLetterBetweenDigits();
        wordsToTheLetter();
        endTooSoon();
        numbersOfMan();
        numbersOfButtons();
        numbersOfMender();
        moreDigits();
        twentyFourClauses();
        firstOfSeveralFaults();
        clausesInOrder();
        manSuchAsThereIs();
        armyTellsAllAnew();
        earlierTextsStay();
        faultTellsNothing();
        behindTheText();
        whatOfMan();
        knowersByBits();
        kindsOverOneAnother();
        due.end();
    }

    private static int faultOf(String text) {
        OppositeThreads x = new OppositeThreads();
        Due.type(x, text);
        return x.fault();
    }

    private static void faultAt(String text, int place) {
        due.is("fault of '" + text + "'", faultOf(text), place);
    }

    private static String times(String text, int number) {
        return text.repeat(number);
    }

    // "n MEN a SIDE (1 .. 4; 2 at first)"
    private static void menOfSide() {
        due.is("two at first", new OppositeThreads().count(0), 2);
        for (int n = 0; n <= 99; n++) {
            boolean fits = n >= 1 && n <= 4;
            faultAt("army " + n, fits ? NONE : 5);
            if (fits) {
                due.is("men of army " + n, Due.told("army " + n).count(0), n);
            }
        }
    }

    // "MEN 0 .. n less 1 of SIDE 0, n .. 2 n less 1 of SIDE 1": who can mend whose coat, and who change about
    private static void numbersOfMen() {
        for (int n = 1; n <= 4; n++) {
            for (int m = -1; m <= 2 * n; m++) {
                boolean isMan = m >= 0 && m < 2 * n;
                due.is("man " + m + " of army " + n, Due.told("army " + n).man(m, 0), isMan ? 0 : UNKNOWN);
                for (int o = -1; o <= 2 * n; o++) {
                    boolean areTwo = isMan && o >= 0 && o < 2 * n && o != m;
                    boolean unlike = m / n != o / n;
                    int mender = (m + n) % (2 * n);
                    due.is("mend(" + m + ", " + o + ") of army " + n, Due.told("army " + n).mend(m, o),
                        !areTwo ? UNKNOWN : unlike && o != mender ? mender : NOT);
                    due.is("swap(" + m + ", " + o + ") of army " + n, Due.told("army " + n).swap(m, o),
                        !areTwo ? UNKNOWN : unlike ? NOT : (o + n) % (2 * n));
                }
            }
        }
    }

    // "0 PLAIN (as at first)", "3 at first", "at first the one whose number is n more, or n less"
    private static void allAsAtFirst() {
        for (int n = 1; n <= 4; n++) {
            OppositeThreads x = Due.told("army " + n);
            for (int m = 0; m < 2 * n; m++) {
                due.is("kind", x.man(m, 0), 0);
                due.is("buttons", x.man(m, 1), 3);
                due.is("mender", x.man(m, 2), m < n ? m + n : m - n);
            }
            due.is("buttons of side 0", x.count(3), 3 * n);
            due.is("buttons of side 1", x.count(4), 3 * n);
            due.is("none is home", x.count(2), (1 << 2 * n) - 1);
        }
    }

    // "has BUTTONS (0 to 6; 3 at first), and is HOME, if he has none"
    private static void buttonsAndHome() {
        for (int b = 0; b <= 6; b++) {
            OppositeThreads x = Due.told("army 4;buttons 7 " + b);
            due.is("buttons " + b, x.man(7, 1), b);
            due.is("in the field with " + b, x.count(2) >> 7, b == 0 ? 0 : 1);
            due.is("home with " + b, x.home(7) == 0 ? 1 : 0, b == 0 ? 1 : 0);
            due.is("aims with " + b, x.man(7, 3), b == 0 ? NONE : 0);
            due.is("left of his side", x.left(1, 0), b == 0 ? 3 : 4);
        }
    }

    // "His COAT was mended by a MAN of the other SIDE, his MENDER: he KNOWS that one"
    private static void menderOfOtherSide() {
        for (int n = 1; n <= 4; n++) {
            for (int m = 0; m < 2 * n; m++) {
                for (int s = 0; s < 2 * n; s++) {
                    String text = "army " + n + ";mender " + m + " " + s;
                    boolean fits = m / n != s / n;
                    faultAt(text, fits ? NONE : 16);
                    if (fits) {
                        OppositeThreads x = Due.told(text);
                        due.is("mender", x.man(m, 2), s);
                        due.is("knows him", x.man(s, 5) >> m & 1, 1);
                        due.is("won't aim at him", x.man(m, 3) == s ? 1 : 0, 0);
                    }
                }
            }
        }
    }

    // "A letter (its number, 0 .. 255) more of THE TEXT: how many it has"
    private static void lettersOfText() {
        for (int letter = -2; letter <= 257; letter++) {
            OppositeThreads x = new OppositeThreads();
            boolean fits = letter >= 0 && letter <= 255;
            due.is("write(" + letter + ")", x.write(letter), fits ? 1 : OUTSIDE);
            due.is("letters then", x.count(9), fits ? 1 : 0);
            // No letter alone is a text: it is a fault, or but a blank, with a fault at the end.
            due.is("fault then", x.fault(), letter == ' ' ? 1 : 0);
        }
    }

    // "THE TEXT is a row of letters, 200 at most", "FULL"
    private static void textOfTwoHundred() {
        String text = "army" + times(" ", 195) + "3";
        OppositeThreads x = new OppositeThreads();
        for (int i = 0; i < 200; i++) {
            due.is("letter " + i, x.write(text.charAt(i)), i + 1);
        }
        due.is("letter 201", x.write('1'), OppositeThreads.FULL);
        due.is("fault of 200", x.fault(), NONE);
        due.is("army of 200", x.army(), 1);
        due.is("men then", x.count(0), 3);
        due.is("the text is empty then", x.count(9), 0);
        due.is("a letter again", x.write('a'), 1);
        faultAt(times(" ", 199) + "x", 199);
        faultAt(times(" ", 200), 200);
        faultAt("army" + times(" ", 196), 200);
        faultAt("plain 0;" + times(" ", 185) + "buttons", 200);
        faultAt("mender 0" + times(" ", 192), 200);
        faultAt(times("a", 200), 0);
        faultAt("plain " + times("0", 194), 6);
        faultAt("plain 0" + times(" ", 192) + ";", 200);
        faultAt("plain 0" + times(" ", 193), NONE);
    }

    // "THE TEXT is empty: how many letters it had": what was erased, or done, tells nothing
    private static void erasedText() {
        String[] behind = {"army 4", "plain 3", "buttons 3 6", "mender 3 1"};
        for (String text : behind) {
            for (int length = 0; length < text.length(); length++) {
                OppositeThreads x = new OppositeThreads();
                Due.type(x, text);
                due.is("erase", x.erase(), text.length());
                due.is("erase again", x.erase(), 0);
                Due.type(x, text.substring(0, length));
                int word = text.indexOf(' ');
                due.is("fault of '" + text.substring(0, length) + "'", x.fault(), length < word ? 0 : length);
                Due.type(x, text);
                x.army();
                Due.type(x, text.substring(0, length));
                due.is("behind army() too", x.fault(), length < word ? 0 : length);
            }
        }
    }

    // "a TOKEN (a row of small letters, a row of digits, any other letter)": behind a number each letter is one of these
    private static void everyLetterBehindClause() {
        for (int c = 0; c <= 255; c++) {
            int place = 6;
            if (c == ' ') {
                place = NONE;
            } else if (c == ';') {
                place = 7;
            } else if (c >= '0' && c <= '9') {
                place = 5;
            }
            due.is("fault of 'army 2' and letter " + c, faultOf("army 2" + (char) c), place);
        }
    }

    private static void everyLetterBehindWord() {
        for (int c = 0; c <= 255; c++) {
            int place = 4;
            if (c == ' ') {
                place = NONE;
            } else if (c >= 'a' && c <= 'z') {
                place = 0;
            } else if (c >= '1' && c <= '4') {
                place = 6;
            }
            due.is("fault of 'army', letter " + c + ", ' 2'", faultOf("army" + (char) c + " 2"), place);
            due.is("fault of letter " + c + " and 'army 2'", faultOf((char) c + "army 2"), c == ' ' ? NONE : 0);
        }
    }

    private static void everyLetterBetweenDigits() {
        for (int c = 0; c <= 255; c++) {
            int place = 7;
            if (c == ' ' || c == ';') {
                place = 8;
            } else if (c >= '0' && c <= '9') {
                place = 6;
            }
            due.is("fault of 'plain 0', letter " + c + ", '1'", faultOf("plain 0" + (char) c + "1"), place);
        }
    }

    // "As written here"
    private static void wordsToTheLetter() {
        String[] texts = {"army 2", "plain 0", "sailor 0", "sniper 0", "corporal 0", "drummer 0", "buttons 0 0", "mender 0 2"};
        for (String text : texts) {
            faultAt(text, NONE);
            int length = text.indexOf(' ');
            for (int i = 0; i < length; i++) {
                char c = text.charAt(i);
                faultAt(text.substring(0, i) + (char) (c - 32) + text.substring(i + 1), 0);
                faultAt(text.substring(0, i) + (c == 'z' ? 'a' : (char) (c + 1)) + text.substring(i + 1), 0);
                faultAt(text.substring(0, i) + c + text.substring(i), 0);
                faultAt(text.substring(0, i) + text.substring(i + 1), 0);
                faultAt(text.substring(0, i + 1) + " " + text.substring(i + 1), i + 1 == length ? NONE : 0);
            }
            faultAt("  " + text.replace(" ", "   ") + "  ", NONE);
        }
        String[] others = {"man 0", "men 2", "armies 2", "general 1", "officer 0", "button 0 1", "menders 0 2", "home 0", "day 1"};
        for (String text : others) {
            faultAt(text, 0);
        }
    }

    // "or at the end, if it comes too soon": each clause cut at each letter
    private static void endTooSoon() {
        String[] texts = {"army 2", "plain 0", "sailor 0", "sniper 0", "corporal 0", "drummer 0", "buttons 0 0", "mender 0 2"};
        for (String text : texts) {
            int word = text.indexOf(' ');
            for (int length = 0; length < text.length(); length++) {
                faultAt(text.substring(0, length), length < word ? 0 : length);
                faultAt("army 2;" + text.substring(0, length), 7 + (length < word ? 0 : length));
            }
            faultAt(text + ";", text.length() + 1);
            faultAt(text + " ;  ", text.length() + 4);
            int last = text.lastIndexOf(' ');
            faultAt(text.substring(0, last) + ";" + text, last);
        }
        faultAt("", 0);
        faultAt(";", 0);
    }

    // "MAN M, such as there is", "numbers of 1 or 2 digits"
    private static void numbersOfMan() {
        for (int n = 1; n <= 4; n++) {
            for (int m = 0; m <= 99; m++) {
                int place = m < 2 * n ? NONE : 7;
                String two = m < 10 ? "0" + m : "" + m;
                OppositeThreads x = Due.told("army " + n);
                Due.type(x, "sniper " + m);
                due.is("fault of man " + m + " in army " + n, x.fault(), place);
                Due.type(x, "buttons " + two + " 1");
                due.is("fault of buttons of " + two + " in army " + n, x.fault(), place == NONE ? NONE : 8);
            }
        }
    }

    // "he has B, 0 to 6"
    private static void numbersOfButtons() {
        for (int b = 0; b <= 99; b++) {
            faultAt("buttons 3 " + b, b <= 6 ? NONE : 10);
            faultAt("buttons  3   " + (b < 10 ? "0" + b : b), b <= 6 ? NONE : 13);
        }
    }

    // "his MENDER is S, of the other SIDE"
    private static void numbersOfMender() {
        for (int s = 0; s <= 99; s++) {
            faultAt("army 3;mender 2 " + s, s >= 3 && s <= 5 ? NONE : 16);
            faultAt("army 3;mender 3 " + s, s <= 2 ? NONE : 16);
        }
    }

    // "a number out of its bounds, of more digits, also"
    private static void moreDigits() {
        faultAt("army 01", NONE);
        faultAt("army 001", 5);
        faultAt("plain 00", NONE);
        faultAt("plain 000", 6);
        faultAt("buttons 000 1", 8);
        faultAt("buttons 0 06", NONE);
        faultAt("buttons 0 006", 10);
        faultAt("mender 0 02", NONE);
        faultAt("mender 0 002", 9);
        faultAt("mender 0 4294967298", 9);
        faultAt("army 4294967297", 5);
        faultAt("army 18446744073709551617", 5);
    }

    // "CLAUSES with ; between, 24 at most"
    private static void twentyFourClauses() {
        for (int number = 1; number <= 24; number++) {
            OppositeThreads x = new OppositeThreads();
            Due.type(x, times("army 2;", number - 1) + "army 3");
            due.is("clauses", x.army(), number);
            due.is("the last one is done", x.count(0), 3);
        }
        faultAt(times("army 2;", 24) + "army 3", 167);
        faultAt(times("army 2;", 24), 167);
        faultAt(times("army 2;", 23) + "army 2  ; army 3", 169);
        faultAt(times("army 2;", 23) + "army 2  ", NONE);
        faultAt(times("army 2;", 23) + "army 9;army 3", 166);
        faultAt(times("army 2;", 23), 161);
    }

    // "A FAULT is at the first TOKEN that cannot stand there"
    private static void firstOfSeveralFaults() {
        faultAt("army 9;army 8", 5);
        faultAt("army 2;army 8;army 9", 12);
        faultAt("plain 9 9", 6);
        faultAt("buttons 9 9", 8);
        faultAt("buttons 1 9;junk", 10);
        faultAt("mender 9 9;;", 7);
        faultAt("junk;junk", 0);
        faultAt("plain ; plain 9", 6);
        faultAt("plain plain 0", 6);
        faultAt("0 plain", 0);
        faultAt("buttons 0 buttons", 10);
        faultAt("buttons 0 1 1", 12);
        faultAt("plain 0 0", 8);
        faultAt("plain -1", 6);
        faultAt("plain +1", 6);
        faultAt("plain 1.", 7);
    }

    // "CLAUSES are done in their order"
    private static void clausesInOrder() {
        for (int k = 0; k < KINDS.length; k++) {
            OppositeThreads x = Due.told("sniper 1;sailor 1;" + KINDS[k] + " 1");
            due.is(KINDS[k] + " behind the others", x.man(1, 0), k);
            due.is("nobody else is one", x.man(0, 0) + x.man(2, 0) + x.man(3, 0), 0);
        }
        due.is("buttons twice", Due.told("buttons 1 5;buttons 1 2").man(1, 1), 2);
        due.is("mender twice", Due.told("mender 1 2;mender 1 3").man(1, 2), 3);
        due.is("army twice", Due.told("army 4;army 1").count(0), 1);
    }

    // "such as there is": by what the clauses ahead of it told
    private static void manSuchAsThereIs() {
        faultAt("plain 3", NONE);
        faultAt("plain 4", 6);
        faultAt("army 4;plain 7", NONE);
        faultAt("plain 7;army 4", 6);
        faultAt("army 4;army 1;plain 1", NONE);
        faultAt("army 4;army 1;plain 2", 20);
        faultAt("army 1;mender 0 1", NONE);
        faultAt("army 1;mender 0 2", 16);
        OppositeThreads x = Due.told("army 4");
        Due.type(x, "plain 7");
        due.is("by an earlier text too", x.fault(), NONE);
        Due.type(x, "plain 8");
        due.is("and no more than it told", x.fault(), 6);
    }

    // "army: n is N, 1 to 4, all else as at first"
    private static void armyTellsAllAnew() {
        for (int n = 1; n <= 4; n++) {
            OppositeThreads x = Due.told("army 4;sniper 0;buttons 1 6;mender 1 4;buttons 0 0");
            Due.type(x, "drummer 1;army " + n);
            x.army();
            for (int m = 0; m < 2 * n; m++) {
                due.is("kind", x.man(m, 0), 0);
                due.is("buttons", x.man(m, 1), 3);
                due.is("mender", x.man(m, 2), (m + n) % (2 * n));
            }
        }
    }

    // "what earlier texts told stays as it was told"
    private static void earlierTextsStay() {
        OppositeThreads x = Due.told("army 3;sailor 0;buttons 1 6;mender 2 3");
        x.day(9);
        x.swap(0, 2);
        Due.type(x, "drummer 5");
        x.army();
        due.is("men", x.count(0), 3);
        due.is("kind", x.man(0, 0), 1);
        due.is("buttons", x.man(1, 1), 6);
        due.is("buttons that nobody told are as at first", x.man(3, 1), 3);
        due.is("mender", x.man(2, 2), 3);
        due.is("mender that nobody told is as at first", x.man(0, 2), 3);
        due.is("told now", x.man(5, 0), 4);
        Due.type(x, "plain 0;buttons 1 1");
        x.army();
        due.is("a kind told anew", x.man(0, 0), 0);
        due.is("buttons told anew", x.man(1, 1), 1);
        due.is("told by the second", x.man(5, 0), 4);
        due.is("told by the first", x.man(2, 2), 3);
    }

    // "army. NOT: it has a FAULT": none of its clauses is done, nor told to later texts
    private static void faultTellsNothing() {
        String[] texts = {"", "army 1;", "army 1;sniper 0;sniper 2", "sniper 0;buttons 0 6;mender 0 3;junk"};
        for (String text : texts) {
            OppositeThreads x = new OppositeThreads();
            Due.type(x, text);
            due.is("army of '" + text + "'", x.army(), NOT);
            due.is("and again", x.army(), NOT);
            due.is("letters", x.count(9), text.length());
            due.is("men", x.count(0), 2);
            Due.type(x, "plain 3");
            due.is("army then", x.army(), 1);
            due.is("men then", x.count(0), 2);
            due.is("kind then", x.man(0, 0), 0);
            due.is("buttons then", x.man(0, 1), 3);
            due.is("mender then", x.man(0, 2), 2);
        }
    }

    // "Behind them all is as told, it is DAY 0, nothing is SEEN, nothing is kept or can be undone; SHEETS are all missing"
    private static void behindTheText() {
        OppositeThreads x = Due.told("army 3;buttons 0 1");
        x.mend(0, 4);
        x.keep(0);
        x.day(5);
        x.keep(1);
        x.seen(0, 3, 1);
        x.sheet(0, 0, 0);
        x.sheet(1, 1, 10);
        x.sheet(2, 0, 1);
        due.is("0 was sent home", x.man(0, 1), 0);
        Due.type(x, "plain 0");
        due.is("army", x.army(), 1);
        due.is("it is day 0", x.count(1), 0);
        due.is("0 is back", x.man(0, 1), 1);
        due.is("his mender is as told", x.man(0, 2), 3);
        due.is("nothing is seen", x.count(6), 0);
        due.is("all kinds may be", x.kinds(), 31);
        due.is("nothing to undo", x.count(8), 0);
        due.is("undo", x.undo(), NOT);
        due.is("0 is not kept", x.back(0), NOT);
        due.is("1 is not kept", x.back(1), NOT);
        due.is("no places", x.count(7), 0);
        for (int sheet = 0; sheet <= 2; sheet++) {
            due.is("sheet " + sheet, x.drop(sheet), OppositeThreads.NULL);
        }
        due.is("the text is empty", x.erase(), 0);
        due.is("so it has a fault", x.fault(), 0);
        due.is("and is refused", x.army(), NOT);
        due.is("kept since", x.keep(1), 0);
        due.is("and there", x.back(1), 0);
        due.is("the other is not", x.back(0), NOT);
    }

    // "man: KIND (what 0), BUTTONS (1), MENDER (2), whom he AIMS at (3; NONE; HOME: NONE), how much he HITS (4), who KNOWS him (5)"
    private static void whatOfMan() {
        OppositeThreads x = Due.told("army 4;drummer 0;sniper 7;buttons 0 6;buttons 7 1;mender 0 7;mender 7 3");
        int[] first = {4, 6, 7, 4, 1, 1 << 4};
        int[] last = {2, 1, 3, 0, 2, 1 << 3 | 1};
        for (int what = 0; what <= 5; what++) {
            due.is("man(0, " + what + ")", x.man(0, what), first[what]);
            due.is("man(7, " + what + ")", x.man(7, what), last[what]);
        }
        due.is("man(0, -1)", x.man(0, -1), OUTSIDE);
        due.is("man(7, 6)", x.man(7, 6), OUTSIDE);
        due.is("aims at nobody: none is open", Due.told("army 1").man(0, 3), NONE);
        due.is("home", Due.told("buttons 0 0").man(0, 3), NONE);
        due.is("at home his kind hits yet", Due.told("sniper 0;buttons 0 0").man(0, 4), 2);
        x.day(1);
        due.is("a drummer aims at nobody on day 2", x.man(0, 3), NONE);
        due.is("but hits", x.man(0, 4), 1);
    }

    // "who KNOWS him (5, bits)": nobody to all of the other side
    private static void knowersByBits() {
        OppositeThreads x = Due.told("army 4;mender 0 7;mender 1 7;mender 2 7;mender 4 0;mender 5 0;mender 6 0;mender 7 0");
        due.is("all of side 0 know 7", x.man(7, 5), 0b1111);
        due.is("all of side 1 know 0", x.man(0, 5), 0b11110000);
        due.is("nobody knows 4", x.man(4, 5), 0);
        due.is("nobody knows 3", x.man(3, 5), 0);
        due.is("one a side", Due.told("army 1").man(0, 5), 0b10);
    }

    // "A MAN taken as a KIND (0 .. 5, as they are over one another): how much he HITS. NOT: he is none such"
    private static void kindsOverOneAnother() {
        int[] fits = {0b000011, 0b000111, 0b001011, 0b010001, 0b110001};
        for (int k = 0; k < KINDS.length; k++) {
            for (int side = 0; side <= 1; side++) {
                OppositeThreads x = Due.told(KINDS[k] + " " + 3 * side);
                for (int rank = -1; rank <= 6; rank++) {
                    int want = rank < 0 || rank > 5 ? OUTSIDE : (fits[k] >> rank & 1) == 0 ? NOT : k == 2 ? 2 : 1;
                    due.is(KINDS[k] + " as " + rank, x.as(3 * side, rank), want);
                }
            }
        }
    }
}
