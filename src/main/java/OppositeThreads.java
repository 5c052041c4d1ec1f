/**
 * Two sides of men whose coats are mended by the enemy: texts tell an army, days are done and undone,
 * what is to come is foretold, a kind is found by what was seen, and three sheets hold numbers.
 */
public final class OppositeThreads {
    public static final int NONE = -1, UNKNOWN = -2, OUTSIDE = -3, NOT = -4, FULL = -5, NULL = -11, SIZE = -12, CAST = -13, INDEX = -14, ROOM = -15;

    private static final int LAST_DAY = 999, DAYS_AT_ONCE = 9, DAYS_FORETOLD = 60, DAYS_PLANNED = 20;
    private static final int KEPT_LIMIT = 2, SHEET_LIMIT = 3;
    private static final int NUMBER_LIMIT = 9999, NUMBER_SHIFT = 50000, SUM_SHIFT = 500000;

    // What texts told outlives days and mending, so it is held apart from the army in the field.
    private final Army told;
    private final Army now;
    // What is foretold is played through here, so that nothing changes.
    private final Army trial;
    private final Text text;
    private final Past past;
    private final Army[] kept;
    private final boolean[] isKept;
    private final Sightings sightings;
    private final Sheet[] sheets;

    public OppositeThreads() {
        told = new Army();
        now = new Army();
        trial = new Army();
        text = new Text();
        past = new Past();
        kept = new Army[KEPT_LIMIT];
        for (int k = 0; k < KEPT_LIMIT; k++) {
            kept[k] = new Army();
        }
        isKept = new boolean[KEPT_LIMIT];
        sightings = new Sightings();
        sheets = new Sheet[SHEET_LIMIT];
        for (int s = 0; s < SHEET_LIMIT; s++) {
            sheets[s] = new Sheet();
        }
    }

    // ---- what is told

    public int write(int letter) {
        if (letter < 0 || letter > 255) {
            return OUTSIDE;
        }
        return text.add((char) letter) ? text.length : FULL;
    }

    public int erase() {
        int had = text.length;
        text.length = 0;
        return had;
    }

    public int fault() {
        return text.readOnto(told);
    }

    public int army() {
        if (text.readOnto(told) != NONE) {
            return NOT;
        }
        told.takeFrom(text.draft);
        now.takeFrom(told);
        text.length = 0;
        past.clear();
        for (int k = 0; k < KEPT_LIMIT; k++) {
            isKept[k] = false;
        }
        sightings.number = 0;
        for (int s = 0; s < SHEET_LIMIT; s++) {
            sheets[s].lose();
        }
        return text.clauses;
    }

    public int man(int man, int what) {
        if (!now.has(man)) {
            return UNKNOWN;
        }
        switch (what) {
            case 0:
                return now.kind[man];
            case 1:
                return now.buttons[man];
            case 2:
                return now.mender[man];
            case 3:
                return now.aimOf(man);
            case 4:
                return Kinds.hitOf(now.kind[man]);
            case 5:
                return now.knowersOf(man);
            default:
                return OUTSIDE;
        }
    }

    public int as(int man, int kind) {
        if (!now.has(man)) {
            return UNKNOWN;
        }
        if (kind < 0 || kind > Kinds.LAST_RANK) {
            return OUTSIDE;
        }
        return Kinds.isOne(now.kind[man], kind) ? Kinds.hitOf(now.kind[man]) : NOT;
    }

    // ---- what is done

    public int day(int n) {
        if (n < 1 || n > DAYS_AT_ONCE) {
            return OUTSIDE;
        }
        if (now.day + n > LAST_DAY) {
            return FULL;
        }
        past.remember(now);
        now.pass(n);
        return now.day;
    }

    public int mend(int man, int s) {
        if (!areTwoMen(man, s)) {
            return UNKNOWN;
        }
        int before = now.mender[man];
        if (now.sideOf(s) == now.sideOf(man) || s == before) {
            return NOT;
        }
        past.remember(now);
        now.mender[man] = s;
        return before;
    }

    public int swap(int man, int other) {
        if (!areTwoMen(man, other)) {
            return UNKNOWN;
        }
        int before = now.mender[man];
        if (now.sideOf(man) != now.sideOf(other) || before == now.mender[other]) {
            return NOT;
        }
        past.remember(now);
        now.mender[man] = now.mender[other];
        now.mender[other] = before;
        return now.mender[man];
    }

    public int undo() {
        return past.restore(now) ? past.number : NOT;
    }

    public int keep(int k) {
        if (k < 0 || k >= KEPT_LIMIT) {
            return UNKNOWN;
        }
        kept[k].takeFrom(now);
        isKept[k] = true;
        return now.day;
    }

    public int back(int k) {
        if (k < 0 || k >= KEPT_LIMIT) {
            return UNKNOWN;
        }
        if (!isKept[k]) {
            return NOT;
        }
        now.takeFrom(kept[k]);
        past.clear();
        return now.day;
    }

    // ---- foretold

    public int behind(int man, int n) {
        if (!now.has(man)) {
            return UNKNOWN;
        }
        if (n < 0 || n > DAYS_FORETOLD) {
            return OUTSIDE;
        }
        trial.takeFrom(now);
        trial.pass(n);
        return trial.buttons[man];
    }

    public int home(int man) {
        if (!now.has(man)) {
            return UNKNOWN;
        }
        trial.takeFrom(now);
        for (int days = 0; days <= DAYS_FORETOLD; days++) {
            if (trial.isHome(man)) {
                return days;
            }
            trial.passDay();
        }
        return NONE;
    }

    public int quiet() {
        trial.takeFrom(now);
        for (int days = 0; days <= DAYS_FORETOLD; days++) {
            if (trial.aimers() == 0) {
                return days;
            }
            trial.passDay();
        }
        return NONE;
    }

    public int left(int side, int n) {
        if (!isSide(side)) {
            return UNKNOWN;
        }
        if (n < 0 || n > DAYS_FORETOLD) {
            return OUTSIDE;
        }
        trial.takeFrom(now);
        trial.pass(n);
        return trial.leftOf(side);
    }

    public int coat(int n) {
        if (!isPlanned(n)) {
            return OUTSIDE;
        }
        trial.takeFrom(now);
        trial.pass(n);
        int most = trial.leftOfBoth();
        int best = NONE;
        for (int man = 0; man < 2 * now.men; man++) {
            int first = now.firstOf(1 - now.sideOf(man));
            for (int s = first; s < first + now.men; s++) {
                // His own mender is tried too: that is the army as it is, which never has more left.
                trial.takeFrom(now);
                trial.mender[man] = s;
                trial.pass(n);
                if (trial.leftOfBoth() > most) {
                    most = trial.leftOfBoth();
                    best = 10 * man + s;
                }
            }
        }
        return best;
    }

    public int pairs(int side, int n, int k) {
        if (!isSide(side)) {
            return UNKNOWN;
        }
        if (!isPlanned(n) || k < NONE || k >= now.men) {
            return OUTSIDE;
        }
        int most = NONE;
        int best = 0;
        int plans = 1 << (2 * now.men);
        for (int plan = 0; plan < plans; plan++) {
            trial.takeFrom(now);
            if (trial.takePlan(side, plan)) {
                trial.pass(n);
                if (trial.leftOfBoth() > most) {
                    most = trial.leftOfBoth();
                    best = plan;
                }
            }
        }
        return k == NONE ? most : now.firstOf(1 - side) + now.placeInPlan(best, k);
    }

    public int keeps(int man, int q, int part) {
        if (!now.has(man)) {
            return UNKNOWN;
        }
        if (q < 0 || q > 10 || part < 0 || part > 1) {
            return OUTSIDE;
        }
        if (now.isHome(man)) {
            return NOT;
        }
        int aimers = now.aimersAt(man);
        int above = now.waysToStay(man, aimers, q);
        int below = 1;
        for (int shot = 0; shot < Integer.bitCount(aimers); shot++) {
            below = 10 * below;
        }
        int common = commonDivisor(above, below);
        return (part == 0 ? above : below) / Math.max(1, common);
    }

    // ---- what was seen

    public int seen(int day, int w, int h) {
        if (day < 0 || day > 1 || w < 0 || w > 3 || h < 0 || h > 3) {
            return OUTSIDE;
        }
        return sightings.add(day, w, h) ? sightings.number : FULL;
    }

    public int forget() {
        int had = sightings.number;
        sightings.number = 0;
        return had;
    }

    public int kinds() {
        return sightings.possibleKinds();
    }

    public int ask() {
        return sightings.bestDay();
    }

    // ---- sheets

    public int sheet(int sheet, int sort, int n) {
        if (!isSheet(sheet)) {
            return UNKNOWN;
        }
        if (!isSort(sort) || n > Sheet.LIMIT) {
            return OUTSIDE;
        }
        if (n < 0) {
            return SIZE;
        }
        sheets[sheet].begin(sort, n);
        return n;
    }

    public int set(int sheet, int sort, int i, int v) {
        if (!isSheet(sheet)) {
            return UNKNOWN;
        }
        if (!isSort(sort) || v < -NUMBER_LIMIT || v > NUMBER_LIMIT) {
            return OUTSIDE;
        }
        int before = valueAt(sheets[sheet], sort, i);
        if (before >= 0) {
            sheets[sheet].places[i] = v;
        }
        return before;
    }

    public int get(int sheet, int sort, int i) {
        if (!isSheet(sheet)) {
            return UNKNOWN;
        }
        if (!isSort(sort)) {
            return OUTSIDE;
        }
        return valueAt(sheets[sheet], sort, i);
    }

    public int copy(int from, int i, int to, int j, int n) {
        if (!isSheet(from) || !isSheet(to)) {
            return UNKNOWN;
        }
        Sheet source = sheets[from];
        Sheet target = sheets[to];
        if (source.isMissing() || target.isMissing()) {
            return NULL;
        }
        if (n < 0) {
            return SIZE;
        }
        if (source.sort != target.sort) {
            return CAST;
        }
        if (!source.holds(i, n) || !target.holds(j, n)) {
            return INDEX;
        }
        System.arraycopy(source.places, i, target.places, j, n);
        return n;
    }

    public int join(int sheet, int other) {
        if (!isSheet(sheet) || !isSheet(other)) {
            return UNKNOWN;
        }
        Sheet front = sheets[sheet];
        Sheet rear = sheets[other];
        if (front.isMissing() || rear.isMissing()) {
            return NULL;
        }
        int together = front.size + rear.size;
        if (together > Sheet.LIMIT) {
            return ROOM;
        }
        System.arraycopy(rear.places, 0, front.places, front.size, rear.size);
        front.size = together;
        return together;
    }

    public int sum(int sheet) {
        if (!isSheet(sheet)) {
            return UNKNOWN;
        }
        return sheets[sheet].isMissing() ? NULL : SUM_SHIFT + (int) sheets[sheet].total();
    }

    public int drop(int sheet) {
        if (!isSheet(sheet)) {
            return UNKNOWN;
        }
        if (sheets[sheet].isMissing()) {
            return NULL;
        }
        int had = sheets[sheet].size;
        sheets[sheet].lose();
        return had;
    }

    public int count(int what) {
        switch (what) {
            case 0:
                return now.men;
            case 1:
                return now.day;
            case 2:
                return now.inField();
            case 3:
                return now.buttonsOf(0);
            case 4:
                return now.buttonsOf(1);
            case 5:
                return now.aimers();
            case 6:
                return sightings.number;
            case 7:
                return placesOfSheets();
            case 8:
                return past.number;
            case 9:
                return text.length;
            default:
                return OUTSIDE;
        }
    }

    // ---- of use to several calls

    private boolean areTwoMen(int man, int other) {
        return now.has(man) && now.has(other) && man != other;
    }

    private static boolean isSide(int side) {
        return side == 0 || side == 1;
    }

    private static boolean isPlanned(int days) {
        return days >= 1 && days <= DAYS_PLANNED;
    }

    private static boolean isSheet(int sheet) {
        return sheet >= 0 && sheet < SHEET_LIMIT;
    }

    private static boolean isSort(int sort) {
        return sort == Sheet.INTS || sort == Sheet.LONGS;
    }

    private static int commonDivisor(int above, int below) {
        int greater = below;
        int less = above;
        for (int step = 0; step < 64 && less != 0; step++) {
            int rest = greater % less;
            greater = less;
            less = rest;
        }
        return greater;
    }

    /** What is at a place, shifted above noughts; or, below nought, what the machine would find. */
    private static int valueAt(Sheet sheet, int sort, int i) {
        if (sheet.isMissing()) {
            return NULL;
        }
        if (sheet.sort != sort) {
            return CAST;
        }
        return sheet.holds(i, 1) ? NUMBER_SHIFT + (int) sheet.places[i] : INDEX;
    }

    private int placesOfSheets() {
        int places = 0;
        for (int s = 0; s < SHEET_LIMIT; s++) {
            places += sheets[s].size;
        }
        return places;
    }

    /** What is true of a kind, whoever is of it. */
    private static final class Kinds {
        static final int PLAIN = 0, SAILOR = 1, SNIPER = 2, CORPORAL = 3, DRUMMER = 4;
        static final int NUMBER = 5, LAST_RANK = 5;
        // Where one of a kind aims, as it is told of what was seen.
        static final int NOBODY = 0, LEAST = 1, GREATEST = 2, FULLEST = 3;

        // By rank (a kind and 1 more; 0 is any man): the rank above it.
        private static final int[] ABOVE = {-1, 0, 1, 1, 0, 4};

        private Kinds() {
        }

        static int hitOf(int kind) {
            return kind == SNIPER ? 2 : 1;
        }

        static int aimOn(int kind, boolean evenDay) {
            switch (kind) {
                case SAILOR:
                    return GREATEST;
                case CORPORAL:
                    return FULLEST;
                case DRUMMER:
                    return evenDay ? NOBODY : FULLEST;
                default:
                    return LEAST;
            }
        }

        static boolean isOne(int kind, int rank) {
            int at = kind + 1;
            for (int step = 0; step < ABOVE.length && at >= 0 && at < ABOVE.length; step++) {
                if (at == rank) {
                    return true;
                }
                at = ABOVE[at];
            }
            return false;
        }
    }

    /** Two sides of men as they are on a day. */
    private static final class Army {
        static final int MOST_MEN = 4, MOST_BUTTONS = 6;
        private static final int MEN_AT_FIRST = 2, BUTTONS_AT_FIRST = 3, HAMPER_DAYS = 4;
        // The hits on each man stand in one long, eight bits a man.
        private static final int HIT_BITS = 8, HIT_MASK = 255;

        private final int[] kind;
        private final int[] buttons;
        private final int[] mender;
        private int men;
        private int day;

        Army() {
            kind = new int[2 * MOST_MEN];
            buttons = new int[2 * MOST_MEN];
            mender = new int[2 * MOST_MEN];
            begin(MEN_AT_FIRST);
        }

        void begin(int menOfSide) {
            men = Math.max(1, Math.min(menOfSide, MOST_MEN));
            day = 0;
            for (int m = 0; m < 2 * men; m++) {
                kind[m] = Kinds.PLAIN;
                buttons[m] = BUTTONS_AT_FIRST;
                mender[m] = m < men ? m + men : m - men;
            }
        }

        void takeFrom(Army other) {
            men = other.men;
            day = other.day;
            System.arraycopy(other.kind, 0, kind, 0, 2 * MOST_MEN);
            System.arraycopy(other.buttons, 0, buttons, 0, 2 * MOST_MEN);
            System.arraycopy(other.mender, 0, mender, 0, 2 * MOST_MEN);
        }

        boolean has(int man) {
            return man >= 0 && man < 2 * men;
        }

        int sideOf(int man) {
            return man < men ? 0 : 1;
        }

        int firstOf(int side) {
            return side == 0 ? 0 : men;
        }

        boolean isHome(int man) {
            return !has(man) || buttons[man] == 0;
        }

        private boolean isOpen(int man, int other) {
            return has(man) && has(other) && buttons[other] > 0 && mender[man] != other;
        }

        /** Whom a man aims at on the next day, or NONE. */
        int aimOf(int man) {
            if (isHome(man)) {
                return NONE;
            }
            switch (Kinds.aimOn(kind[man], (day + 1) % 2 == 0)) {
                case Kinds.LEAST:
                    return leastOpen(man);
                case Kinds.GREATEST:
                    return greatestOpen(man);
                case Kinds.FULLEST:
                    return fullestOpen(man);
                default:
                    return NONE;
            }
        }

        private int leastOpen(int man) {
            int first = firstOf(1 - sideOf(man));
            for (int other = first; other < first + men; other++) {
                if (isOpen(man, other)) {
                    return other;
                }
            }
            return NONE;
        }

        private int greatestOpen(int man) {
            int first = firstOf(1 - sideOf(man));
            for (int other = first + men - 1; other >= first; other--) {
                if (isOpen(man, other)) {
                    return other;
                }
            }
            return NONE;
        }

        private int fullestOpen(int man) {
            int first = firstOf(1 - sideOf(man));
            int fullest = NONE;
            int most = 0;
            for (int other = first; other < first + men; other++) {
                if (isOpen(man, other) && buttons[other] > most) {
                    fullest = other;
                    most = buttons[other];
                }
            }
            return fullest;
        }

        void pass(int days) {
            for (int d = 0; d < days; d++) {
                passDay();
            }
        }

        void passDay() {
            long hits = 0;
            for (int m = 0; m < 2 * men; m++) {
                int target = aimOf(m);
                if (has(target)) {
                    hits += (long) Kinds.hitOf(kind[m]) << (HIT_BITS * target);
                }
            }
            day++;
            for (int m = 0; m < 2 * men; m++) {
                int lost = (int) (hits >>> (HIT_BITS * m)) & HIT_MASK;
                buttons[m] = Math.max(0, buttons[m] - lost);
            }
            if (day % HAMPER_DAYS == 0) {
                bringHamper();
            }
        }

        // A button more sends nobody home and fetches nobody back, so the order of the men is free.
        private void bringHamper() {
            for (int m = 0; m < 2 * men; m++) {
                if (!isHome(m) && !isHome(mender[m])) {
                    buttons[m] = Math.min(MOST_BUTTONS, buttons[m] + 1);
                }
            }
        }

        int knowersOf(int man) {
            int bits = 0;
            for (int m = 0; m < 2 * men; m++) {
                if (mender[m] == man) {
                    bits |= 1 << m;
                }
            }
            return bits;
        }

        int aimersAt(int man) {
            int bits = 0;
            for (int m = 0; m < 2 * men; m++) {
                if (aimOf(m) == man) {
                    bits |= 1 << m;
                }
            }
            return bits;
        }

        int aimers() {
            int number = 0;
            for (int m = 0; m < 2 * men; m++) {
                if (aimOf(m) != NONE) {
                    number++;
                }
            }
            return number;
        }

        int inField() {
            int bits = 0;
            for (int m = 0; m < 2 * men; m++) {
                if (!isHome(m)) {
                    bits |= 1 << m;
                }
            }
            return bits;
        }

        int leftOf(int side) {
            int number = 0;
            int first = firstOf(side);
            for (int m = first; m < first + men; m++) {
                if (!isHome(m)) {
                    number++;
                }
            }
            return number;
        }

        int leftOfBoth() {
            return leftOf(0) + leftOf(1);
        }

        int buttonsOf(int side) {
            int number = 0;
            int first = firstOf(side);
            for (int m = first; m < first + men; m++) {
                if (has(m)) {
                    number += buttons[m];
                }
            }
            return number;
        }

        /** A plan has two bits a man of a side, the first man's highest, so plans go up as their menders do. */
        int placeInPlan(int plan, int k) {
            return plan >>> (2 * (men - 1 - k)) & 3;
        }

        /** Gives the men of a side the menders of a plan; says whether there are such, all unlike. */
        boolean takePlan(int side, int plan) {
            int used = 0;
            int first = firstOf(side);
            int firstMender = firstOf(1 - side);
            for (int k = 0; k < men; k++) {
                int place = placeInPlan(plan, k);
                if (place >= men || (used >> place & 1) != 0 || !has(first + k)) {
                    return false;
                }
                used |= 1 << place;
                mender[first + k] = firstMender + place;
            }
            return true;
        }

        /** In how many of ten to the number of the aimers ways a man has a button left, if each spares him by q. */
        int waysToStay(int man, int aimers, int q) {
            int ways = 0;
            for (int shooting = 0; shooting < 1 << (2 * MOST_MEN); shooting++) {
                boolean areAimers = (shooting & ~aimers) == 0;
                if (areAimers && has(man) && hitsOf(shooting) < buttons[man]) {
                    int shots = Integer.bitCount(shooting);
                    ways += powerOf(10 - q, shots) * powerOf(q, Integer.bitCount(aimers) - shots);
                }
            }
            return ways;
        }

        private int hitsOf(int shooting) {
            int hits = 0;
            for (int m = 0; m < 2 * men; m++) {
                if ((shooting >> m & 1) != 0) {
                    hits += Kinds.hitOf(kind[m]);
                }
            }
            return hits;
        }

        private static int powerOf(int base, int exponent) {
            int power = 1;
            for (int e = 0; e < exponent; e++) {
                power *= base;
            }
            return power;
        }
    }

    /** The letters that tell an army, and how they are read to their first fault. */
    private static final class Text {
        private static final int LIMIT = 200, CLAUSE_LIMIT = 24, DIGIT_LIMIT = 2;
        private static final int OTHER_LETTER = 0, SMALL_LETTER = 1, DIGIT = 2;
        // The words that begin a clause: a kind's is one more than the kind.
        private static final int ARMY = 0, LAST_KIND = 5, BUTTONS = 6, MENDER = 7;

        private final char[] letters;
        private final Army draft;
        private int length;
        private int clauses;
        private int start;
        private int end;

        Text() {
            letters = new char[LIMIT];
            draft = new Army();
        }

        boolean add(char letter) {
            if (length >= LIMIT) {
                return false;
            }
            letters[length] = letter;
            length++;
            return true;
        }

        /** The place of the fault, or NONE: then the draft is the army as it is told by this text behind the earlier ones. */
        int readOnto(Army told) {
            draft.takeFrom(told);
            clauses = 0;
            end = 0;
            for (int c = 0; c < CLAUSE_LIMIT; c++) {
                if (!readClause()) {
                    return start;
                }
                clauses++;
                nextToken();
                if (start >= length) {
                    return NONE;
                }
                if (letters[start] != ';') {
                    return start;
                }
            }
            // Behind the last clause that there may be, no ; can stand.
            return start;
        }

        private boolean readClause() {
            int word = readWord();
            if (word == NONE) {
                return false;
            }
            if (word == ARMY) {
                return readArmy();
            }
            int man = readNumber(0, 2 * draft.men - 1);
            if (!draft.has(man)) {
                return false;
            }
            if (word <= LAST_KIND) {
                draft.kind[man] = word - 1;
                return true;
            }
            return word == BUTTONS ? readButtons(man) : readMender(man);
        }

        private boolean readArmy() {
            int men = readNumber(1, Army.MOST_MEN);
            if (men == NONE) {
                return false;
            }
            draft.begin(men);
            return true;
        }

        private boolean readButtons(int man) {
            int buttons = readNumber(0, Army.MOST_BUTTONS);
            if (buttons == NONE || !draft.has(man)) {
                return false;
            }
            draft.buttons[man] = buttons;
            return true;
        }

        private boolean readMender(int man) {
            int first = draft.firstOf(1 - draft.sideOf(man));
            int mender = readNumber(first, first + draft.men - 1);
            if (mender == NONE || !draft.has(man)) {
                return false;
            }
            draft.mender[man] = mender;
            return true;
        }

        private int readWord() {
            nextToken();
            for (int word = ARMY; word <= MENDER; word++) {
                if (isToken(wordOf(word))) {
                    return word;
                }
            }
            return NONE;
        }

        private static String wordOf(int word) {
            switch (word) {
                case ARMY:
                    return "army";
                case 1:
                    return "plain";
                case 2:
                    return "sailor";
                case 3:
                    return "sniper";
                case 4:
                    return "corporal";
                case LAST_KIND:
                    return "drummer";
                case BUTTONS:
                    return "buttons";
                default:
                    return "mender";
            }
        }

        private boolean isToken(String word) {
            if (end - start != word.length()) {
                return false;
            }
            for (int i = 0; i < word.length(); i++) {
                if (letters[start + i] != word.charAt(i)) {
                    return false;
                }
            }
            return true;
        }

        /** The next token as a number within bounds, none of which is below nought; or NONE. */
        private int readNumber(int least, int most) {
            nextToken();
            if (start >= length || end - start > DIGIT_LIMIT || sortOf(letters[start]) != DIGIT) {
                return NONE;
            }
            int number = 0;
            for (int i = start; i < end; i++) {
                number = 10 * number + letters[i] - '0';
            }
            return number >= least && number <= most ? number : NONE;
        }

        /** Goes on to the next token, from start to end; at the end of the text it has no letter. */
        private void nextToken() {
            start = end;
            while (start < length && letters[start] == ' ') {
                start++;
            }
            end = start;
            if (start >= length) {
                return;
            }
            int sort = sortOf(letters[start]);
            end++;
            while (sort != OTHER_LETTER && end < length && sortOf(letters[end]) == sort) {
                end++;
            }
        }

        private static int sortOf(char letter) {
            if (letter >= 'a' && letter <= 'z') {
                return SMALL_LETTER;
            }
            return letter >= '0' && letter <= '9' ? DIGIT : OTHER_LETTER;
        }
    }

    /** The army as it was ahead of what was done last. */
    private static final class Past {
        private static final int LIMIT = 8;

        private final Army[] states;
        private int next;
        private int number;

        Past() {
            states = new Army[LIMIT];
            for (int i = 0; i < LIMIT; i++) {
                states[i] = new Army();
            }
        }

        void clear() {
            next = 0;
            number = 0;
        }

        // The row goes round: the oldest one makes room for the ninth.
        void remember(Army army) {
            states[next].takeFrom(army);
            next = next == LIMIT - 1 ? 0 : next + 1;
            number = Math.min(LIMIT, number + 1);
        }

        boolean restore(Army army) {
            if (number == 0) {
                return false;
            }
            next = next == 0 ? LIMIT - 1 : next - 1;
            number--;
            army.takeFrom(states[next]);
            return true;
        }
    }

    /** How one of unknown kind aimed and hit. */
    private static final class Sightings {
        private static final int LIMIT = 6;

        private final int[] days;
        private final int[] sights;
        private int number;

        Sightings() {
            days = new int[LIMIT];
            sights = new int[LIMIT];
        }

        boolean add(int day, int aim, int hit) {
            if (number >= LIMIT) {
                return false;
            }
            days[number] = day;
            sights[number] = sightOf(aim, hit);
            number++;
            return true;
        }

        // Where one aims and how much he hits as one number, so that both are alike or not at once.
        private static int sightOf(int aim, int hit) {
            return 10 * aim + hit;
        }

        private static int sightOfKind(int kind, int day) {
            int aim = Kinds.aimOn(kind, day == 1);
            return sightOf(aim, aim == Kinds.NOBODY ? 0 : Kinds.hitOf(kind));
        }

        private boolean fits(int kind) {
            for (int i = 0; i < number && i < LIMIT; i++) {
                if (sightOfKind(kind, days[i]) != sights[i]) {
                    return false;
                }
            }
            return true;
        }

        int possibleKinds() {
            int bits = 0;
            for (int kind = 0; kind < Kinds.NUMBER; kind++) {
                if (fits(kind)) {
                    bits |= 1 << kind;
                }
            }
            return bits;
        }

        int bestDay() {
            int possible = possibleKinds();
            int best = NONE;
            int least = Integer.bitCount(possible);
            for (int day = 0; day <= 1; day++) {
                int greatest = greatestPart(possible, day);
                if (greatest < least) {
                    least = greatest;
                    best = day;
                }
            }
            return best;
        }

        private static int greatestPart(int possible, int day) {
            int greatest = 0;
            for (int kind = 0; kind < Kinds.NUMBER; kind++) {
                if ((possible >> kind & 1) != 0) {
                    greatest = Math.max(greatest, alikeTo(kind, possible, day));
                }
            }
            return greatest;
        }

        private static int alikeTo(int kind, int possible, int day) {
            int alike = 0;
            for (int other = 0; other < Kinds.NUMBER; other++) {
                if ((possible >> other & 1) != 0 && sightOfKind(other, day) == sightOfKind(kind, day)) {
                    alike++;
                }
            }
            return alike;
        }
    }

    /** A row of numbers of one sort, or a missing one. Longs hold the ints too: both sorts have the same bounds. */
    private static final class Sheet {
        static final int LIMIT = 10, INTS = 0, LONGS = 1;

        private final long[] places;
        private int sort;
        private int size;

        Sheet() {
            places = new long[LIMIT];
            sort = NONE;
        }

        boolean isMissing() {
            return sort == NONE;
        }

        void begin(int newSort, int newSize) {
            sort = newSort;
            size = Math.max(0, Math.min(newSize, LIMIT));
            for (int i = 0; i < LIMIT; i++) {
                places[i] = 0;
            }
        }

        void lose() {
            sort = NONE;
            size = 0;
        }

        boolean holds(int from, int number) {
            return from >= 0 && from <= size && number >= 0 && number <= size - from;
        }

        long total() {
            long total = 0;
            for (int i = 0; i < size; i++) {
                total += places[i];
            }
            return total;
        }
    }
}
