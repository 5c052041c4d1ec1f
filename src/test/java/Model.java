import java.math.BigInteger;
import java.util.ArrayDeque;
import java.util.ArrayList;
import java.util.Deque;
import java.util.List;
import java.util.TreeMap;
import java.util.regex.Matcher;
import java.util.regex.Pattern;

/**
 * The document once more, written another way (men are objects of classes over one another, sheets are real
 * arrays, odds are walked through shot by shot), so that a slip in the one shows against the other.
 */
final class Model {
    static final int NONE = -1, UNKNOWN = -2, OUTSIDE = -3, NOT = -4, FULL = -5;
    static final int NULL = -11, SIZE = -12, CAST = -13, INDEX = -14, ROOM = -15;

    abstract static class Man {
        int number, buttons = 3, mender;

        abstract int kind();

        abstract Man choose(List<Man> open, int day);

        int hit() {
            return 1;
        }

        Man like() {
            Man m = make(kind());
            m.number = number;
            m.buttons = buttons;
            m.mender = mender;
            return m;
        }
    }

    static class Plain extends Man {
        int kind() {
            return 0;
        }

        Man choose(List<Man> open, int day) {
            return open.get(0);
        }
    }

    static class Sailor extends Plain {
        int kind() {
            return 1;
        }

        Man choose(List<Man> open, int day) {
            return open.get(open.size() - 1);
        }
    }

    static class Sniper extends Plain {
        int kind() {
            return 2;
        }

        int hit() {
            return super.hit() + 1;
        }
    }

    static class Corporal extends Man {
        int kind() {
            return 3;
        }

        Man choose(List<Man> open, int day) {
            Man best = open.get(0);
            for (Man m : open) {
                best = m.buttons > best.buttons ? m : best;
            }
            return best;
        }
    }

    static class Drummer extends Corporal {
        int kind() {
            return 4;
        }

        Man choose(List<Man> open, int day) {
            return day % 2 == 0 ? null : super.choose(open, day);
        }
    }

    static Man make(int kind) {
        switch (kind) {
            case 0: return new Plain();
            case 1: return new Sailor();
            case 2: return new Sniper();
            case 3: return new Corporal();
            default: return new Drummer();
        }
    }

    static final class Field {
        final List<Man> men = new ArrayList<>();
        int day;

        static Field first(int n) {
            Field f = new Field();
            for (int i = 0; i < 2 * n; i++) {
                Man m = make(0);
                m.number = i;
                m.mender = (i + n) % (2 * n);
                f.men.add(m);
            }
            return f;
        }

        Field like() {
            Field f = new Field();
            f.day = day;
            for (Man m : men) {
                f.men.add(m.like());
            }
            return f;
        }

        int n() {
            return men.size() / 2;
        }

        int side(int m) {
            return m / n();
        }

        Man aim(Man m) {
            List<Man> open = new ArrayList<>();
            for (Man o : men) {
                if (side(o.number) != side(m.number) && o.buttons > 0 && o.number != m.mender) {
                    open.add(o);
                }
            }
            return m.buttons == 0 || open.isEmpty() ? null : m.choose(open, day + 1);
        }

        Field next() {
            Field f = like();
            f.day++;
            for (Man m : men) {
                Man at = aim(m);
                if (at != null) {
                    f.men.get(at.number).buttons -= m.hit();
                }
            }
            for (Man m : f.men) {
                m.buttons = m.buttons < 0 ? 0 : m.buttons;
            }
            if (f.day % 4 != 0) {
                return f;
            }
            Field g = f.like();
            for (Man m : f.men) {
                if (m.buttons > 0 && f.men.get(m.mender).buttons > 0 && m.buttons < 6) {
                    g.men.get(m.number).buttons++;
                }
            }
            return g;
        }

        Field behind(int days) {
            return days == 0 ? this : next().behind(days - 1);
        }

        int left(int side) {
            return (int) men.stream().filter(m -> side(m.number) == side && m.buttons > 0).count();
        }

        int left() {
            return left(0) + left(1);
        }

        boolean has(int m) {
            return m >= 0 && m < men.size();
        }

        int aimers() {
            return (int) men.stream().filter(m -> aim(m) != null).count();
        }
    }

    Field told = Field.first(2), now = told.like(), draft;
    StringBuilder text = new StringBuilder();
    Deque<Field> undo = new ArrayDeque<>();
    Field[] kept = new Field[2];
    List<int[]> seen = new ArrayList<>();
    Object[] sheets = new Object[3];
    int clauses;

    int write(int letter) {
        if (letter < 0 || letter > 255) return OUTSIDE;
        if (text.length() == 200) return FULL;
        return text.append((char) letter).length();
    }

    int erase() {
        int had = text.length();
        text = new StringBuilder();
        return had;
    }

    /** Tokens, each with its place, and an end that is none of them. */
    int fault() {
        List<String> tokens = new ArrayList<>();
        List<Integer> places = new ArrayList<>();
        Matcher m = Pattern.compile("[a-z]+|[0-9]+|[^ ]", Pattern.DOTALL).matcher(text);
        while (m.find()) {
            tokens.add(m.group());
            places.add(m.start());
        }
        tokens.add("END");
        places.add(text.length());
        draft = told.like();
        draft.day = 0;
        clauses = 0;
        int at = 0;
        List<String> words = List.of("plain", "sailor", "sniper", "corporal", "drummer");
        while (true) {
            String word = tokens.get(at);
            if (word.equals("army")) {
                int n = number(tokens.get(at + 1));
                if (n < 1 || n > 4) return places.get(at + 1);
                draft = Field.first(n);
                at += 2;
            } else if (words.contains(word) || word.equals("buttons") || word.equals("mender")) {
                int man = number(tokens.get(at + 1));
                if (!draft.has(man)) return places.get(at + 1);
                if (words.contains(word)) {
                    Man old = draft.men.get(man), fresh = make(words.indexOf(word));
                    fresh.number = man;
                    fresh.buttons = old.buttons;
                    fresh.mender = old.mender;
                    draft.men.set(man, fresh);
                    at += 2;
                } else {
                    int v = number(tokens.get(at + 2));
                    boolean fits = word.equals("buttons") ? v >= 0 && v <= 6 : draft.has(v) && draft.side(v) != draft.side(man);
                    if (!fits) return places.get(at + 2);
                    if (word.equals("buttons")) draft.men.get(man).buttons = v;
                    else draft.men.get(man).mender = v;
                    at += 3;
                }
            } else {
                return places.get(at);
            }
            clauses++;
            if (tokens.get(at).equals("END")) return NONE;
            if (!tokens.get(at).equals(";") || clauses == 24) return places.get(at);
            at++;
        }
    }

    private static int number(String token) {
        return token.matches("[0-9]{1,2}") ? Integer.parseInt(token) : -1;
    }

    int army() {
        if (fault() != NONE) return NOT;
        told = draft;
        now = told.like();
        erase();
        undo.clear();
        kept = new Field[2];
        seen.clear();
        sheets = new Object[3];
        return clauses;
    }

    int man(int man, int what) {
        if (!now.has(man)) return UNKNOWN;
        Man m = now.men.get(man);
        switch (what) {
            case 0: return m.kind();
            case 1: return m.buttons;
            case 2: return m.mender;
            case 3: return now.aim(m) == null ? NONE : now.aim(m).number;
            case 4: return m.hit();
            case 5: return now.men.stream().filter(o -> o.mender == man).mapToInt(o -> 1 << o.number).sum();
            default: return OUTSIDE;
        }
    }

    int as(int man, int kind) {
        if (!now.has(man)) return UNKNOWN;
        Class<?>[] kinds = {Man.class, Plain.class, Sailor.class, Sniper.class, Corporal.class, Drummer.class};
        if (kind < 0 || kind >= kinds.length) return OUTSIDE;
        return kinds[kind].isInstance(now.men.get(man)) ? now.men.get(man).hit() : NOT;
    }

    private void remember() {
        undo.push(now.like());
        if (undo.size() > 8) undo.removeLast();
    }

    int day(int n) {
        if (n < 1 || n > 9) return OUTSIDE;
        if (now.day + n > 999) return FULL;
        remember();
        now = now.behind(n);
        return now.day;
    }

    int mend(int man, int s) {
        if (!now.has(man) || !now.has(s) || man == s) return UNKNOWN;
        int was = now.men.get(man).mender;
        if (now.side(man) == now.side(s) || was == s) return NOT;
        remember();
        now.men.get(man).mender = s;
        return was;
    }

    int swap(int man, int other) {
        if (!now.has(man) || !now.has(other) || man == other) return UNKNOWN;
        Man a = now.men.get(man), b = now.men.get(other);
        if (now.side(man) != now.side(other) || a.mender == b.mender) return NOT;
        remember();
        int was = a.mender;
        a.mender = b.mender;
        b.mender = was;
        return a.mender;
    }

    int undo() {
        if (undo.isEmpty()) return NOT;
        now = undo.pop();
        return undo.size();
    }

    int keep(int k) {
        if (k != 0 && k != 1) return UNKNOWN;
        kept[k] = now.like();
        return now.day;
    }

    int back(int k) {
        if (k != 0 && k != 1) return UNKNOWN;
        if (kept[k] == null) return NOT;
        now = kept[k].like();
        undo.clear();
        return now.day;
    }

    int behind(int man, int n) {
        if (!now.has(man)) return UNKNOWN;
        return n < 0 || n > 60 ? OUTSIDE : now.behind(n).men.get(man).buttons;
    }

    int home(int man) {
        if (!now.has(man)) return UNKNOWN;
        Field f = now;
        for (int d = 0; d <= 60; d++, f = f.next()) {
            if (f.men.get(man).buttons == 0) return d;
        }
        return NONE;
    }

    int quiet() {
        Field f = now;
        for (int d = 0; d <= 60; d++, f = f.next()) {
            if (f.aimers() == 0) return d;
        }
        return NONE;
    }

    int left(int side, int n) {
        if (side != 0 && side != 1) return UNKNOWN;
        return n < 0 || n > 60 ? OUTSIDE : now.behind(n).left(side);
    }

    int coat(int n) {
        if (n < 1 || n > 20) return OUTSIDE;
        TreeMap<Integer, Integer> byLeft = new TreeMap<>();
        for (int m = 2 * now.n() - 1; m >= 0; m--) {
            for (int s = 2 * now.n() - 1; s >= 0; s--) {
                if (now.side(m) != now.side(s) && now.men.get(m).mender != s) {
                    Field f = now.like();
                    f.men.get(m).mender = s;
                    byLeft.merge(f.behind(n).left(), 10 * m + s, Math::min);
                }
            }
        }
        if (byLeft.isEmpty() || byLeft.lastKey() <= now.behind(n).left()) return NONE;
        return byLeft.lastEntry().getValue();
    }

    private int[] best;
    private int most;

    private void permute(int side, int n, List<Integer> chosen) {
        int size = now.n();
        if (chosen.size() == size) {
            Field f = now.like();
            for (int i = 0; i < size; i++) f.men.get(side * size + i).mender = chosen.get(i);
            int left = f.behind(n).left();
            if (left > most) {
                most = left;
                best = chosen.stream().mapToInt(i -> i).toArray();
            }
            return;
        }
        for (int s = (1 - side) * size; s < (2 - side) * size; s++) {
            if (!chosen.contains(s)) {
                List<Integer> more = new ArrayList<>(chosen);
                more.add(s);
                permute(side, n, more);
            }
        }
    }

    int pairs(int side, int n, int k) {
        if (side != 0 && side != 1) return UNKNOWN;
        if (n < 1 || n > 20 || k < -1 || k >= now.n()) return OUTSIDE;
        most = -1;
        permute(side, n, new ArrayList<>());
        return k == -1 ? most : best[k];
    }

    /** The odds, in shares of ten to the number of those who aim, walked through one shot at a time. */
    private static BigInteger stay(List<Man> shots, int at, int buttons, int q) {
        if (buttons <= 0) return BigInteger.ZERO;
        if (at == shots.size()) return BigInteger.ONE;
        return stay(shots, at + 1, buttons, q).multiply(BigInteger.valueOf(q))
            .add(stay(shots, at + 1, buttons - shots.get(at).hit(), q).multiply(BigInteger.valueOf(10 - q)));
    }

    int keeps(int man, int q, int part) {
        if (!now.has(man)) return UNKNOWN;
        if (q < 0 || q > 10 || part < 0 || part > 1) return OUTSIDE;
        Man m = now.men.get(man);
        if (m.buttons == 0) return NOT;
        List<Man> shots = new ArrayList<>();
        for (Man o : now.men) {
            if (now.aim(o) == m) shots.add(o);
        }
        BigInteger above = stay(shots, 0, m.buttons, q), below = BigInteger.TEN.pow(shots.size());
        BigInteger common = above.gcd(below);
        return (part == 0 ? above : below).divide(common).intValueExact();
    }

    int seen(int day, int w, int h) {
        if (day < 0 || day > 1 || w < 0 || w > 3 || h < 0 || h > 3) return OUTSIDE;
        if (seen.size() == 6) return FULL;
        seen.add(new int[] {day, w, h});
        return seen.size();
    }

    int forget() {
        int had = seen.size();
        seen.clear();
        return had;
    }

    /** One of a kind before three open ones: the least, the fullest, the greatest number. */
    private static String sight(int kind, int day) {
        List<Man> open = new ArrayList<>();
        for (int b : new int[] {1, 2, 1}) {
            Man o = make(0);
            o.number = open.size();
            o.buttons = b;
            open.add(o);
        }
        Man m = make(kind), at = m.choose(open, day == 1 ? 2 : 1);
        if (at == null) return "0 0";
        return new int[] {1, 3, 2}[at.number] + " " + m.hit();
    }

    int kinds() {
        int bits = 0;
        for (int kind = 0; kind < 5; kind++) {
            boolean fits = true;
            for (int[] s : seen) fits &= sight(kind, s[0]).equals(s[1] + " " + s[2]);
            bits |= fits ? 1 << kind : 0;
        }
        return bits;
    }

    int ask() {
        int[] greatest = new int[2];
        for (int day = 0; day < 2; day++) {
            TreeMap<String, Integer> parts = new TreeMap<>();
            for (int kind = 0; kind < 5; kind++) {
                if ((kinds() >> kind & 1) == 1) parts.merge(sight(kind, day), 1, Integer::sum);
            }
            greatest[day] = parts.values().stream().mapToInt(i -> i).max().orElse(0);
        }
        int day = greatest[1] < greatest[0] ? 1 : 0;
        return greatest[day] == Integer.bitCount(kinds()) ? NONE : day;
    }

    private static boolean sheetIs(int s) {
        return s >= 0 && s <= 2;
    }

    private static int length(Object row) {
        return row == null ? 0 : java.lang.reflect.Array.getLength(row);
    }

    int sheet(int s, int sort, int n) {
        if (!sheetIs(s)) return UNKNOWN;
        if (sort < 0 || sort > 1 || n > 10) return OUTSIDE;
        if (n < 0) return SIZE;
        sheets[s] = sort == 0 ? (Object) new int[n] : new long[n];
        return n;
    }

    private int refused(int s, int sort) {
        if (sheets[s] == null) return NULL;
        return (sheets[s] instanceof int[]) != (sort == 0) ? CAST : 0;
    }

    int set(int s, int sort, int i, int v) {
        if (!sheetIs(s)) return UNKNOWN;
        if (sort < 0 || sort > 1 || v < -9999 || v > 9999) return OUTSIDE;
        int was = get(s, sort, i);
        if (was < 0) return was;
        if (sort == 0) ((int[]) sheets[s])[i] = v;
        else ((long[]) sheets[s])[i] = v;
        return was;
    }

    int get(int s, int sort, int i) {
        if (!sheetIs(s)) return UNKNOWN;
        if (sort < 0 || sort > 1) return OUTSIDE;
        if (refused(s, sort) != 0) return refused(s, sort);
        if (i < 0 || i >= length(sheets[s])) return INDEX;
        return 50000 + (int) java.lang.reflect.Array.getLong(sheets[s], i);
    }

    int copy(int from, int i, int to, int j, int n) {
        if (!sheetIs(from) || !sheetIs(to)) return UNKNOWN;
        if (sheets[from] == null || sheets[to] == null) return NULL;
        if (n < 0) return SIZE;
        if (sheets[from].getClass() != sheets[to].getClass()) return CAST;
        try {
            System.arraycopy(sheets[from], i, sheets[to], j, n);
        } catch (IndexOutOfBoundsException e) {
            return INDEX;
        }
        return n;
    }

    int join(int s, int other) {
        if (!sheetIs(s) || !sheetIs(other)) return UNKNOWN;
        if (sheets[s] == null || sheets[other] == null) return NULL;
        int a = length(sheets[s]), b = length(sheets[other]);
        if (a + b > 10) return ROOM;
        Object row = sheets[s] instanceof int[] ? (Object) new int[a + b] : new long[a + b];
        for (int i = 0; i < a + b; i++) {
            long v = i < a ? java.lang.reflect.Array.getLong(sheets[s], i) : java.lang.reflect.Array.getLong(sheets[other], i - a);
            if (row instanceof int[]) ((int[]) row)[i] = (int) v;
            else ((long[]) row)[i] = v;
        }
        sheets[s] = row;
        return a + b;
    }

    int sum(int s) {
        if (!sheetIs(s)) return UNKNOWN;
        if (sheets[s] == null) return NULL;
        long all = 500000;
        for (int i = 0; i < length(sheets[s]); i++) all += java.lang.reflect.Array.getLong(sheets[s], i);
        return (int) all;
    }

    int drop(int s) {
        if (!sheetIs(s)) return UNKNOWN;
        if (sheets[s] == null) return NULL;
        int had = length(sheets[s]);
        sheets[s] = null;
        return had;
    }

    int count(int what) {
        switch (what) {
            case 0: return now.n();
            case 1: return now.day;
            case 2: return now.men.stream().filter(m -> m.buttons > 0).mapToInt(m -> 1 << m.number).sum();
            case 3: return now.men.stream().filter(m -> now.side(m.number) == 0).mapToInt(m -> m.buttons).sum();
            case 4: return now.men.stream().filter(m -> now.side(m.number) == 1).mapToInt(m -> m.buttons).sum();
            case 5: return now.aimers();
            case 6: return seen.size();
            case 7: return length(sheets[0]) + length(sheets[1]) + length(sheets[2]);
            case 8: return undo.size();
            case 9: return text.length();
            default: return OUTSIDE;
        }
    }
}
