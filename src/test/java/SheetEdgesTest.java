import java.util.Arrays;

/** Section 4 of the document and promises 25 to 31: each sentence there that names a boundary, with a test of its own. */
public final class SheetEdgesTest {
    private static final Due due = new Due();
    private static final int UNKNOWN = OppositeThreads.UNKNOWN, OUTSIDE = OppositeThreads.OUTSIDE, NULL = OppositeThreads.NULL;
    private static final int SIZE = OppositeThreads.SIZE, CAST = OppositeThreads.CAST, INDEX = OppositeThreads.INDEX;
    private static final int ROOM = OppositeThreads.ROOM;

    public static void main(String[] args) {
        sheetsByNumber();
        missingAtFirst();
        noneToTenPlaces();
        aNewOneOfNoughts();
        placesOfSheet();
        numbersAtPlaces();
        takenAsSort();
        copiesWherePlacesAre();
        copiesBetweenSheets();
        copiesAsIfTakenAhead();
        joinsUpToTen();
        joinsOfOwnSort();
        joinsItself();
        sumsOfAll();
        dropsSheet();
        placesOfAllSheets();
        due.end();
    }

    private static void fill(OppositeThreads x, int sheet, int sort, int... numbers) {
        x.sheet(sheet, sort, numbers.length);
        for (int i = 0; i < numbers.length; i++) {
            x.set(sheet, sort, i, numbers[i]);
        }
    }

    private static int[] row(int first, int length) {
        int[] row = new int[length];
        for (int i = 0; i < length; i++) {
            row[i] = first + i;
        }
        return row;
    }

    private static void has(String what, OppositeThreads x, int sheet, int sort, int... numbers) {
        for (int i = 0; i < numbers.length; i++) {
            due.is(what + ": place " + i, x.get(sheet, sort, i), 50000 + numbers[i]);
        }
        due.is(what + ": no more", x.get(sheet, sort, numbers.length), INDEX);
    }

    // "SHEETS 0 .. 2", "UNKNOWN (no such .. SHEET)"
    private static void sheetsByNumber() {
        for (int sheet = -1; sheet <= 3; sheet++) {
            boolean is = sheet >= 0 && sheet <= 2;
            OppositeThreads x = new OppositeThreads();
            due.is("sheet", x.sheet(sheet, 0, 2), is ? 2 : UNKNOWN);
            due.is("set", x.set(sheet, 0, 1, 5), is ? 50000 : UNKNOWN);
            due.is("get", x.get(sheet, 0, 1), is ? 50005 : UNKNOWN);
            due.is("copy", x.copy(sheet, 1, sheet, 0, 1), is ? 1 : UNKNOWN);
            due.is("join", x.join(sheet, sheet), is ? 4 : UNKNOWN);
            due.is("sum", x.sum(sheet), is ? 500020 : UNKNOWN);
            due.is("drop", x.drop(sheet), is ? 4 : UNKNOWN);
        }
    }

    // "are missing (at first)", "NULL -11 (the SHEET is missing)"
    private static void missingAtFirst() {
        for (int sheet = 0; sheet <= 2; sheet++) {
            OppositeThreads x = new OppositeThreads();
            int other = (sheet + 1) % 3;
            x.sheet(other, 0, 1);
            due.is("set", x.set(sheet, 0, 0, 0), NULL);
            due.is("get", x.get(sheet, 0, 0), NULL);
            due.is("copy from", x.copy(sheet, 0, other, 0, 0), NULL);
            due.is("copy to", x.copy(other, 0, sheet, 0, 0), NULL);
            due.is("copy to itself", x.copy(sheet, 0, sheet, 0, 0), NULL);
            due.is("join", x.join(sheet, other), NULL);
            due.is("join behind", x.join(other, sheet), NULL);
            due.is("join itself", x.join(sheet, sheet), NULL);
            due.is("sum", x.sum(sheet), NULL);
            due.is("drop", x.drop(sheet), NULL);
            due.is("places", x.count(7), 1);
        }
    }

    // "rows of 0 to 10 ints, or of longs", "n noughts (10 at most)", "OUTSIDE (sort; n above 10); SIZE"
    private static void noneToTenPlaces() {
        for (int sort = -1; sort <= 2; sort++) {
            for (int n = -2; n <= 12; n++) {
                OppositeThreads x = new OppositeThreads();
                int want = sort < 0 || sort > 1 || n > 10 ? OUTSIDE : n < 0 ? SIZE : n;
                due.is("sheet(1, " + sort + ", " + n + ")", x.sheet(1, sort, n), want);
                due.is("places", x.count(7), Math.max(0, want));
                due.is("there or missing", x.sum(1), want < 0 ? NULL : 500000);
            }
        }
    }

    // "A SHEET is a new one of n noughts"
    private static void aNewOneOfNoughts() {
        for (int sort = 0; sort <= 1; sort++) {
            for (int n = 0; n <= 10; n++) {
                OppositeThreads x = new OppositeThreads();
                fill(x, 0, 1 - sort, row(1, 10));
                due.is("a new one", x.sheet(0, sort, n), n);
                has("of noughts", x, 0, sort, new int[n]);
                due.is("of this sort alone", x.get(0, 1 - sort, 0), CAST);
                due.is("sum", x.sum(0), 500000);
            }
        }
        OppositeThreads x = new OppositeThreads();
        fill(x, 0, 0, row(1, 10));
        x.sheet(0, 0, 2);
        fill(x, 1, 0, 7);
        x.join(0, 1);
        x.drop(1);
        x.sheet(1, 0, 4);
        x.join(0, 1);
        has("what was there comes back nowhere", x, 0, 0, 0, 0, 7, 0, 0, 0, 0);
    }

    // "INDEX -14 (there is no such place ..)"
    private static void placesOfSheet() {
        for (int sort = 0; sort <= 1; sort++) {
            for (int n = 0; n <= 10; n++) {
                OppositeThreads x = new OppositeThreads();
                fill(x, 2, sort, row(100, n));
                for (int i = -2; i <= 12; i++) {
                    boolean is = i >= 0 && i < n;
                    due.is("get(2, sort, " + i + ") of " + n, x.get(2, sort, i), is ? 50100 + i : INDEX);
                    due.is("set(2, sort, " + i + ", 3) of " + n, x.set(2, sort, i, 3), is ? 50100 + i : INDEX);
                }
                int[] threes = new int[n];
                Arrays.fill(threes, 3);
                has("all set", x, 2, sort, threes);
            }
        }
    }

    // "v (-9999 .. 9999)", "what was there, and 50000 more"
    private static void numbersAtPlaces() {
        int[] numbers = {-9999, -9998, -1, 0, 1, 9998, 9999};
        for (int sort = 0; sort <= 1; sort++) {
            OppositeThreads x = new OppositeThreads();
            x.sheet(0, sort, 10);
            int was = 0;
            for (int v : numbers) {
                due.is("set " + v, x.set(0, sort, 9, v), 50000 + was);
                due.is("get " + v, x.get(0, sort, 9), 50000 + v);
                due.is("sum " + v, x.sum(0), 500000 + v);
                due.is("set -10000", x.set(0, sort, 9, -10000), OUTSIDE);
                due.is("set 10000", x.set(0, sort, 9, 10000), OUTSIDE);
                was = v;
            }
            due.is("the place before", x.get(0, sort, 8), 50000);
        }
    }

    // "taken as one of a sort (0, 1)", "CAST -13 (it is of the other sort ..)"
    private static void takenAsSort() {
        for (int of = 0; of <= 1; of++) {
            OppositeThreads x = new OppositeThreads();
            x.sheet(0, of, 1);
            for (int sort = -1; sort <= 2; sort++) {
                int refused = sort < 0 || sort > 1 ? OUTSIDE : CAST;
                due.is("set as " + sort, x.set(0, sort, 0, 1), sort == of ? 50000 : refused);
                due.is("get as " + sort, x.get(0, sort, 0), sort == of ? 50001 : refused);
                due.is("set of no place as " + sort, x.set(0, sort, 1, 1), sort == of ? INDEX : refused);
                due.is("get of no place as " + sort, x.get(0, sort, 1), sort == of ? INDEX : refused);
            }
            x.sheet(1, of, 0);
            due.is("an empty one is of a sort too", x.get(1, 1 - of, 0), CAST);
            due.is("and has no place", x.get(1, of, 0), INDEX);
        }
    }

    private static boolean fits(int size, int from, int number) {
        return from >= 0 && from + number <= size;
    }

    // "n places of a SHEET from i on come to those of .. itself from j on", "INDEX (.. not so many)"
    private static void copiesWherePlacesAre() {
        for (int size : new int[] {0, 1, 4, 10}) {
            for (int i = -1; i <= size + 1; i++) {
                for (int j = -1; j <= size + 1; j++) {
                    for (int n = -1; n <= size + 1; n++) {
                        copyInItself(size, i, j, n);
                    }
                }
            }
        }
    }

    private static void copyInItself(int size, int i, int j, int n) {
        OppositeThreads x = new OppositeThreads();
        int[] before = row(1, size);
        fill(x, 1, 1, before);
        boolean is = n >= 0 && fits(size, i, n) && fits(size, j, n);
        String call = "copy(1, " + i + ", 1, " + j + ", " + n + ") of " + size;
        due.is(call, x.copy(1, i, 1, j, n), n < 0 ? SIZE : is ? n : INDEX);
        int[] then = before.clone();
        for (int k = 0; is && k < n; k++) {
            then[j + k] = before[i + k];
        }
        has(call, x, 1, 1, then);
    }

    // ".. come to those of another one", "CAST: they are of unlike sorts"
    private static void copiesBetweenSheets() {
        for (int from = 0; from <= 10; from += 5) {
            for (int to = 0; to <= 10; to += 5) {
                for (int n = 0; n <= 11; n++) {
                    OppositeThreads x = new OppositeThreads();
                    fill(x, 0, 0, row(1, from));
                    fill(x, 2, 0, row(100, to));
                    fill(x, 1, 1, row(100, to));
                    boolean is = n <= from && n <= to;
                    due.is("copy of " + n + " from " + from + " to " + to, x.copy(0, from - n, 2, to - n, n), is ? n : INDEX);
                    due.is("to another sort", x.copy(0, from - n, 1, to - n, n), CAST);
                    due.is("fewer than none", x.copy(0, 0, 1, 0, -1), SIZE);
                    int[] then = row(100, to);
                    for (int k = 0; is && k < n; k++) {
                        then[to - n + k] = 1 + from - n + k;
                    }
                    has("copied to", x, 2, 0, then);
                    has("copied from", x, 0, 0, row(1, from));
                    has("of another sort", x, 1, 1, row(100, to));
                }
            }
        }
        OppositeThreads x = new OppositeThreads();
        fill(x, 0, 0, 1, 2);
        fill(x, 1, 0, 3, 4);
        x.copy(0, 0, 1, 0, 2);
        x.set(0, 0, 0, 9);
        has("what was copied is its own", x, 1, 0, 1, 2);
    }

    // "as if taken ahead"
    private static void copiesAsIfTakenAhead() {
        OppositeThreads x = new OppositeThreads();
        fill(x, 0, 0, row(1, 10));
        due.is("one up", x.copy(0, 0, 0, 1, 9), 9);
        has("one up", x, 0, 0, 1, 1, 2, 3, 4, 5, 6, 7, 8, 9);
        fill(x, 0, 0, row(1, 10));
        due.is("one down", x.copy(0, 1, 0, 0, 9), 9);
        has("one down", x, 0, 0, 2, 3, 4, 5, 6, 7, 8, 9, 10, 10);
        due.is("where it is", x.copy(0, 0, 0, 0, 10), 10);
        has("where it is", x, 0, 0, 2, 3, 4, 5, 6, 7, 8, 9, 10, 10);
    }

    // "ROOM -15 (there would be more than 10)", "how many places it has"
    private static void joinsUpToTen() {
        for (int front = 0; front <= 10; front++) {
            for (int rear = 0; rear <= 10; rear++) {
                OppositeThreads x = new OppositeThreads();
                fill(x, 0, front % 2, row(1, front));
                fill(x, 1, rear % 2, row(100, rear));
                boolean is = front + rear <= 10;
                due.is("join of " + front + " and " + rear, x.join(0, 1), is ? front + rear : ROOM);
                int[] then = Arrays.copyOf(row(1, front), is ? front + rear : front);
                for (int k = front; k < then.length; k++) {
                    then[k] = 100 + k - front;
                }
                has("joined", x, 0, front % 2, then);
                has("the other one", x, 1, rear % 2, row(100, rear));
            }
        }
    }

    // "of its own sort (numbers told as of that sort)"
    private static void joinsOfOwnSort() {
        for (int sort = 0; sort <= 1; sort++) {
            OppositeThreads x = new OppositeThreads();
            fill(x, 0, sort, -9999, 1);
            fill(x, 1, 1 - sort, 9999, -9999);
            due.is("unlike sorts are joined", x.join(0, 1), 4);
            has("of its own sort", x, 0, sort, -9999, 1, 9999, -9999);
            due.is("and not of the other", x.get(0, 1 - sort, 2), CAST);
            due.is("its new places are set", x.set(0, sort, 3, 4), 40001);
            has("the other stays as it was", x, 1, 1 - sort, 9999, -9999);
            x.sheet(2, 1 - sort, 0);
            due.is("an empty one takes them", x.join(2, 0), 4);
            has("as of its sort", x, 2, 1 - sort, -9999, 1, 9999, 4);
        }
    }

    // "what another one (or itself) is behind it"
    private static void joinsItself() {
        for (int n = 0; n <= 10; n++) {
            OppositeThreads x = new OppositeThreads();
            fill(x, 0, 1, row(1, n));
            due.is("join itself of " + n, x.join(0, 0), n <= 5 ? 2 * n : ROOM);
            int[] then = Arrays.copyOf(row(1, n), n <= 5 ? 2 * n : n);
            for (int k = n; k < then.length; k++) {
                then[k] = 1 + k - n;
            }
            has("itself twice", x, 0, 1, then);
        }
    }

    // "All numbers of a SHEET together, and 500000 more"
    private static void sumsOfAll() {
        for (int sort = 0; sort <= 1; sort++) {
            for (int n = 0; n <= 10; n++) {
                OppositeThreads x = new OppositeThreads();
                int[] most = new int[n];
                Arrays.fill(most, 9999);
                fill(x, 0, sort, most);
                due.is("sum of " + n, x.sum(0), 500000 + 9999 * n);
                Arrays.fill(most, -9999);
                fill(x, 1, sort, most);
                due.is("sum below of " + n, x.sum(1), 500000 - 9999 * n);
            }
        }
        OppositeThreads x = new OppositeThreads();
        fill(x, 0, 0, row(1, 10));
        x.sheet(0, 0, 1);
        due.is("what is there no more is not in it", x.sum(0), 500000);
    }

    // "A SHEET is missing from now on: how many places it had"
    private static void dropsSheet() {
        for (int n = 0; n <= 10; n++) {
            OppositeThreads x = new OppositeThreads();
            x.sheet(0, 0, n);
            x.sheet(1, 1, 3);
            due.is("drop of " + n, x.drop(0), n);
            due.is("drop again", x.drop(0), NULL);
            due.is("get", x.get(0, 0, 0), NULL);
            due.is("join", x.join(1, 0), NULL);
            due.is("the other stays", x.count(7), 3);
            due.is("a new one", x.sheet(0, 1, n), n);
            has("of noughts", x, 0, 1, new int[n]);
        }
    }

    // "7 places of all SHEETS"
    private static void placesOfAllSheets() {
        OppositeThreads x = new OppositeThreads();
        due.is("none", x.count(7), 0);
        for (int sheet = 0; sheet <= 2; sheet++) {
            x.sheet(sheet, sheet % 2, 10);
            due.is("places", x.count(7), 10 * (sheet + 1));
        }
        x.sheet(1, 1, 2);
        due.is("a lesser one", x.count(7), 22);
        x.join(1, 1);
        due.is("joined", x.count(7), 24);
        x.drop(2);
        due.is("dropped", x.count(7), 14);
        x.day(1);
        x.undo();
        due.is("days leave them", x.count(7), 14);
    }
}
