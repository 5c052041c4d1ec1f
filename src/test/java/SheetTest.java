/** Promises 25 to 31: sheet, set, get, copy, join, sum, drop. */
public final class SheetTest {
    private static final Due due = new Due();
    private static final int MAX = Integer.MAX_VALUE, MIN = Integer.MIN_VALUE;

    public static void main(String[] args) {
        newSheets();
        setsAndGets();
        copies();
        copyRefused();
        joins();
        sumsAndDrops();
        due.end();
    }

    private static void newSheets() {
        OppositeThreads x = new OppositeThreads();
        due.is("sheet(0, 0, 10)", x.sheet(0, 0, 10), 10);
        due.is("sheet(1, 1, 0)", x.sheet(1, 1, 0), 0);
        due.is("sheet(3, 2, 11)", x.sheet(3, 2, 11), OppositeThreads.UNKNOWN);
        due.is("sheet(-1, 0, 1)", x.sheet(-1, 0, 1), OppositeThreads.UNKNOWN);
        due.is("sheet(0, 2, -1)", x.sheet(0, 2, -1), OppositeThreads.OUTSIDE);
        due.is("sheet(0, -1, 1)", x.sheet(0, -1, 1), OppositeThreads.OUTSIDE);
        due.is("sheet(0, 0, 11)", x.sheet(0, 0, 11), OppositeThreads.OUTSIDE);
        due.is("sheet(0, 0, -1)", x.sheet(0, 0, -1), OppositeThreads.SIZE);
        due.is("sheet(0, 0, MIN)", x.sheet(0, 0, MIN), OppositeThreads.SIZE);
        due.is("places", x.count(7), 10);
        x.set(0, 0, 0, 76);
        x.set(0, 0, 3, 77);
        due.is("a new one", x.sheet(0, 0, 5), 5);
        has("of noughts", x, 0, 0, 0, 0, 0, 0, 0);
        due.is("of the other sort", x.sheet(0, 1, 5), 5);
        due.is("is of that", x.get(0, 1, 3), 50000);
        due.is("an empty one is not missing", x.sum(1), 500000);
        due.is("but has no place", x.get(1, 1, 0), OppositeThreads.INDEX);
    }

    private static void setsAndGets() {
        OppositeThreads x = new OppositeThreads();
        due.is("set of a missing one", x.set(0, 0, 99, 1), OppositeThreads.NULL);
        due.is("get of a missing one", x.get(0, 1, -1), OppositeThreads.NULL);
        due.is("set outside of a missing one", x.set(0, 0, 0, 10000), OppositeThreads.OUTSIDE);
        x.sheet(0, 1, 3);
        due.is("set(0, 1, 2, 9999)", x.set(0, 1, 2, 9999), 50000);
        due.is("set(0, 1, 2, -9999)", x.set(0, 1, 2, -9999), 59999);
        due.is("set(0, 1, 2, 0)", x.set(0, 1, 2, 0), 40001);
        due.is("get(0, 1, 2)", x.get(0, 1, 2), 50000);
        due.is("set: cast ahead of index", x.set(0, 0, 3, 1), OppositeThreads.CAST);
        due.is("get: cast ahead of index", x.get(0, 0, 3), OppositeThreads.CAST);
        due.is("set: index", x.set(0, 1, 3, 1), OppositeThreads.INDEX);
        due.is("set: index below", x.set(0, 1, -1, 1), OppositeThreads.INDEX);
        due.is("get: index", x.get(0, 1, MAX), OppositeThreads.INDEX);
        due.is("get: index below", x.get(0, 1, MIN), OppositeThreads.INDEX);
        due.is("set: sort", x.set(0, 2, 0, 1), OppositeThreads.OUTSIDE);
        due.is("set: sort below", x.set(0, -1, 0, 1), OppositeThreads.OUTSIDE);
        due.is("get: sort", x.get(0, 2, 0), OppositeThreads.OUTSIDE);
        due.is("set: number above", x.set(0, 1, 0, 10000), OppositeThreads.OUTSIDE);
        due.is("set: number below", x.set(0, 1, 0, -10000), OppositeThreads.OUTSIDE);
        due.is("set: number outside ahead of cast", x.set(0, 0, 0, 10000), OppositeThreads.OUTSIDE);
        due.is("set: no such sheet", x.set(3, 2, 0, 10000), OppositeThreads.UNKNOWN);
        due.is("get: no such sheet", x.get(-1, 2, 0), OppositeThreads.UNKNOWN);
        due.is("nothing was set", x.sum(0), 500000);
    }

    private static void fill(OppositeThreads x, int sheet, int sort, int... numbers) {
        x.sheet(sheet, sort, numbers.length);
        for (int i = 0; i < numbers.length; i++) {
            x.set(sheet, sort, i, numbers[i]);
        }
    }

    private static void has(String what, OppositeThreads x, int sheet, int sort, int... numbers) {
        for (int i = 0; i < numbers.length; i++) {
            due.is(what + ": place " + i, x.get(sheet, sort, i), 50000 + numbers[i]);
        }
        due.is(what + ": no more", x.get(sheet, sort, numbers.length), OppositeThreads.INDEX);
    }

    private static void copies() {
        OppositeThreads x = new OppositeThreads();
        fill(x, 0, 0, 1, 2, 3, 4, 5);
        fill(x, 1, 0, -1, -2, -3);
        due.is("copy to another", x.copy(0, 1, 1, 0, 2), 2);
        has("copied to", x, 1, 0, 2, 3, -3);
        has("copied from", x, 0, 0, 1, 2, 3, 4, 5);
        due.is("copy upwards in itself", x.copy(0, 0, 0, 1, 4), 4);
        has("upwards", x, 0, 0, 1, 1, 2, 3, 4);
        due.is("copy downwards in itself", x.copy(0, 1, 0, 0, 4), 4);
        has("downwards", x, 0, 0, 1, 2, 3, 4, 4);
        due.is("copy of none at the end", x.copy(0, 5, 1, 3, 0), 0);
        fill(x, 2, 1, 7, 8);
        due.is("copy of longs", x.copy(2, 0, 2, 1, 1), 1);
        has("longs", x, 2, 1, 7, 7);
        x.sheet(2, 0, 0);
        due.is("copy of an empty one", x.copy(2, 0, 2, 0, 0), 0);
    }

    private static void copyRefused() {
        OppositeThreads x = new OppositeThreads();
        fill(x, 0, 0, 1, 2, 3);
        fill(x, 1, 1, 4, 5);
        due.is("from: unknown", x.copy(3, 0, 2, 0, -1), OppositeThreads.UNKNOWN);
        due.is("to: unknown", x.copy(2, 0, -1, 0, -1), OppositeThreads.UNKNOWN);
        due.is("from: missing", x.copy(2, 0, 0, 0, -1), OppositeThreads.NULL);
        due.is("to: missing", x.copy(0, 0, 2, 0, -1), OppositeThreads.NULL);
        due.is("fewer than none", x.copy(0, 9, 1, 9, -1), OppositeThreads.SIZE);
        due.is("unlike sorts", x.copy(0, 9, 1, 9, 9), OppositeThreads.CAST);
        due.is("unlike sorts, none", x.copy(0, 0, 1, 0, 0), OppositeThreads.CAST);
        due.is("from below", x.copy(0, -1, 0, 0, 1), OppositeThreads.INDEX);
        due.is("to below", x.copy(0, 0, 0, -1, 1), OppositeThreads.INDEX);
        due.is("from above", x.copy(0, 4, 0, 0, 0), OppositeThreads.INDEX);
        due.is("to above", x.copy(0, 0, 0, 4, 0), OppositeThreads.INDEX);
        due.is("not so many there", x.copy(0, 1, 0, 0, 3), OppositeThreads.INDEX);
        due.is("not so many here", x.copy(0, 0, 0, 1, 3), OppositeThreads.INDEX);
        due.is("far too many", x.copy(0, 1, 0, 1, MAX), OppositeThreads.INDEX);
        due.is("far off", x.copy(0, MAX, 0, MAX, 1), OppositeThreads.INDEX);
        due.is("far below", x.copy(0, MIN, 0, MIN, MAX), OppositeThreads.INDEX);
        has("nothing changed", x, 0, 0, 1, 2, 3);
    }

    private static void joins() {
        OppositeThreads x = new OppositeThreads();
        due.is("join of missing ones", x.join(0, 1), OppositeThreads.NULL);
        fill(x, 0, 0, 1, 2, 3);
        due.is("other one missing", x.join(0, 1), OppositeThreads.NULL);
        due.is("first one missing", x.join(1, 0), OppositeThreads.NULL);
        fill(x, 1, 1, -4, 9999);
        due.is("join(0, 1)", x.join(0, 1), 5);
        has("longs as ints", x, 0, 0, 1, 2, 3, -4, 9999);
        has("the other stays", x, 1, 1, -4, 9999);
        due.is("join(1, 0)", x.join(1, 0), 7);
        has("ints as longs", x, 1, 1, -4, 9999, 1, 2, 3, -4, 9999);
        due.is("join with itself", x.join(0, 0), 10);
        has("itself twice", x, 0, 0, 1, 2, 3, -4, 9999, 1, 2, 3, -4, 9999);
        due.is("no room", x.join(1, 0), OppositeThreads.ROOM);
        due.is("no room for itself", x.join(1, 1), OppositeThreads.ROOM);
        due.is("join(0, 3)", x.join(0, 3), OppositeThreads.UNKNOWN);
        due.is("join(-1, 2)", x.join(-1, 2), OppositeThreads.UNKNOWN);
        x.sheet(2, 1, 0);
        due.is("none more fit in a full one", x.join(0, 2), 10);
        due.is("behind an empty one", x.join(2, 1), 7);
        due.is("places", x.count(7), 24);
    }

    private static void sumsAndDrops() {
        OppositeThreads x = new OppositeThreads();
        due.is("sum of a missing one", x.sum(0), OppositeThreads.NULL);
        due.is("drop of a missing one", x.drop(0), OppositeThreads.NULL);
        due.is("sum(3)", x.sum(3), OppositeThreads.UNKNOWN);
        due.is("sum(-1)", x.sum(-1), OppositeThreads.UNKNOWN);
        due.is("drop(3)", x.drop(3), OppositeThreads.UNKNOWN);
        due.is("drop(-1)", x.drop(-1), OppositeThreads.UNKNOWN);
        int[] most = new int[10];
        java.util.Arrays.fill(most, 9999);
        fill(x, 0, 1, most);
        due.is("sum", x.sum(0), 599990);
        java.util.Arrays.fill(most, -9999);
        fill(x, 1, 0, most);
        due.is("sum below", x.sum(1), 400010);
        due.is("drop", x.drop(0), 10);
        due.is("get then", x.get(0, 1, 0), OppositeThreads.NULL);
        due.is("places", x.count(7), 10);
        x.sheet(2, 0, 0);
        due.is("drop of an empty one", x.drop(2), 0);
        due.is("drop again", x.drop(2), OppositeThreads.NULL);
    }
}
