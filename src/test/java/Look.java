import java.util.ArrayList;
import java.util.List;

/** All that can be seen of an object, to the last that it can undo, has kept and was told. What is looked at is used up. */
final class Look {
    private final OppositeThreads x;
    private final int men;
    private final List<Integer> found = new ArrayList<>();

    private Look(OppositeThreads x) {
        this.x = x;
        men = 2 * x.count(0);
    }

    static List<Integer> at(OppositeThreads x) {
        Look look = new Look(x);
        look.now();
        look.sheets();
        look.undone();
        look.kept();
        look.told();
        return look.found;
    }

    private void now() {
        for (int what = 0; what <= 9; what++) {
            found.add(x.count(what));
        }
        kinds();
        army();
        found.add(x.fault());
        found.add(x.kinds());
        found.add(x.ask());
    }

    private void kinds() {
        for (int m = 0; m < men; m++) {
            found.add(x.man(m, 0));
        }
    }

    private void army() {
        found.add(x.count(1));
        for (int m = 0; m < men; m++) {
            found.add(x.man(m, 1));
            found.add(x.man(m, 2));
        }
    }

    private void sheets() {
        for (int sheet = 0; sheet <= 2; sheet++) {
            int sort = x.get(sheet, 0, 0) == OppositeThreads.CAST ? 1 : 0;
            found.add(sort);
            for (int i = 0; i < 10; i++) {
                found.add(x.get(sheet, sort, i));
            }
            found.add(x.drop(sheet));
        }
    }

    private void undone() {
        for (int i = 0; i <= 8; i++) {
            found.add(x.undo());
            army();
        }
    }

    private void kept() {
        for (int k = 0; k <= 1; k++) {
            found.add(x.back(k));
            army();
        }
    }

    private void told() {
        found.add(x.erase());
        Due.type(x, "plain 0");
        found.add(x.army());
        army();
        kinds();
    }
}
