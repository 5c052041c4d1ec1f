/** Counts the answers that are not the ones due, for one test. */
final class Due {
    private int wrong = 0;
    private int looked = 0;

    void is(String call, long got, long want) {
        looked++;
        if (got != want) {
            wrong++;
            System.out.println(call + " answered " + got + ", due is " + want);
        }
    }

    void holds(String what, boolean so) {
        looked++;
        if (!so) {
            wrong++;
            System.out.println("not so: " + what);
        }
    }

    void end() {
        System.out.println(looked + " answers, " + wrong + " not as due");
        if (wrong != 0) {
            System.exit(1);
        }
    }

    static void type(OppositeThreads x, String text) {
        x.erase();
        for (int i = 0; i < text.length(); i++) {
            x.write(text.charAt(i));
        }
    }

    /** A new object whose army is as the text tells. */
    static OppositeThreads told(String text) {
        OppositeThreads x = new OppositeThreads();
        type(x, text);
        if (x.army() < 0) {
            System.out.println("this text has a fault: " + text);
            System.exit(1);
        }
        return x;
    }
}
