/** Counts and prints the answers that are not as due; shared by the tests. */
final class Due {
    private static int asked = 0;
    private static int wrong = 0;

    private Due() {
    }

    static void due(int promise, String call, long got, long want) {
        due("promise " + promise, call, got, want);
    }

    static void due(String test, String call, long got, long want) {
        asked++;
        if (got != want) {
            wrong++;
            System.out.println(test + ": " + call + " answered " + got + ", due is " + want);
        }
    }

    static int asked() {
        return asked;
    }

    static void say(String fault) {
        asked++;
        wrong++;
        System.out.println(fault);
    }

    static void end() {
        System.out.println(asked + " answers, " + wrong + " not as due");
        if (asked == 0 || wrong != 0) {
            System.exit(1);
        }
    }

    /** Types a text into an object, behind what it has. */
    static void type(RentedViews x, String text) {
        for (int i = 0; i < text.length(); i++) {
            x.type(text.charAt(i));
        }
    }

    /** Empties THE TEXT, types another and reads it. */
    static int read(RentedViews x, String text) {
        x.clear();
        type(x, text);
        return x.read();
    }
}
