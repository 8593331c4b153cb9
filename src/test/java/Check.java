import java.util.NoSuchElementException;

/** What the project's own tests share: counting wrong answers and feeding texts. */
final class Check {
    static int wrong = 0;
    static int asked = 0;
    static String about = "";

    private Check() { }

    static void due(String call, long got, long want) {
        asked++;
        if (got != want) {
            wrong++;
            if (wrong <= 40) {
                System.out.println(about + ": " + call + " answered " + got + ", due is " + want);
            }
        }
    }

    static void due(String call, boolean got, boolean want) {
        due(call, got ? 1 : 0, want ? 1 : 0);
    }

    /** Puts a text on the tape, filled up with blanks. */
    static void feed(ShutPasses x, String text) {
        for (int at = 0; at < text.length(); at += 20) {
            int[] numbers = new int[5];
            for (int i = 0; i < 20; i++) {
                char sign = at + i < text.length() ? text.charAt(at + i) : ' ';
                numbers[i / 4] = numbers[i / 4] << 8 | sign & 255;
            }
            x.feed(numbers[0], numbers[1], numbers[2], numbers[3], numbers[4]);
        }
    }

    static int land(ShutPasses x, String text) {
        feed(x, text);
        return x.land(text.length());
    }

    static ShutPasses landed(String text) {
        ShutPasses x = new ShutPasses();
        due("land(" + text + ") has no fault", land(x, text) >= 0, true);
        return x;
    }

    /** The text is refused with this FAULT at this place, and no land comes of it. */
    static void fault(String text, int kind, int place) {
        ShutPasses x = new ShutPasses();
        about = "a fault in: " + text;
        due("land", land(x, text), -1);
        due("fault(0)", x.fault(0), kind);
        due("fault(1)", x.fault(1), place);
        due("no land", x.count(0), 0);
    }

    /** The text is a land of so many lines. */
    static ShutPasses fine(String text, int lines) {
        ShutPasses x = new ShutPasses();
        about = "no fault in: " + text;
        due("land", land(x, text), lines);
        due("fault(0)", x.fault(0), 0);
        due("fault(1)", x.fault(1), -1);
        return x;
    }

    /** What look() throws: 1 IndexOutOfBoundsException, 2 NoSuchElementException, just these classes; 0 nothing. */
    static int thrown(ShutPasses x, int road, int what) {
        try {
            x.look(road, what);
            return 0;
        } catch (IndexOutOfBoundsException | NoSuchElementException e) {
            if (e.getClass() == IndexOutOfBoundsException.class) {
                return 1;
            }
            return e.getClass() == NoSuchElementException.class ? 2 : 3;
        }
    }

    static void end(String name) {
        System.out.println(name + ": " + asked + " answers, " + (wrong == 0 ? "all as due" : wrong + " wrong"));
        if (wrong != 0) {
            System.exit(1);
        }
    }
}
