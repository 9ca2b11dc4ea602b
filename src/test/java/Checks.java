/** Counts the answers that are not as due, and tells texts to an object. */
final class Checks {
    private static final int PRINTED_MOST = 40;

    private final String about;
    private int asked = 0;
    private int wrong = 0;

    Checks() {
        this("");
    }

    /** Each row that is printed begins with what the answers are about. */
    Checks(String about) {
        this.about = about.isEmpty() ? "" : about + ": ";
    }

    void due(String call, long got, long want) {
        asked++;
        if (got != want) {
            wrong++;
        }
        if (got != want && wrong <= PRINTED_MOST) {
            System.out.println(about + call + " answered " + got + ", due is " + want);
        }
    }

    void due(String call, boolean got, boolean want) {
        due(call, got ? 1 : 0, want ? 1 : 0);
    }

    /** A TEXT that is refused with this FAULT at this place. */
    void fault(String text, int number, int place) {
        RiverDrains x = new RiverDrains();
        due("text of [" + text + "]", tell(x, text), -1);
        due("fault of [" + text + "]", x.fault(0), number);
        due("place of [" + text + "]", x.fault(1), place);
    }

    /** A TEXT of so many LINES without a FAULT. */
    void fine(String text, int lines) {
        RiverDrains x = new RiverDrains();
        due("text of [" + text + "]", tell(x, text), lines);
        due("fault of [" + text + "]", x.fault(0), 0);
        due("place of [" + text + "]", x.fault(1), -1);
    }

    boolean isClean() {
        return wrong == 0;
    }

    int asked() {
        return asked;
    }

    void end() {
        System.out.println(asked + " answers, " + wrong + " not as due");
        if (wrong != 0) {
            System.exit(1);
        }
    }

    static void feed(RiverDrains x, String text) {
        for (int at = 0; at < text.length(); at += 20) {
            x.feed(four(text, at), four(text, at + 4), four(text, at + 8), four(text, at + 12), four(text, at + 16));
        }
    }

    static int four(String text, int at) {
        int number = 0;
        for (int i = at; i < at + 4; i++) {
            number = number << 8 | (i < text.length() ? text.charAt(i) & 255 : ' ');
        }
        return number;
    }

    static int tell(RiverDrains x, String text) {
        feed(x, text);
        return x.text(text.length());
    }

    static RiverDrains town(String text) {
        RiverDrains x = new RiverDrains();
        if (tell(x, text) < 0) {
            throw new IllegalStateException("fault " + x.fault(0) + " at " + x.fault(1) + " of " + text);
        }
        return x;
    }

    static int letters(String name) {
        int code = 0;
        for (int i = 0; i < 6; i++) {
            code = code << 5 | (i < name.length() ? name.charAt(i) - 'a' + 1 : 0);
        }
        return code;
    }
}
