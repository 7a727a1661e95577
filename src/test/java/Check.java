/** Counts answers that are not as due, and makes objects that have read a text. */
final class Check {
    private static int checked = 0;
    private static int wrong = 0;
    private static String sentence = "";

    private Check() {
    }

    static void due(String what, long got, long want) {
        checked++;
        if (got != want) {
            wrong++;
            System.out.println(what + " answered " + got + ", due is " + want);
        }
    }

    static void due(String what, boolean got, boolean want) {
        due(what, got ? 1 : 0, want ? 1 : 0);
    }

    /** The sentence of the document by which the next answers are due. */
    static void says(String words) {
        sentence = words;
    }

    static void is(String call, long got, long want) {
        due(sentence + " | " + call, got, want);
    }

    static void is(String call, boolean got, boolean want) {
        is(call, got ? 1 : 0, want ? 1 : 0);
    }

    /** A new object with a hall, the lines of which may be told in parts. */
    static NutmegSeats told(String... lines) {
        NutmegSeats x = new NutmegSeats();
        due("hall() of " + String.join(" ", lines), hall(x, String.join(" ", lines)), 0);
        return x;
    }

    static int hall(NutmegSeats x, String text) {
        Calls.feed(x, text);
        return x.hall();
    }

    static int evening(NutmegSeats x, String text) {
        Calls.feed(x, text);
        return x.evening();
    }

    /** All that the class tells of how things stand. */
    static String state(NutmegSeats x) {
        StringBuilder text = new StringBuilder();
        for (int what = 0; what < 12; what++) {
            text.append(x.count(what)).append(' ');
        }
        for (int seat = 0; seat < 7; seat++) {
            for (int what = 0; what < 6; what++) {
                text.append(x.seat(seat, what)).append(' ');
            }
        }
        for (int person = 0; person < 5; person++) {
            for (int what = 0; what < 5; what++) {
                text.append(x.person(person, what)).append(' ');
            }
        }
        return text.toString();
    }

    static void end() {
        System.out.println(checked + " checks, " + wrong + " not as due");
        if (wrong != 0 || checked == 0) {
            System.exit(1);
        }
    }
}
