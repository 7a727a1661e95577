import java.util.LinkedHashMap;
import java.util.Map;

/** Promises 2 to 40: what each refuses, and that it takes its bounds themselves. */
public final class EdgesOfPromisesTest {
    private static final int OTHERS = -2;
    private static final int NONE = -1;
    private static final int FALSE = 0;
    private static final int MIN = Integer.MIN_VALUE;
    private static final int MAX = Integer.MAX_VALUE;

    // What each call answers to others than it is told for.
    private static final Map<String, Long> REFUSALS = new LinkedHashMap<>();

    static {
        for (String name : "seat person judged most placed".split(" ")) {
            REFUSALS.put(name, (long) OTHERS);
        }
        for (String name : ("lay sit rise grate left later could needs keeps far blocks row guards chance seasons"
            + " count").split(" ")) {
            REFUSALS.put(name, (long) NONE);
        }
        REFUSALS.put("see", (long) FALSE);
        REFUSALS.put("mark", (long) FALSE);
        REFUSALS.put("rests", Calls.THROWN);
    }

    private EdgesOfPromisesTest() {
    }

    public static void main(String[] args) {
        refusedInAFullHall();
        refusedInASmallHall();
        refusedWithoutAHall();
        boundsThemselves();
        boundsWhereAllIsHeld();
        boundsOfRisingAndGrating();
        feedAnswers();
        faultsLeaveAll();
        noneOfASeat();
        noneOfAPerson();
        whoSits();
        notFree();
        nothingLies();
        inNone();
        eightSeen();
        noneSuchAtRest();
        marks();
        counts();
        countOfTheUndone();
        Check.end();
    }

    private static void says(String words) {
        Check.says("Promise " + words);
    }

    private static void is(String call, long got, long want) {
        Check.is(call, got, want);
    }

    /** Seven seats in a row and five persons, of whom p sits on a beside q's nutmeg on b. */
    private static NutmegSeats full() {
        NutmegSeats x = Check.told("seat a row 0 at 0 ; seat b row 0 at 1 ; seat c row 0 at 2 ; seat d row 0 at 3 ;",
            "seat e row 0 at 4 ; seat f row 0 at 5 ; seat g row 0 at 6 ;", persons(),
            "person r rasp nutmegs 3 ; person s captain nutmegs 3 ; person t plain nutmegs 3 ; foe p q ;");
        return begun(x);
    }

    private static NutmegSeats small() {
        return begun(Check.told("seat a row 0 at 0 ; seat b row 0 at 1 ; seat c row 0 at 2 ;", persons(), "foe p q ;"));
    }

    private static String persons() {
        return "person p plain nutmegs 3 ; person q lady nutmegs 3 ;";
    }

    private static NutmegSeats begun(NutmegSeats x) {
        Check.evening(x, "hour ;");
        x.sit(0, 0);
        x.lay(1, 1);
        x.mark(0, false);
        return x;
    }

    /** Arguments that no call refuses, if that person stands and that seat is free. */
    private static Map<String, int[]> asked(int person, int seat) {
        Map<String, int[]> asked = new LinkedHashMap<>();
        asked.put("seat", new int[] {seat, 3});
        asked.put("person", new int[] {person, 1});
        asked.put("lay", new int[] {person, seat});
        asked.put("sit", new int[] {person, seat});
        asked.put("rise", new int[] {0});
        asked.put("grate", new int[] {0, 1});
        asked.put("judged", new int[] {2});
        asked.put("left", new int[] {1});
        asked.put("later", new int[] {1, 1});
        asked.put("most", new int[] {person});
        asked.put("could", new int[] {person});
        asked.put("needs", new int[] {person, seat, 5});
        asked.put("keeps", new int[] {person, 5, 0});
        asked.put("placed", new int[] {0});
        asked.put("see", new int[] {seat, 5, 1});
        asked.put("far", new int[] {0, seat});
        asked.put("blocks", new int[] {0});
        asked.put("row", new int[] {0});
        asked.put("guards", new int[] {person});
        asked.put("chance", new int[] {1, 2, 5});
        asked.put("rests", new int[] {1, 1, 1, 0});
        asked.put("seasons", new int[] {5, 5, 0});
        asked.put("mark", new int[] {0, 1});
        asked.put("count", new int[] {2});
        return asked;
    }

    private static String text(String name, int[] a) {
        StringBuilder text = new StringBuilder(name).append('(');
        for (int i = 0; i < a.length; i++) {
            text.append(i == 0 ? "" : ", ").append(a[i]);
        }
        return text.append(')').toString();
    }

    /** Refused, and all stays as it was: of a new object each, since one may be used for 512 calls. */
    private static void refused(NutmegSeats x, String name, int... a) {
        String ahead = Check.state(x);
        is(text(name, a), Calls.answer(x, name, a), REFUSALS.get(name));
        Check.is("all stays behind " + text(name, a), Check.state(x).equals(ahead), true);
    }

    private static void taken(NutmegSeats x, String name, int... a) {
        Check.is(text(name, a) + " is taken", Calls.answer(x, name, a) != REFUSALS.get(name), true);
    }

    private static void sweep(boolean full, Map<String, int[]> asked) {
        for (Map.Entry<String, int[]> one : asked.entrySet()) {
            String name = one.getKey();
            taken(full ? full() : small(), name, one.getValue());
            int[][] bounds = Calls.bounds(name);
            for (int i = 0; i < bounds.length; i++) {
                boolean flag = name.equals("see") && i == 2 || name.equals("mark") && i == 1;
                int most = bounds[i][1];
                boolean person = most == 4 && i == 0 && !name.equals("row");
                boolean seat = most == 6 && !(name.equals("chance") && i == 1);
                if (!full && (person || seat)) {
                    most = person ? 1 : 2;
                }
                int in = one.getValue()[i];
                int[] out = {bounds[i][0] - 1, bounds[i][0] - 2, most + 1, most + 2, MIN, MIN + in, MAX, MAX - 1,
                    in - 32, in - 64, in - 256, in + (1 << 30), in | MIN};
                for (int bad : out) {
                    int[] a = one.getValue().clone();
                    a[i] = bad;
                    if (!flag && (bad < bounds[i][0] || bad > most)) {
                        refused(full ? full() : small(), name, a);
                    }
                }
            }
        }
    }

    private static void refusedInAFullHall() {
        says("5 to 40: others");
        sweep(true, asked(2, 3));
    }

    private static void refusedInASmallHall() {
        says("5 to 40: others (SEATS and PERSONS that are not told)");
        sweep(false, asked(1, 2));
    }

    private static void refusedWithoutAHall() {
        says("5 to 40: others (nothing is told)");
        for (Map.Entry<String, int[]> one : asked(0, 0).entrySet()) {
            String name = one.getKey();
            boolean of = !"judged blocks row rests seasons mark count".contains(name);
            if (of) {
                refused(new NutmegSeats(), name, new int[one.getValue().length]);
            }
        }
        NutmegSeats x = new NutmegSeats();
        is("most(-1)", x.most(-1), 0);
        is("placed(-1)", x.placed(-1), 1);
        is("first()", x.first(), -1);
        is("empties()", x.empties(), 0);
        is("rich()", x.rich(), -1);
        is("ask()", x.ask(), -1);
        is("who()", x.who(), 0);
        is("all others", x.peace() + x.war() + x.safe() + x.lone() + x.stands() + x.blocks(0) + x.blocks(1), 0);
        for (int row = 0; row <= 4; row++) {
            is("row(" + row + ")", x.row(row), 0);
        }
        for (int what = 0; what <= 2; what++) {
            is("seasons(1, 99, " + what + ")", x.seasons(1, 99, what), 0);
        }
        Check.is("mark(3, false)", x.mark(3, false), true);
        Check.is("mark(3, true)", x.mark(3, true), true);
    }

    private static void boundsThemselves() {
        says("5 to 40: the bounds themselves");
        for (String name : ("seat person judged lay sit most could needs keeps placed see far blocks row guards seasons"
            + " count").split(" ")) {
            int[][] bounds = Calls.bounds(name);
            for (int i = 0; i < bounds.length; i++) {
                for (int edge : bounds[i]) {
                    NutmegSeats x = full();
                    x.undo();
                    x.undo();
                    int[] a = asked(2, 3).get(name).clone();
                    a[i] = edge;
                    taken(x, name, a);
                }
            }
        }
        for (int edge : new int[] {0, 9}) {
            taken(full(), "rests", edge, 1, 1, -1);
            taken(full(), "rests", 1, edge, 1, -1);
            taken(full(), "rests", 1, 1, edge, -1);
        }
        taken(full(), "rests", 0, 0, 0, 3);
        for (int edge : new int[] {0, 3}) {
            taken(full(), "mark", edge, 0);
        }
    }

    private static void boundsWhereAllIsHeld() {
        says("14, 15, 36: the bounds themselves");
        NutmegSeats x = full();
        x.undo();
        x.undo();
        for (int seat = 0; seat < 7; seat++) {
            x.lay(seat % 3, seat);
        }
        for (int seat : new int[] {0, 6}) {
            taken(x, "left", seat);
            taken(x, "later", seat, 0);
            taken(x, "later", seat, 60);
            for (int hours : new int[] {1, 6}) {
                taken(x, "chance", seat, hours, 0);
                taken(x, "chance", seat, hours, 10);
            }
        }
    }

    private static void boundsOfRisingAndGrating() {
        says("9, 10: the bounds themselves");
        NutmegSeats x = Check.told("seat a row 0 at 0 ; seat b row 0 at 1 ; seat c row 0 at 2 ; seat d row 0 at 3 ;",
            "seat e row 0 at 4 ; seat f row 0 at 5 ; seat g row 0 at 6 ;", persons(),
            "person r rasp nutmegs 3 ; person s captain nutmegs 3 ; person t plain nutmegs 3 ; foe p q ; foe q t ;");
        x.lay(1, 0);
        x.lay(1, 6);
        x.sit(0, 1);
        x.sit(4, 5);
        is("grate(0, 0)", x.grate(0, 0), 9);
        is("grate(4, 6)", x.grate(4, 6), 9);
        is("rise(4)", x.rise(4), 5);
        is("rise(0)", x.rise(0), 1);
    }

    private static void feedAnswers() {
        says("2: up to 24 signs come behind the TAPE: .. how many there are");
        NutmegSeats x = new NutmegSeats();
        is("none", x.feed(0, 0, 0), 0);
        is("one of a", x.feed((long) ' ' << 56, 0, 0), 1);
        is("one of b", x.feed(0, ' ', 0), 2);
        is("one of c", x.feed(0, 0, (long) ' ' << 24), 3);
        is("24", x.feed(0x2020202020202020L, 0x2020202020202020L, 0x2020202020202020L), 27);
        is("left out", x.feed(-1L, Long.MIN_VALUE, 0x7f7f7f7f7f7f7f7fL), 27);
        is("count(11)", x.count(11), 27);
        says("2: the bytes of a, b, c, of each the highest first");
        NutmegSeats y = new NutmegSeats();
        // "lasts 7;" "wears 2;" "lasts 7;"
        y.feed(0x6c6173747320373bL, 0x776561727320323bL, 0x6c6173747320373bL);
        is("hall()", y.hall(), 3 + 16 * 16);
        y.feed(0x6c6173747320373bL, 0x776561727320323bL, 0x776561727320323bL);
        is("hall()", y.hall(), 3 + 16 * 16);
        // The same signs with others in between.
        y.feed(0x6c00610073ff7400L, 0x7300208037093b1fL, 0x0b7f000000000000L);
        is("count(11)", y.count(11), 8);
        is("hall()", y.hall(), 0);
        is("count(2)", y.count(2), 7);
    }

    private static void faultsLeaveAll() {
        says("3, 4: or its FAULT (all stays then)");
        String[] texts = {"seat", "lasts 9 ; lasts", "person z lady nutmegs 9 ; #", "wears 9 ; wears", "foe p q ;", "hour ;"};
        for (String text : texts) {
            NutmegSeats x = full();
            x.see(2, 3, true);
            String ahead = Check.state(x);
            Check.is("hall() has a FAULT: " + text, Check.hall(x, text) != 0, true);
            Check.is("all stays", Check.state(x).equals(ahead), true);
            is("the NUTMEG wears as it did", x.later(1, 1), 11);
            is("the EVENING is what it was", x.judged(0), -1);
            is("its names are told still", Check.evening(x, "rise t ; sit t g ;"), 0);
            Check.is("the MARK is there", x.mark(0, true), true);
        }
        for (String text : new String[] {"hour ; hour ; rise", "sit p a ; sit q b ; seat", "lay p p ;", "hour ; ".repeat(41)}) {
            NutmegSeats x = full();
            String ahead = Check.state(x);
            Check.is("evening() has a FAULT: " + text, Check.evening(x, text) != 0, true);
            Check.is("all stays", Check.state(x).equals(ahead), true);
            is("the EVENING is what it was", x.judged(2), 0);
        }
    }

    private static void noneOfASeat() {
        says("5: NONE: none, nobody; 0: none");
        NutmegSeats x = full();
        is("whose NUTMEG", x.seat(6, 2), -1);
        is("how much", x.seat(6, 3), 0);
        is("who sits", x.seat(6, 4), -1);
        is("whose NUTMEG, where p sits", x.seat(0, 2), -1);
        is("who sits, where q's lies", x.seat(1, 4), -1);
        is("p", x.seat(0, 4), 0);
        is("q's", x.seat(1, 2), 1);
    }

    private static void noneOfAPerson() {
        says("6: NONE: they stand");
        NutmegSeats x = full();
        is("p", x.person(0, 2), 0);
        for (int person = 1; person < 5; person++) {
            is("person(" + person + ", 2)", x.person(person, 2), -1);
        }
        is("SEATS on which theirs lie", x.person(1, 3), 2);
        is("SEATS on which theirs lie", x.person(0, 3), 0);
    }

    private static void whoSits() {
        says("18, 19: who sits");
        NutmegSeats x = full();
        is("most(0)", x.most(0), -2);
        is("could(0)", x.could(0), -1);
        x.rise(0);
        is("most(0)", x.most(0), 0);
        is("could(0)", x.could(0), 125);
    }

    private static void notFree() {
        says("20: not FREE");
        NutmegSeats x = full();
        is("p sits there", x.needs(2, 0, 1), -1);
        is("q's lies there", x.needs(2, 1, 1), -1);
        is("q's own", x.needs(1, 1, 1), -1);
        is("FREE", x.needs(2, 2, 1), 1);
    }

    private static void nothingLies() {
        says("14, 15, 36: nothing lies there");
        NutmegSeats x = full();
        for (int seat : new int[] {0, 2, 6}) {
            is("left", x.left(seat), -1);
            is("later", x.later(seat, 1), -1);
            is("later", x.later(seat, 0), -1);
            is("chance", x.chance(seat, 1, 1), -1);
        }
    }

    private static void inNone() {
        says("22: 0: in none; -2: in none");
        NutmegSeats x = Check.told("seat a row 0 at 0 ;", persons());
        is("how many", x.placed(-1), 0);
        is("where", x.placed(0), -2);
        is("where", x.placed(1), -2);
        NutmegSeats y = small();
        is("how many", y.placed(-1), 2);
        is("where", y.placed(0), 0);
        is("where", y.placed(1), 2);
    }

    private static void eightSeen() {
        says("26: true; false: .. 8 there are");
        NutmegSeats x = full();
        for (int i = 0; i < 8; i++) {
            Check.is("see() " + i, x.see(i % 7, 1 + i, i % 2 == 0), true);
        }
        Check.is("the ninth", x.see(0, 1, true), false);
        is("count(9)", x.count(9), 8);
        x.mark(0, true);
        is("count(9) behind a MARK", x.count(9), 0);
        Check.is("see()", x.see(0, 1, true), true);
    }

    private static void noneSuchAtRest() {
        says("37: NoSuchElementException: others, none such");
        NutmegSeats x = new NutmegSeats();
        for (int what : new int[] {2, 3, 4, -2, MIN, MAX}) {
            is("rests(1, 1, 1, " + what + ")", Calls.answer(x, "rests", new int[] {1, 1, 1, what}), Calls.THROWN);
        }
        for (int bad : new int[] {-1, 10, MIN, MAX}) {
            for (int what : new int[] {-1, 0, 1, 3}) {
                is("lose " + bad, Calls.answer(x, "rests", new int[] {bad, 1, 1, what}), Calls.THROWN);
                is("sits " + bad, Calls.answer(x, "rests", new int[] {1, bad, 1, what}), Calls.THROWN);
                is("bows " + bad, Calls.answer(x, "rests", new int[] {1, 1, bad, what}), Calls.THROWN);
            }
        }
        is("how many", Calls.answer(x, "rests", new int[] {1, 1, 1, -1}), 2);
    }

    private static void marks() {
        says("39: true; false: none such, nothing is on it (back)");
        NutmegSeats x = new NutmegSeats();
        for (int mark = -2; mark <= 5; mark++) {
            boolean such = mark >= 0 && mark <= 3;
            Check.is("back to " + mark, x.mark(mark, true), false);
            Check.is("laying " + mark, x.mark(mark, false), such);
            Check.is("back to " + mark, x.mark(mark, true), such);
        }
        for (int mark : new int[] {MIN, MAX, 32, 256, -32}) {
            Check.is("back to " + mark, x.mark(mark, true), false);
            Check.is("laying " + mark, x.mark(mark, false), false);
        }
    }

    private static void counts() {
        says("40: what 0 .. 11; NONE for another what");
        NutmegSeats x = full();
        x.see(2, 1, true);
        x.feed(' ', 0, 0);
        int[] counts = {7, 5, 6, 0, 124, 2, 1, 14, 1, 1, 2, 1};
        for (int what = 0; what < 12; what++) {
            is("count(" + what + ")", x.count(what), counts[what]);
        }
        for (int what : new int[] {-1, -2, 12, 13, MIN, MAX}) {
            is("count(" + what + ")", x.count(what), -1);
        }
    }

    private static void countOfTheUndone() {
        says("40: 10: what can be undone");
        NutmegSeats x = full();
        for (int i = 3; i <= 20; i++) {
            x.hour();
            is("count(10) behind " + i, x.count(10), Math.min(16, i));
        }
        x.mark(1, false);
        is("count(10): a MARK is laid", x.count(10), 16);
        x.undo();
        is("count(10): one is undone", x.count(10), 15);
        x.mark(1, true);
        is("count(10): a MARK is gone back to", x.count(10), 0);
    }
}
