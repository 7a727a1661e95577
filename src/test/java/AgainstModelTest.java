import java.util.Arrays;
import java.util.List;

/** Evenings by dice, played on the class and on the model: all answers have to be the same. */
public final class AgainstModelTest {
    private static final String[] DEEDS = {"lay", "lay", "sit", "sit", "rise", "grate", "grate", "hour", "hour", "undo"};
    private static final String[] SLOW = {"most", "placed", "ask", "keeps", "who"};
    private static final int[] FAR_OUT = {
        Integer.MIN_VALUE, Integer.MIN_VALUE + 1, -1000000, -3, -2, -1, 0, 1, 2, 3, 4, 5, 6, 7, 8, 9, 10, 11, 12, 13,
        30, 31, 32, 33, 59, 60, 61, 62, 98, 99, 100, 101, 128, 1000, 9999, 10000, 65536, 1 << 30,
        Integer.MAX_VALUE - 1, Integer.MAX_VALUE};

    // An object is used for so many calls; the last look takes the last of them.
    private static final int CALLS = 512;
    private static final int LAST_LOOK = 42 + 25 + 12;

    private static int wrong = 0;
    private static int made = 0;
    private static long answers = 0;

    private AgainstModelTest() {
    }

    public static void main(String[] args) {
        int objects = args.length > 0 ? Integer.parseInt(args[0]) : 600;
        int first = args.length > 1 ? Integer.parseInt(args[1]) : 0;
        for (int seed = first; seed < first + objects && wrong < 20; seed++) {
            evening(seed);
        }
        System.out.println(answers + " answers compared, " + wrong + " not the same");
        if (wrong != 0 || answers == 0) {
            System.exit(1);
        }
    }

    private static void evening(int seed) {
        Dice dice = new Dice(seed);
        Texts texts = new Texts(dice);
        NutmegSeats real = new NutmegSeats();
        Model model = new Model();
        StringBuilder story = new StringBuilder();
        made = 0;
        boolean read = false;
        for (int round = 0; round < 6 && hasCalls(1); round++) {
            boolean whole = true;
            if (!read || dice.once(3)) {
                String text = texts.hall();
                whole = !dice.once(3);
                if (tell(dice, real, model, whole ? text : texts.spoilt(text), story)) {
                    same(seed, real, model, "hall", new int[0], story);
                }
                read |= model.told.seats.size() > 0;
            }
            if (whole && dice.once(2)) {
                String text = texts.evening();
                if (tell(dice, real, model, dice.once(3) ? texts.spoilt(text) : text, story)) {
                    same(seed, real, model, "evening", new int[0], story);
                }
            }
            for (int i = 0; i < 60 && wrong < 20 && hasCalls(1); i++) {
                String name = dice.once(2) ? dice.pick(DEEDS) : Calls.NAMES[dice.below(Calls.NAMES.length)];
                if (name.equals("hall") && !dice.once(20)) {
                    name = "count";
                }
                if (Arrays.asList(SLOW).contains(name) && !dice.once(3)) {
                    name = "seat";
                }
                same(seed, real, model, name, arguments(dice, model, name), story);
            }
        }
        all(seed, real, model, story);
    }

    /** Whether so many calls are left ahead of the last look. */
    private static boolean hasCalls(int calls) {
        return made + calls <= CALLS - LAST_LOOK;
    }

    /** A last look at all that can be looked at. */
    private static void all(int seed, NutmegSeats real, Model model, StringBuilder story) {
        for (String name : new String[] {"seat", "person", "count"}) {
            int[][] bounds = Calls.bounds(name);
            for (int i = bounds[0][0]; i <= bounds[0][1]; i++) {
                int second = bounds.length > 1 ? bounds[1][1] : 0;
                for (int j = 0; j <= second; j++) {
                    same(seed, real, model, name, bounds.length > 1 ? new int[] {i, j} : new int[] {i}, story);
                }
            }
        }
    }

    private static int[] arguments(Dice dice, Model model, String name) {
        int[][] bounds = Calls.bounds(name);
        int[] a = new int[bounds.length];
        for (int i = 0; i < a.length; i++) {
            a[i] = dice.from(bounds[i][0], bounds[i][1]);
            boolean person = bounds[i][1] == 4 && bounds[i][0] <= 0 && model.told.persons.size() > 0 && !name.equals("row");
            boolean seat = bounds[i][1] == 6 && bounds[i][0] == 0 && model.told.seats.size() > 0;
            boolean hours = bounds[i][0] == 1 && bounds[i][1] > 6;
            if (person && !dice.once(9)) {
                a[i] = dice.from(bounds[i][0], model.told.persons.size() - 1);
            } else if (seat && !dice.once(9)) {
                a[i] = dice.below(model.told.seats.size());
            } else if (hours && dice.once(2)) {
                a[i] = dice.from(1, 9);
            }
            if (dice.once(25)) {
                a[i] = FAR_OUT[dice.below(FAR_OUT.length)];
            }
        }
        return a;
    }

    /** Feeds a text with strange bytes in between, which are left out; false: too few calls are left to read it. */
    private static boolean tell(Dice dice, NutmegSeats real, Model model, String text, StringBuilder story) {
        StringBuilder mixed = new StringBuilder();
        boolean strange = dice.once(5);
        for (int i = 0; i < text.length(); i++) {
            while (strange && dice.once(6)) {
                mixed.append((char) (dice.once(2) ? 127 + dice.below(129) : dice.below(10)));
            }
            mixed.append(text.charAt(i));
        }
        List<long[]> feeds = Calls.feeds(mixed.toString());
        // What reads the tape is called behind it.
        if (!hasCalls(feeds.size() + 1)) {
            return false;
        }
        story.append("tape ").append(mixed).append('\n');
        for (long[] f : feeds) {
            made++;
            compare(0, "feed", f[0] + " " + f[1] + " " + f[2], real.feed(f[0], f[1], f[2]), model.feed(f[0], f[1], f[2]), story);
        }
        return true;
    }

    private static void same(int seed, NutmegSeats real, Model model, String name, int[] a, StringBuilder story) {
        made++;
        String call = name + Arrays.toString(a);
        long due = Calls.answer(model, name, a);
        long answer;
        try {
            answer = Calls.answer(real, name, a);
        } catch (RuntimeException e) {
            wrong++;
            System.out.println("seed " + seed + ": " + call + " threw " + e);
            return;
        }
        story.append(call).append(" = ").append(due).append('\n');
        compare(seed, name, call, answer, due, story);
    }

    private static void compare(int seed, String name, String call, long answer, long due, StringBuilder story) {
        answers++;
        if (answer != due) {
            wrong++;
            System.out.println("seed " + seed + ": " + call + " answered " + answer + ", due is " + due);
            if (wrong == 1) {
                System.out.println(story);
            }
        }
    }
}
