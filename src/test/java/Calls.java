import java.util.ArrayList;
import java.util.List;
import java.util.NoSuchElementException;

/** One call of the face, made on the class or on the model. */
final class Calls {
    static final String[] NAMES = {
        "hall", "evening", "seat", "person", "lay", "sit", "rise", "grate", "hour", "undo", "judged", "left", "later",
        "first", "empties", "most", "could", "needs", "keeps", "placed", "peace", "war", "safe", "see", "who", "ask",
        "far", "blocks", "rich", "lone", "row", "stands", "guards", "chance", "rests", "seasons", "mark", "count"};

    /** Stands for a throw of NoSuchElementException. */
    static final long THROWN = Long.MIN_VALUE;

    private Calls() {
    }

    static long of(boolean b) {
        return b ? 1 : 0;
    }

    static long real(NutmegSeats x, String name, int[] a) {
        switch (name) {
            case "hall": return x.hall();
            case "evening": return x.evening();
            case "seat": return x.seat(a[0], a[1]);
            case "person": return x.person(a[0], a[1]);
            case "lay": return x.lay(a[0], a[1]);
            case "sit": return x.sit(a[0], a[1]);
            case "rise": return x.rise(a[0]);
            case "grate": return x.grate(a[0], a[1]);
            case "hour": return x.hour();
            case "undo": return of(x.undo());
            case "judged": return x.judged(a[0]);
            case "left": return x.left(a[0]);
            case "later": return x.later(a[0], a[1]);
            case "first": return x.first();
            case "empties": return x.empties();
            case "most": return x.most(a[0]);
            case "could": return x.could(a[0]);
            case "needs": return x.needs(a[0], a[1], a[2]);
            case "keeps": return x.keeps(a[0], a[1], a[2]);
            case "placed": return x.placed(a[0]);
            case "peace": return x.peace();
            case "war": return x.war();
            case "safe": return x.safe();
            case "see": return of(x.see(a[0], a[1], a[2] != 0));
            case "who": return x.who();
            case "ask": return x.ask();
            case "far": return x.far(a[0], a[1]);
            case "blocks": return x.blocks(a[0]);
            case "rich": return x.rich();
            case "lone": return x.lone();
            case "row": return x.row(a[0]);
            case "stands": return x.stands();
            case "guards": return x.guards(a[0]);
            case "chance": return x.chance(a[0], a[1], a[2]);
            case "rests":
                try {
                    return x.rests(a[0], a[1], a[2], a[3]);
                } catch (NoSuchElementException e) {
                    return THROWN;
                }
            case "seasons": return x.seasons(a[0], a[1], a[2]);
            case "mark": return of(x.mark(a[0], a[1] != 0));
            case "count": return x.count(a[0]);
            default: throw new IllegalArgumentException(name);
        }
    }

    static long model(Model x, String name, int[] a) {
        switch (name) {
            case "hall": return x.hall();
            case "evening": return x.evening();
            case "seat": return x.seat(a[0], a[1]);
            case "person": return x.person(a[0], a[1]);
            case "lay": return x.lay(a[0], a[1]);
            case "sit": return x.sit(a[0], a[1]);
            case "rise": return x.rise(a[0]);
            case "grate": return x.grate(a[0], a[1]);
            case "hour": return x.hour();
            case "undo": return of(x.undo());
            case "judged": return x.judged(a[0]);
            case "left": return x.left(a[0]);
            case "later": return x.later(a[0], a[1]);
            case "first": return x.first();
            case "empties": return x.empties();
            case "most": return x.most(a[0]);
            case "could": return x.could(a[0]);
            case "needs": return x.needs(a[0], a[1], a[2]);
            case "keeps": return x.keeps(a[0], a[1], a[2]);
            case "placed": return x.placed(a[0]);
            case "peace": return x.peace();
            case "war": return x.war();
            case "safe": return x.safe();
            case "see": return of(x.see(a[0], a[1], a[2] != 0));
            case "who": return x.who();
            case "ask": return x.ask();
            case "far": return x.far(a[0], a[1]);
            case "blocks": return x.blocks(a[0]);
            case "rich": return x.rich();
            case "lone": return x.lone();
            case "row": return x.row(a[0]);
            case "stands": return x.stands();
            case "guards": return x.guards(a[0]);
            case "chance": return x.chance(a[0], a[1], a[2]);
            case "rests":
                try {
                    return x.rests(a[0], a[1], a[2], a[3]);
                } catch (NoSuchElementException e) {
                    return THROWN;
                }
            case "seasons": return x.seasons(a[0], a[1], a[2]);
            case "mark": return of(x.mark(a[0], a[1] != 0));
            case "count": return x.count(a[0]);
            default: throw new IllegalArgumentException(name);
        }
    }

    /** The bounds of a call's arguments: least and most of each. */
    static int[][] bounds(String name) {
        switch (name) {
            case "seat": return new int[][] {{0, 6}, {0, 5}};
            case "person": return new int[][] {{0, 4}, {0, 4}};
            case "lay":
            case "sit":
            case "grate": return new int[][] {{0, 4}, {0, 6}};
            case "rise":
            case "could":
            case "guards": return new int[][] {{0, 4}};
            case "judged": return new int[][] {{0, 2}};
            case "left": return new int[][] {{0, 6}};
            case "later": return new int[][] {{0, 6}, {0, 60}};
            case "most":
            case "placed": return new int[][] {{-1, 4}};
            case "needs": return new int[][] {{0, 4}, {0, 6}, {1, 60}};
            case "keeps": return new int[][] {{0, 4}, {1, 30}, {0, 1}};
            case "see": return new int[][] {{0, 6}, {1, 60}, {0, 1}};
            case "far": return new int[][] {{0, 6}, {0, 6}};
            case "blocks": return new int[][] {{0, 1}};
            case "row": return new int[][] {{0, 4}};
            case "chance": return new int[][] {{0, 6}, {1, 6}, {0, 10}};
            case "rests": return new int[][] {{0, 9}, {0, 9}, {0, 9}, {-1, 3}};
            case "seasons": return new int[][] {{0, 9999}, {1, 99}, {0, 2}};
            case "mark": return new int[][] {{0, 3}, {0, 1}};
            case "count": return new int[][] {{0, 11}};
            default: return new int[0][];
        }
    }

    /** A text as the longs of calls of feed, three to each. */
    static List<long[]> feeds(String text) {
        List<long[]> feeds = new ArrayList<>();
        for (int from = 0; from < text.length(); from += 24) {
            long[] three = new long[3];
            for (int i = from; i < from + 24 && i < text.length(); i++) {
                int in = i - from;
                three[in / 8] |= (long) (text.charAt(i) & 255) << 56 - in % 8 * 8;
            }
            feeds.add(three);
        }
        return feeds;
    }

    static void feed(NutmegSeats x, String text) {
        for (long[] three : feeds(text)) {
            x.feed(three[0], three[1], three[2]);
        }
    }
}
