import java.lang.reflect.InvocationTargetException;
import java.lang.reflect.Method;
import java.lang.reflect.Modifier;
import java.util.ArrayList;
import java.util.List;
import java.util.NoSuchElementException;

/** One call of the face, made on the class or on the model. */
final class Calls {
    static final String[] NAMES = {
        "hall", "evening", "seat", "person", "lay", "sit", "rise", "grate", "hour", "undo", "judged", "left", "later",
        "first", "empties", "most", "could", "needs", "keeps", "placed", "peace", "war", "safe", "see", "who", "ask",
        "far", "blocks", "rich", "lone", "row", "stands", "guards", "chance", "rests", "seasons", "mark", "count"};

    /** Stands for a throw of NoSuchElementException. */
    static final long THROWN = Long.MIN_VALUE;

    private Calls() {
    }

    /** Makes a call on the class or on the model (a boolean counts 1 or 0). */
    static long answer(Object x, String name, int[] a) {
        for (Method method : x.getClass().getDeclaredMethods()) {
            boolean open = !Modifier.isPrivate(method.getModifiers());
            if (open && method.getName().equals(name) && method.getParameterCount() == a.length) {
                return made(x, method, a);
            }
        }
        throw new IllegalArgumentException(name);
    }

    private static long made(Object x, Method method, int[] a) {
        Object[] args = new Object[a.length];
        for (int i = 0; i < a.length; i++) {
            args[i] = method.getParameterTypes()[i] == boolean.class ? (Object) (a[i] != 0) : (Object) a[i];
        }
        try {
            Object answer = method.invoke(x, args);
            return answer instanceof Boolean ? ((Boolean) answer ? 1 : 0) : (Integer) answer;
        } catch (InvocationTargetException e) {
            if (method.getName().equals("rests") && e.getCause().getClass() == NoSuchElementException.class) {
                return THROWN;
            }
            throw new IllegalStateException(e.getCause());
        } catch (IllegalAccessException e) {
            throw new IllegalStateException(e);
        }
    }

    /** The bounds of a call's arguments: least and most of each. */
    static int[][] bounds(String name) {
        switch (name) {
            case "seat": return new int[][] {{0, 6}, {0, 5}};
            case "person": return new int[][] {{0, 4}, {0, 4}};
            case "lay":
            case "sit":
            case "grate": return new int[][] {{0, 4}, {0, 6}};
            case "rise":
            case "could":
            case "guards": return new int[][] {{0, 4}};
            case "judged": return new int[][] {{0, 2}};
            case "left": return new int[][] {{0, 6}};
            case "later": return new int[][] {{0, 6}, {0, 60}};
            case "most":
            case "placed": return new int[][] {{-1, 4}};
            case "needs": return new int[][] {{0, 4}, {0, 6}, {1, 60}};
            case "keeps": return new int[][] {{0, 4}, {1, 30}, {0, 1}};
            case "see": return new int[][] {{0, 6}, {1, 60}, {0, 1}};
            case "far": return new int[][] {{0, 6}, {0, 6}};
            case "blocks": return new int[][] {{0, 1}};
            case "row": return new int[][] {{0, 4}};
            case "chance": return new int[][] {{0, 6}, {1, 6}, {0, 10}};
            case "rests": return new int[][] {{0, 9}, {0, 9}, {0, 9}, {-1, 3}};
            case "seasons": return new int[][] {{0, 9999}, {1, 99}, {0, 2}};
            case "mark": return new int[][] {{0, 3}, {0, 1}};
            case "count": return new int[][] {{0, 11}};
            default: return new int[0][];
        }
    }

    /** A text as the longs of calls of feed, three to each. */
    static List<long[]> feeds(String text) {
        List<long[]> feeds = new ArrayList<>();
        for (int from = 0; from < text.length(); from += 24) {
            long[] three = new long[3];
            for (int i = from; i < from + 24 && i < text.length(); i++) {
                int in = i - from;
                three[in / 8] |= (long) (text.charAt(i) & 255) << 56 - in % 8 * 8;
            }
            feeds.add(three);
        }
        return feeds;
    }

    static void feed(NutmegSeats x, String text) {
        for (long[] three : feeds(text)) {
            x.feed(three[0], three[1], three[2]);
        }
    }
}
