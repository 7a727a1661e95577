import java.util.ArrayDeque;
import java.util.ArrayList;
import java.util.Arrays;
import java.util.Deque;
import java.util.HashMap;
import java.util.HashSet;
import java.util.List;
import java.util.Map;
import java.util.NoSuchElementException;
import java.util.Set;
import java.util.TreeMap;
import java.util.TreeSet;
import java.util.function.IntPredicate;
import java.util.regex.Matcher;
import java.util.regex.Pattern;

/** The document read a second time, in the slowest and plainest way, to compare answers with. */
final class Model {
    static final Set<String> RESERVED = new HashSet<>(Arrays.asList(
        ("seat row at person nutmegs foe lasts wears lay sit rise grate hour"
            + " plain lady rasp captain not and or").split(" ")));
    static final List<String> KINDS = Arrays.asList("plain", "lady", "rasp", "captain");
    static final List<String> VERBS = Arrays.asList("lay", "sit", "rise", "grate", "hour");

    interface Node {
        int value(Map<String, Integer> facts);
    }

    @SuppressWarnings("serial")
    static final class Fault extends RuntimeException {
        final int code;

        Fault(int kind, int place) {
            code = kind + 16 * place;
        }
    }

    static final class Token {
        String text;
        int place;
        // word, number, sign, none, end
        String sort;
    }

    static final class Told {
        final List<String> seats = new ArrayList<>();
        final List<int[]> spots = new ArrayList<>();
        final List<String> persons = new ArrayList<>();
        final List<Integer> kinds = new ArrayList<>();
        final List<Integer> nutmegs = new ArrayList<>();
        final Set<List<Integer>> foes = new HashSet<>();
        int lasts = 6;
        Node wears = f -> 1;
    }

    static final class State {
        // seat to (whose, how much is left)
        final TreeMap<Integer, int[]> lies = new TreeMap<>();
        // person to seat
        final TreeMap<Integer, Integer> sits = new TreeMap<>();
        final List<Integer> pockets = new ArrayList<>();
        int hour;

        State copy() {
            State s = new State();
            lies.forEach((seat, nut) -> s.lies.put(seat, nut.clone()));
            s.sits.putAll(sits);
            s.pockets.addAll(pockets);
            s.hour = hour;
            return s;
        }
    }

    String tape = "";
    Told told = new Told();
    List<int[]> evening = new ArrayList<>();
    State now = new State();
    List<int[]> seen = new ArrayList<>();
    Deque<State> undo = new ArrayDeque<>();
    Map<Integer, State> markStates = new HashMap<>();
    Map<Integer, List<int[]>> markSeen = new HashMap<>();

    // ---- reading

    private List<Token> tokens;
    private int at;

    private void split() {
        tokens = new ArrayList<>();
        at = 0;
        Matcher m = Pattern.compile("[a-z]+|[0-9]+|[^ \n]").matcher(tape);
        while (m.find()) {
            Token t = new Token();
            t.text = m.group();
            t.place = m.start();
            if (t.text.matches("[a-z]{1,8}")) {
                t.sort = "word";
            } else if (t.text.matches("[0-9]{1,4}")) {
                t.sort = "number";
            } else if (t.text.matches("[()<=+*;-]")) {
                t.sort = "sign";
            } else {
                t.sort = "none";
            }
            tokens.add(t);
        }
        Token end = new Token();
        end.text = "";
        end.place = tape.length();
        end.sort = "end";
        tokens.add(end);
    }

    private Token here() {
        return tokens.get(at);
    }

    private Fault fault(int kind) {
        return new Fault(kind, here().place);
    }

    private void must(String text) {
        if (!here().text.equals(text)) {
            throw fault(1);
        }
        at++;
    }

    private String name() {
        Token t = here();
        if (!t.sort.equals("word") || RESERVED.contains(t.text)) {
            throw fault(1);
        }
        return t.text;
    }

    private String newName(Told h) {
        String n = name();
        if (h.seats.contains(n) || h.persons.contains(n)) {
            throw fault(3);
        }
        at++;
        return n;
    }

    private int known(List<String> names) {
        int i = names.indexOf(name());
        if (i < 0) {
            throw fault(2);
        }
        return i;
    }

    private int number(int least, int most) {
        if (!here().sort.equals("number")) {
            throw fault(1);
        }
        int n = Integer.parseInt(here().text);
        if (n < least || n > most) {
            throw fault(4);
        }
        return n;
    }

    int hall() {
        split();
        tape = "";
        Told h = new Told();
        boolean lasts = false;
        boolean wears = false;
        try {
            while (!here().sort.equals("end")) {
                String word = here().text;
                switch (word) {
                    case "seat":
                        if (h.seats.size() == 7) {
                            throw fault(5);
                        }
                        at++;
                        seatLine(h);
                        break;
                    case "person":
                        if (h.persons.size() == 5) {
                            throw fault(5);
                        }
                        at++;
                        personLine(h);
                        break;
                    case "foe":
                        at++;
                        foeLine(h);
                        break;
                    case "lasts":
                        if (lasts) {
                            throw fault(3);
                        }
                        lasts = true;
                        at++;
                        h.lasts = number(1, 30);
                        at++;
                        break;
                    case "wears":
                        if (wears) {
                            throw fault(3);
                        }
                        wears = true;
                        at++;
                        h.wears = choice(0);
                        break;
                    default:
                        throw fault(1);
                }
                must(";");
            }
        } catch (Fault f) {
            return f.code;
        }
        told = h;
        now = begin();
        evening = new ArrayList<>();
        seen = new ArrayList<>();
        undo.clear();
        markStates.clear();
        markSeen.clear();
        return 0;
    }

    private void seatLine(Told h) {
        String n = newName(h);
        must("row");
        int row = number(0, 4);
        at++;
        must("at");
        int place = number(0, 9);
        for (int[] spot : h.spots) {
            if (Arrays.equals(spot, new int[] {row, place})) {
                throw fault(3);
            }
        }
        at++;
        h.seats.add(n);
        h.spots.add(new int[] {row, place});
    }

    private void personLine(Told h) {
        String n = newName(h);
        int kind = KINDS.indexOf(here().text);
        if (kind < 0) {
            throw fault(1);
        }
        at++;
        must("nutmegs");
        h.nutmegs.add(number(0, 9));
        at++;
        h.persons.add(n);
        h.kinds.add(kind);
    }

    private void foeLine(Told h) {
        int a = known(h.persons);
        at++;
        int b = known(h.persons);
        if (a == b || h.foes.contains(Arrays.asList(a, b))) {
            throw fault(3);
        }
        at++;
        h.foes.add(Arrays.asList(a, b));
        h.foes.add(Arrays.asList(b, a));
    }

    private static int bool(boolean b) {
        return b ? 1 : 0;
    }

    private Node choice(int within) {
        Node left = test(within);
        while (here().text.equals("and") || here().text.equals("or")) {
            boolean and = here().text.equals("and");
            at++;
            Node a = left;
            Node b = test(within);
            left = and ? f -> bool(a.value(f) != 0 & b.value(f) != 0) : f -> bool(a.value(f) != 0 | b.value(f) != 0);
        }
        return left;
    }

    private Node test(int within) {
        Node a = sum(within);
        if (here().text.equals("<")) {
            at++;
            Node b = sum(within);
            return f -> bool(a.value(f) < b.value(f));
        }
        if (here().text.equals("=")) {
            at++;
            Node b = sum(within);
            return f -> bool(a.value(f) == b.value(f));
        }
        return a;
    }

    private Node sum(int within) {
        Node left = product(within);
        while (here().text.equals("+") || here().text.equals("-")) {
            int sign = here().text.equals("+") ? 1 : -1;
            at++;
            Node a = left;
            Node b = product(within);
            left = f -> a.value(f) + sign * b.value(f);
        }
        return left;
    }

    private Node product(int within) {
        Node left = part(within);
        while (here().text.equals("*")) {
            at++;
            Node a = left;
            Node b = part(within);
            left = f -> a.value(f) * b.value(f);
        }
        return left;
    }

    private Node part(int within) {
        Token t = here();
        boolean fact = Arrays.asList("fresh", "company", "rank", "date").contains(t.text);
        boolean deeper = t.text.equals("not") || t.text.equals("(");
        if (!fact && !deeper && !t.sort.equals("number")) {
            throw fault(1);
        }
        if (within == 5) {
            throw fault(5);
        }
        at++;
        if (t.text.equals("not")) {
            Node a = part(within + 1);
            return f -> bool(a.value(f) == 0);
        }
        if (t.text.equals("(")) {
            Node a = choice(within + 1);
            must(")");
            return a;
        }
        if (fact) {
            return f -> f.get(t.text);
        }
        int n = Integer.parseInt(t.text);
        return f -> n;
    }

    int evening() {
        split();
        tape = "";
        List<int[]> lines = new ArrayList<>();
        try {
            while (!here().sort.equals("end")) {
                int verb = VERBS.indexOf(here().text);
                if (verb < 0) {
                    throw fault(1);
                }
                if (lines.size() == 40) {
                    throw fault(5);
                }
                at++;
                int person = -1;
                int seat = -1;
                if (verb != 4) {
                    person = known(told.persons);
                    at++;
                }
                if (verb != 4 && verb != 2) {
                    seat = known(told.seats);
                    at++;
                }
                must(";");
                lines.add(new int[] {verb, person, seat});
            }
        } catch (Fault f) {
            return f.code;
        }
        evening = lines;
        return 0;
    }

    // ---- what the terms say

    private State begin() {
        State s = new State();
        s.pockets.addAll(told.nutmegs);
        return s;
    }

    private int seats() {
        return told.seats.size();
    }

    private int persons() {
        return told.persons.size();
    }

    private boolean isSeat(int s) {
        return s >= 0 && s < seats();
    }

    private boolean isPerson(int p) {
        return p >= 0 && p < persons();
    }

    private boolean near(int a, int b) {
        int[] p = told.spots.get(a);
        int[] q = told.spots.get(b);
        boolean inRow = p[0] == q[0] && (p[1] == q[1] + 1 || q[1] == p[1] + 1);
        boolean across = p[1] == q[1] && (p[0] == q[0] + 1 || q[0] == p[0] + 1);
        return inRow || across;
    }

    private boolean foes(int a, int b) {
        return told.foes.contains(Arrays.asList(a, b));
    }

    private int life(int p) {
        switch (told.kinds.get(p)) {
            case 0:
                return told.lasts;
            case 1:
                return told.lasts * 2;
            case 2:
                return (int) Math.ceil(told.lasts / 2.0);
            default:
                return 99;
        }
    }

    private int bits(int bound, IntPredicate in) {
        int set = 0;
        for (int i = 0; i < bound; i++) {
            if (in.test(i)) {
                set += (int) Math.pow(2, i);
            }
        }
        return set;
    }

    private boolean free(State s, int seat) {
        return !s.lies.containsKey(seat) && !s.sits.containsValue(seat);
    }

    private boolean layOn(State s, int p, int seat) {
        if (!isPerson(p) || !isSeat(seat) || s.pockets.get(p) == 0 || !free(s, seat)) {
            return false;
        }
        s.pockets.set(p, s.pockets.get(p) - 1);
        s.lies.put(seat, new int[] {p, life(p)});
        return true;
    }

    private boolean maySit(State s, int p, int seat) {
        boolean anothers = s.lies.containsKey(seat) && s.lies.get(seat)[0] != p;
        return !s.sits.containsKey(p) && !s.sits.containsValue(seat) && !anothers;
    }

    private boolean sitOn(State s, int p, int seat) {
        if (!isPerson(p) || !isSeat(seat) || !maySit(s, p, seat)) {
            return false;
        }
        if (s.lies.remove(seat) != null) {
            s.pockets.set(p, s.pockets.get(p) + 1);
        }
        s.sits.put(p, seat);
        return true;
    }

    private boolean riseUp(State s, int p) {
        return isPerson(p) && s.sits.remove(p) != null;
    }

    private boolean grateOn(State s, int p, int seat) {
        if (!isPerson(p) || !isSeat(seat) || !s.sits.containsKey(p) || !s.lies.containsKey(seat)) {
            return false;
        }
        int[] nut = s.lies.get(seat);
        if (!near(s.sits.get(p), seat) || !foes(p, nut[0])) {
            return false;
        }
        int kind = told.kinds.get(p);
        nut[1] -= kind == 2 ? 5 : kind == 1 ? 1 : 3;
        if (nut[1] <= 0) {
            s.lies.remove(seat);
        }
        return true;
    }

    private Set<Integer> pass(State s, int draught) {
        Map<Integer, Integer> left = new TreeMap<>();
        s.lies.forEach((seat, nut) -> {
            int less = 0;
            if (told.kinds.get(nut[0]) != 3) {
                Map<String, Integer> facts = new HashMap<>();
                facts.put("fresh", nut[1]);
                facts.put("company", (int) s.lies.keySet().stream().filter(o -> near(o, seat)).count());
                facts.put("rank", told.spots.get(seat)[0]);
                facts.put("date", s.hour);
                int e = told.wears.value(facts);
                less = draught + (e < 0 ? 0 : e > 9 ? 9 : e);
            }
            left.put(seat, nut[1] - less);
        });
        Set<Integer> gone = new TreeSet<>();
        left.forEach((seat, l) -> {
            s.lies.get(seat)[1] = l;
            if (l <= 0) {
                s.lies.remove(seat);
                gone.add(seat);
            }
        });
        s.hour++;
        return gone;
    }

    private void remember(State before) {
        undo.addLast(before);
        if (undo.size() > 16) {
            undo.removeFirst();
        }
    }

    // ---- the face

    int feed(long a, long b, long c) {
        StringBuilder t = new StringBuilder(tape);
        for (long x : new long[] {a, b, c}) {
            for (byte sign : java.nio.ByteBuffer.allocate(8).putLong(x).array()) {
                if ((sign == 10 || sign >= 32 && sign <= 126) && t.length() < 1000) {
                    t.append((char) sign);
                }
            }
        }
        tape = t.toString();
        return tape.length();
    }

    int seat(int seat, int what) {
        if (!isSeat(seat)) {
            return -2;
        }
        switch (what) {
            case 0:
                return told.spots.get(seat)[0];
            case 1:
                return told.spots.get(seat)[1];
            case 2:
                return now.lies.containsKey(seat) ? now.lies.get(seat)[0] : -1;
            case 3:
                return now.lies.containsKey(seat) ? now.lies.get(seat)[1] : 0;
            case 4:
                return now.sits.entrySet().stream().filter(e -> e.getValue() == seat)
                    .map(Map.Entry::getKey).findAny().orElse(-1);
            case 5:
                return bits(seats(), o -> near(o, seat));
            default:
                return -2;
        }
    }

    int person(int person, int what) {
        if (!isPerson(person)) {
            return -2;
        }
        switch (what) {
            case 0:
                return told.kinds.get(person);
            case 1:
                return now.pockets.get(person);
            case 2:
                return now.sits.getOrDefault(person, -1);
            case 3:
                return bits(seats(), s -> now.lies.containsKey(s) && now.lies.get(s)[0] == person);
            case 4:
                return bits(persons(), o -> foes(o, person));
            default:
                return -2;
        }
    }

    int lay(int person, int seat) {
        State before = now.copy();
        if (!layOn(now, person, seat)) {
            return -1;
        }
        remember(before);
        return life(person);
    }

    int sit(int person, int seat) {
        State before = now.copy();
        if (!sitOn(now, person, seat)) {
            return -1;
        }
        remember(before);
        return now.pockets.get(person);
    }

    int rise(int person) {
        State before = now.copy();
        if (!riseUp(now, person)) {
            return -1;
        }
        remember(before);
        return before.sits.get(person);
    }

    int grate(int person, int seat) {
        State before = now.copy();
        if (!grateOn(now, person, seat)) {
            return -1;
        }
        remember(before);
        return now.lies.containsKey(seat) ? now.lies.get(seat)[1] : 0;
    }

    int hour() {
        remember(now.copy());
        Set<Integer> gone = pass(now, 0);
        return bits(seats(), gone::contains);
    }

    boolean undo() {
        if (undo.isEmpty()) {
            return false;
        }
        now = undo.removeLast();
        return true;
    }

    int judged(int what) {
        State s = begin();
        int cannot = -1;
        int byWhich = -1;
        for (int i = 0; i < evening.size(); i++) {
            int[] line = evening.get(i);
            Set<Integer> before = new TreeSet<>(s.lies.keySet());
            boolean can = true;
            boolean wearing = line[0] >= 3;
            switch (line[0]) {
                case 0:
                    can = layOn(s, line[1], line[2]);
                    break;
                case 1:
                    can = sitOn(s, line[1], line[2]);
                    break;
                case 2:
                    can = riseUp(s, line[1]);
                    break;
                case 3:
                    can = grateOn(s, line[1], line[2]);
                    break;
                default:
                    pass(s, 0);
            }
            if (!can && cannot < 0) {
                cannot = i;
            }
            if (wearing && s.lies.size() < before.size() && byWhich < 0) {
                byWhich = i;
            }
        }
        return what == 0 ? cannot : what == 1 ? byWhich : what == 2 ? s.sits.size() : -2;
    }

    int left(int seat) {
        if (!now.lies.containsKey(seat)) {
            return -1;
        }
        State s = now.copy();
        for (int h = 1; h < 100; h++) {
            pass(s, 0);
            if (!s.lies.containsKey(seat)) {
                return h;
            }
        }
        return -1;
    }

    int later(int seat, int hours) {
        if (!now.lies.containsKey(seat) || hours < 0 || hours > 60) {
            return -1;
        }
        State s = now.copy();
        for (int h = 0; h < hours; h++) {
            pass(s, 0);
        }
        return s.lies.containsKey(seat) ? s.lies.get(seat)[1] : 0;
    }

    int first() {
        int best = -1;
        for (int seat : now.lies.keySet()) {
            if (left(seat) > 0 && (best < 0 || left(seat) < left(best))) {
                best = seat;
            }
        }
        return best;
    }

    int empties() {
        int longest = 0;
        for (int seat : now.lies.keySet()) {
            if (left(seat) < 0) {
                return -1;
            }
            longest = Math.max(longest, left(seat));
        }
        return longest;
    }

    /** All rows of seats (7: none, which comes last), by persons, in their order. */
    private List<int[]> rows() {
        List<int[]> rows = new ArrayList<>();
        int total = (int) Math.pow(8, persons());
        for (int code = 0; code < total; code++) {
            int[] row = new int[persons()];
            int rest = code;
            for (int p = persons() - 1; p >= 0; p--) {
                row[p] = rest % 8;
                rest /= 8;
            }
            boolean fine = true;
            for (int p = 0; p < row.length; p++) {
                fine &= row[p] == 7 || isSeat(row[p]);
                for (int q = 0; q < p; q++) {
                    fine &= row[p] == 7 || row[p] != row[q];
                }
            }
            if (fine) {
                rows.add(row);
            }
        }
        return rows;
    }

    int most(int what) {
        int most = -1;
        int[] best = null;
        for (int[] row : rows()) {
            int sitting = 0;
            boolean fine = true;
            for (int p = 0; p < row.length; p++) {
                fine &= row[p] == 7 || maySit(now, p, row[p]);
                sitting += row[p] == 7 ? 0 : 1;
            }
            if (fine && sitting > most) {
                most = sitting;
                best = row;
            }
        }
        if (what == -1) {
            return most;
        }
        if (!isPerson(what) || now.sits.containsKey(what)) {
            return -2;
        }
        return best[what] == 7 ? -1 : best[what];
    }

    int could(int person) {
        if (!isPerson(person) || now.sits.containsKey(person)) {
            return -1;
        }
        return bits(seats(), s -> maySit(now, person, s));
    }

    private int used(int person, List<Integer> on, int hours) {
        State s = now.copy();
        int used = 0;
        for (int h = 1; h <= hours; h++) {
            for (int seat : on) {
                if (!s.lies.containsKey(seat)) {
                    s.lies.put(seat, new int[] {person, life(person)});
                    used++;
                }
            }
            pass(s, 0);
        }
        return used;
    }

    int needs(int person, int seat, int hours) {
        if (!isPerson(person) || !isSeat(seat) || hours < 1 || hours > 60 || !free(now, seat)) {
            return -1;
        }
        return used(person, Arrays.asList(seat), hours);
    }

    int keeps(int person, int hours, int what) {
        if (!isPerson(person) || hours < 1 || hours > 30 || what < 0 || what > 1) {
            return -1;
        }
        int bestSize = 0;
        int best = 0;
        for (int set = 0; set < 128; set++) {
            List<Integer> on = new ArrayList<>();
            boolean fine = true;
            for (int seat = 0; seat < 7; seat++) {
                if (set / (1 << seat) % 2 == 1) {
                    on.add(seat);
                    fine &= isSeat(seat) && free(now, seat);
                }
            }
            if (fine && used(person, on, hours) <= now.pockets.get(person) && on.size() > bestSize) {
                bestSize = on.size();
                best = set;
            }
        }
        return what == 0 ? bestSize : best;
    }

    int placed(int what) {
        int ways = 0;
        int[] first = null;
        for (int[] row : rows()) {
            boolean fine = true;
            for (int p = 0; p < row.length; p++) {
                fine &= row[p] != 7;
                for (int q = 0; q < p && fine; q++) {
                    fine &= !(foes(p, q) && near(row[p], row[q]));
                }
            }
            if (fine) {
                ways++;
                first = first == null ? row : first;
            }
        }
        if (what == -1) {
            return ways;
        }
        return isPerson(what) && ways > 0 ? first[what] : -2;
    }

    private int pairs(boolean ofFoes) {
        int pairs = 0;
        for (int a = 0; a < persons(); a++) {
            for (int b = a + 1; b < persons(); b++) {
                boolean both = now.sits.containsKey(a) && now.sits.containsKey(b);
                if (both && near(now.sits.get(a), now.sits.get(b)) && foes(a, b) == ofFoes) {
                    pairs++;
                }
            }
        }
        return pairs;
    }

    int peace() {
        return pairs(false);
    }

    int war() {
        return pairs(true);
    }

    private boolean foeSitsNear(int person, int seat) {
        return now.sits.entrySet().stream().anyMatch(e -> foes(e.getKey(), person) && near(e.getValue(), seat));
    }

    int safe() {
        return bits(seats(), s -> now.lies.containsKey(s) && !foeSitsNear(now.lies.get(s)[0], s));
    }

    boolean see(int seat, int hours, boolean lies) {
        if (!isSeat(seat) || hours < 1 || hours > 60 || seen.size() == 8) {
            return false;
        }
        seen.add(new int[] {seat, hours, bool(lies)});
        return true;
    }

    private boolean lies(int person, int seat, int hours) {
        if (!free(now, seat)) {
            return false;
        }
        State s = now.copy();
        s.lies.put(seat, new int[] {person, life(person)});
        for (int h = 0; h < hours; h++) {
            pass(s, 0);
        }
        return s.lies.containsKey(seat);
    }

    int who() {
        return bits(persons(), p -> seen.stream().allMatch(e -> lies(p, e[0], e[1]) == (e[2] == 1)));
    }

    int ask() {
        int who = who();
        int all = Integer.bitCount(who);
        int best = all;
        int answer = -1;
        for (int hours = 1; hours <= 60; hours++) {
            for (int seat = 0; seat < seats(); seat++) {
                if (free(now, seat)) {
                    int yes = 0;
                    for (int p = 0; p < persons(); p++) {
                        yes += (who >> p) % 2 == 1 && lies(p, seat, hours) ? 1 : 0;
                    }
                    if (Math.max(yes, all - yes) < best) {
                        best = Math.max(yes, all - yes);
                        answer = 8 * hours + seat;
                    }
                }
            }
        }
        return answer;
    }

    int far(int seat, int other) {
        if (!isSeat(seat) || !isSeat(other)) {
            return -1;
        }
        int[][] d = new int[seats()][seats()];
        for (int a = 0; a < seats(); a++) {
            for (int b = 0; b < seats(); b++) {
                d[a][b] = a == b ? 0 : near(a, b) ? 1 : 1000;
            }
        }
        for (int k = 0; k < seats(); k++) {
            for (int a = 0; a < seats(); a++) {
                for (int b = 0; b < seats(); b++) {
                    d[a][b] = Math.min(d[a][b], d[a][k] + d[k][b]);
                }
            }
        }
        return d[seat][other] >= 1000 ? -1 : d[seat][other];
    }

    private void flood(int seat, Set<Integer> rest, Set<Integer> block) {
        if (!rest.remove(seat)) {
            return;
        }
        block.add(seat);
        for (int other = 0; other < seats(); other++) {
            if (near(seat, other)) {
                flood(other, rest, block);
            }
        }
    }

    int blocks(int what) {
        Set<Integer> rest = new TreeSet<>();
        for (int seat = 0; seat < seats(); seat++) {
            if (free(now, seat)) {
                rest.add(seat);
            }
        }
        int count = 0;
        int largest = 0;
        while (!rest.isEmpty()) {
            Set<Integer> block = new TreeSet<>();
            flood(rest.iterator().next(), rest, block);
            count++;
            largest = Math.max(largest, block.size());
        }
        return what == 0 ? count : what == 1 ? largest : -1;
    }

    private int owns(int p) {
        return now.pockets.get(p) + (int) now.lies.values().stream().filter(n -> n[0] == p).count();
    }

    int rich() {
        int best = -1;
        for (int p = persons() - 1; p >= 0; p--) {
            if (best < 0 || owns(p) >= owns(best)) {
                best = p;
            }
        }
        return best;
    }

    int lone() {
        return bits(seats(), s -> seat(s, 5) == 0);
    }

    int row(int row) {
        return row < 0 || row > 4 ? -1 : bits(seats(), s -> told.spots.get(s)[0] == row && free(now, s));
    }

    int stands() {
        return bits(persons(), p -> !now.sits.containsKey(p) && could(p) == 0);
    }

    int guards(int person) {
        if (!isPerson(person)) {
            return -1;
        }
        return bits(seats(), s -> free(now, s) && !foeSitsNear(person, s) && now.lies.entrySet().stream()
            .noneMatch(e -> near(e.getKey(), s) && foes(e.getValue()[0], person)));
    }

    int chance(int seat, int hours, int odds) {
        if (!now.lies.containsKey(seat) || hours < 1 || hours > 6 || odds < 0 || odds > 10) {
            return -1;
        }
        long of = 1;
        for (int h = 0; h < hours; h++) {
            of *= 10;
        }
        return (int) (gone(now, seat, hours, odds) * 1000000L / of);
    }

    private long gone(State s, int seat, int hours, int odds) {
        if (hours == 0) {
            return s.lies.containsKey(seat) ? 0 : 1;
        }
        State still = s.copy();
        pass(still, 0);
        State draughty = s.copy();
        pass(draughty, 2);
        return odds * gone(draughty, seat, hours - 1, odds) + (10 - odds) * gone(still, seat, hours - 1, odds);
    }

    int rests(int lose, int sits, int bows, int what) {
        if (lose < 0 || lose > 9 || sits < 0 || sits > 9 || bows < 0 || bows > 9) {
            throw new NoSuchElementException();
        }
        // gains[mine][the other one's]
        int[][] gains = {{0, bows}, {sits, -lose}};
        List<Integer> rests = new ArrayList<>();
        for (int a = 0; a < 2; a++) {
            for (int b = 0; b < 2; b++) {
                if (gains[1 - a][b] <= gains[a][b] && gains[1 - b][a] <= gains[b][a]) {
                    rests.add(2 * a + b);
                }
            }
        }
        if (what == -1) {
            return rests.size();
        }
        if (what < 0 || what >= rests.size()) {
            throw new NoSuchElementException();
        }
        return rests.get(what);
    }

    private long g;

    private int draw(int m) {
        g = java.math.BigInteger.valueOf(g).multiply(java.math.BigInteger.valueOf(1103515245))
            .add(java.math.BigInteger.valueOf(12345)).mod(java.math.BigInteger.valueOf(2147483648L)).longValue();
        return (int) (g / 65536 % m);
    }

    int seasons(int seed, int hours, int what) {
        if (seed < 0 || seed > 9999 || hours < 1 || hours > 99 || what < 0 || what > 2) {
            return -1;
        }
        g = seed;
        State s = now.copy();
        int gone = 0;
        for (int h = 0; h < hours; h++) {
            if (persons() > 0 && seats() > 0) {
                int p = draw(persons());
                int seat = draw(seats());
                int act = draw(5);
                int lying = s.lies.size();
                if (act == 0) {
                    layOn(s, p, seat);
                } else if (act == 1) {
                    sitOn(s, p, seat);
                } else if (act == 2) {
                    riseUp(s, p);
                } else if (act == 3) {
                    grateOn(s, p, seat);
                    gone += lying - s.lies.size();
                }
            }
            gone += pass(s, 0).size();
        }
        int sum = s.lies.size();
        for (int n : s.pockets) {
            sum += n;
        }
        return what == 0 ? gone : what == 1 ? bits(persons(), s.sits::containsKey) : sum;
    }

    boolean mark(int mark, boolean back) {
        if (mark < 0 || mark > 3) {
            return false;
        }
        if (!back) {
            markStates.put(mark, now.copy());
            markSeen.put(mark, new ArrayList<>(seen));
            return true;
        }
        if (!markStates.containsKey(mark)) {
            return false;
        }
        now = markStates.get(mark).copy();
        seen = new ArrayList<>(markSeen.get(mark));
        undo.clear();
        return true;
    }

    int count(int what) {
        switch (what) {
            case 0:
                return seats();
            case 1:
                return persons();
            case 2:
                return told.lasts;
            case 3:
                return now.hour;
            case 4:
                return bits(seats(), s -> free(now, s));
            case 5:
                return bits(seats(), now.lies::containsKey);
            case 6:
                return bits(persons(), now.sits::containsKey);
            case 7:
                return now.pockets.stream().mapToInt(Integer::intValue).sum();
            case 8:
                return evening.size();
            case 9:
                return seen.size();
            case 10:
                return undo.size();
            case 11:
                return tape.length();
            default:
                return -1;
        }
    }
}
