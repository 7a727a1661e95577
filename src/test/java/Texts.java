import java.util.ArrayList;
import java.util.List;

/** Makes texts of halls and of evenings by dice, most of them without a fault. */
final class Texts {
    private static final String[] NAMES = {
        "a", "b", "c", "d", "e", "f", "g", "ann", "bel", "cut", "dirk", "emma", "fresh", "date", "rank",
        "company", "eightlet", "sea", "seats", "rows", "ati", "x", "y", "z", "lasting", "wear", "ho", "hours"};
    private static final String[] ANY = {
        "seat", "row", "at", "person", "nutmegs", "foe", "lasts", "wears", "lay", "sit", "rise", "grate", "hour",
        "plain", "lady", "rasp", "captain", "not", "and", "or", "fresh", "company", "rank", "date",
        "0", "1", "2", "3", "4", "5", "9", "10", "30", "31", "9999", "12345", "0000", "00001", "(", ")", "<", "=",
        "+", "-", "*", ";", ";", "ninelette", "eightlet", "A", ".", "#", "a", "b", "c", "ann", "bel"};

    private final Dice dice;
    private final List<String> seats = new ArrayList<>();
    private final List<String> persons = new ArrayList<>();

    Texts(Dice dice) {
        this.dice = dice;
    }

    String hall() {
        List<String> names = new ArrayList<>(List.of(NAMES));
        List<String> lines = new ArrayList<>();
        seats.clear();
        persons.clear();
        int places = dice.once(8) ? dice.from(0, 9) : dice.from(3, 7);
        int people = dice.once(8) ? dice.from(0, 6) : dice.from(2, 5);
        int most = dice.from(1, 9);
        int wide = dice.from(1, 4);
        List<String> spots = new ArrayList<>();
        for (int i = 0; i < places; i++) {
            String name = names.remove(dice.below(names.size()));
            String spot = "row " + dice.from(0, dice.once(2) ? 1 : 4) + " at " + dice.from(0, dice.once(6) ? 9 : wide);
            for (int tries = 0; tries < 20 && spots.contains(spot) && !dice.once(400); tries++) {
                spot = "row " + dice.from(0, 3) + " at " + dice.from(0, wide + 1);
            }
            spots.add(spot);
            seats.add(name);
            lines.add("seat " + name + " " + spot + " ;");
        }
        for (int i = 0; i < people; i++) {
            String name = names.remove(dice.below(names.size()));
            persons.add(name);
            lines.add(dice.below(lines.size() + 1), "person " + name + " " + dice.pick("plain", "lady", "rasp", "captain")
                + " nutmegs " + dice.from(0, most) + " ;");
        }
        if (!dice.once(4)) {
            lines.add(dice.below(lines.size() + 1), "lasts " + (dice.once(3) ? dice.from(1, 30) : dice.from(1, 8)) + " ;");
        }
        if (!dice.once(3)) {
            lines.add(dice.below(lines.size() + 1), "wears " + choice(0) + " ;");
        }
        for (int i = 0; i < people; i++) {
            for (int j = 0; j < i; j++) {
                if (dice.once(2)) {
                    boolean turn = dice.once(2);
                    lines.add("foe " + persons.get(turn ? i : j) + " " + persons.get(turn ? j : i) + " ;");
                }
            }
        }
        return spaced(String.join(" ", lines));
    }

    String evening() {
        List<String> lines = new ArrayList<>();
        int count = dice.once(10) ? dice.from(36, 42) : dice.from(0, 25);
        for (int i = 0; i < count; i++) {
            String person = some(persons);
            String seat = some(seats);
            switch (dice.below(9)) {
                case 0:
                case 1:
                    lines.add("lay " + person + " " + seat + " ;");
                    break;
                case 2:
                case 3:
                    lines.add("sit " + person + " " + seat + " ;");
                    break;
                case 4:
                    lines.add("rise " + person + " ;");
                    break;
                case 5:
                case 6:
                    lines.add("grate " + person + " " + seat + " ;");
                    break;
                default:
                    lines.add("hour ;");
            }
        }
        return spaced(String.join(" ", lines));
    }

    private String some(List<String> names) {
        return names.isEmpty() || dice.once(300) ? NAMES[dice.below(NAMES.length)] : names.get(dice.below(names.size()));
    }

    String choice(int within) {
        StringBuilder text = new StringBuilder(test(within));
        while (dice.once(4)) {
            text.append(dice.pick(" and ", " or ")).append(test(within));
        }
        return text.toString();
    }

    private String test(int within) {
        return sum(within) + (dice.once(3) ? dice.pick(" < ", " = ") + sum(within) : "");
    }

    private String sum(int within) {
        StringBuilder text = new StringBuilder(product(within));
        while (dice.once(3)) {
            text.append(dice.pick(" + ", " - ")).append(product(within));
        }
        return text.toString();
    }

    private String product(int within) {
        return part(within) + (dice.once(4) ? " * " + part(within) : "");
    }

    private String part(int within) {
        if (within < 5 && dice.once(5)) {
            return "( " + choice(within + 1) + " )";
        }
        if (within < 5 && dice.once(7)) {
            return "not " + part(within + 1);
        }
        return dice.once(3) ? String.valueOf(dice.once(9) ? dice.below(10000) : dice.below(4))
            : dice.pick("fresh", "company", "rank", "date");
    }

    /** One thing or two of it made otherwise, so that it has a fault as a rule. */
    String spoilt(String text) {
        for (int i = dice.from(1, 2); i > 0; i--) {
            List<String> tokens = new ArrayList<>(List.of(text.split(" ")));
            int at = dice.below(tokens.size());
            switch (dice.below(5)) {
                case 0:
                    tokens.remove(at);
                    break;
                case 1:
                    tokens.add(at, dice.pick(ANY));
                    break;
                case 2:
                    tokens.set(at, dice.pick(ANY));
                    break;
                case 3:
                    tokens.set(at, tokens.get(dice.below(tokens.size())));
                    break;
                default:
                    tokens = tokens.subList(0, at);
            }
            text = String.join(" ", tokens);
        }
        return text;
    }

    private String spaced(String text) {
        if (dice.once(3)) {
            return text;
        }
        StringBuilder out = new StringBuilder();
        for (int i = 0; i < text.length(); i++) {
            char sign = text.charAt(i);
            boolean needed = i > 0 && i + 1 < text.length() && Character.isLetter(text.charAt(i - 1))
                && Character.isLetter(text.charAt(i + 1));
            if (sign != ' ' || needed) {
                out.append(sign == ' ' && dice.once(5) ? '\n' : sign);
            } else if (!dice.once(3)) {
                out.append(dice.once(9) ? "  " : " ");
            }
        }
        return out.toString();
    }
}
