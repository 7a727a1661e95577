import java.util.ArrayList;
import java.util.Arrays;
import java.util.LinkedHashSet;
import java.util.List;
import java.util.Set;

/** The last SEAT and the last PERSON that a HALL can have, names, and what is read, marked or asked again. */
public final class EdgesOfFullHallsTest {
    private static final String SEATS = "seat a row 0 at 0 ; seat b row 0 at 1 ; seat c row 0 at 2 ; seat d row 0 at 3 ;"
        + " seat e row 0 at 4 ; seat f row 0 at 5 ; seat g row 0 at 6 ;";
    private static final String PERSONS = "person p plain nutmegs 1 ; person q plain nutmegs 1 ; person r plain nutmegs 1 ;"
        + " person s plain nutmegs 1 ; person t plain nutmegs 9 ;";
    private static final String FOES = "foe s t ;";

    private EdgesOfFullHallsTest() {
    }

    public static void main(String[] args) {
        lastPersonsNutmegOnTheLastSeat();
        lastPersonsNutmegGoes();
        lastPersonsNutmegIsGrated();
        lastPersonOnTheLastSeat();
        lastPersonTakesTheirOwn();
        neighboursOfTheLastSeat();
        guardsBesideTheLastSeat();
        lastPersonAsked();
        lastPersonKeeps();
        lastPersonOfARow();
        lastPersonSeen();
        lastSeatAsked();
        lastSeatApart();
        lastPersonsSeasons();
        allAreUndone();
        namesByTheirLetters();
        untoldAgain();
        untoldBehindAFault();
        allOperandsWait();
        seenOfAMark();
        keepsTheFirstSeatAlone();
        mostWhereNoneCould();
        fiveHundredAndTwelveCalls();
        Check.end();
    }

    private static void says(String words) {
        Check.says(words);
    }

    private static void is(String call, long got, long want) {
        Check.is(call, got, want);
    }

    private static NutmegSeats full() {
        return Check.told(SEATS, PERSONS, FOES);
    }

    private static void lastPersonsNutmegOnTheLastSeat() {
        says("seat: 7 at most; person: 5 at most: a NUTMEG of the fifth on the seventh");
        NutmegSeats x = full();
        is("lay(4, 6)", x.lay(4, 6), 6);
        is("whose", x.seat(6, 2), 4);
        is("left", x.seat(6, 3), 6);
        is("SEATS on which theirs lie", x.person(4, 3), 64);
        is("SEATS with NUTMEGS", x.count(5), 64);
        is("FREE SEATS", x.count(4), 63);
        is("FREE SEATS of the row", x.row(0), 63);
        is("in the pocket", x.person(4, 1), 8);
        is("in all pockets", x.count(7), 12);
        is("SAFE", x.safe(), 64);
        is("of all others, could(3)", x.could(3), 63);
        is("could(4)", x.could(4), 127);
    }

    private static void lastPersonsNutmegGoes() {
        says("LEFT, LATER, FIRST, EMPTIES, CHANCE, HOUR: of the fifth one's on the seventh");
        NutmegSeats x = full();
        x.lay(4, 6);
        is("left(6)", x.left(6), 6);
        is("later(6, 5)", x.later(6, 5), 1);
        is("first()", x.first(), 6);
        is("empties()", x.empties(), 6);
        is("chance(6, 2, 10)", x.chance(6, 2, 10), 1000000);
        is("chance(6, 3, 5)", x.chance(6, 3, 5), 500000);
        for (int i = 0; i < 5; i++) {
            is("hour()", x.hour(), 0);
        }
        is("the sixth hour()", x.hour(), 64);
        is("FREE SEATS", x.count(4), 127);
    }

    private static void lastPersonsNutmegIsGrated() {
        says("GRATE: the fifth one's on the seventh; by the fifth");
        NutmegSeats x = full();
        x.lay(4, 6);
        x.sit(3, 5);
        is("SAFE", x.safe(), 0);
        is("grate(3, 6)", x.grate(3, 6), 3);
        is("grate(3, 6)", x.grate(3, 6), 0);
        is("SEATS with NUTMEGS", x.count(5), 0);
        NutmegSeats y = full();
        y.lay(3, 5);
        y.sit(4, 6);
        is("grate(4, 5)", y.grate(4, 5), 3);
    }

    private static void lastPersonOnTheLastSeat() {
        says("SIT, RISE: the fifth on the seventh");
        NutmegSeats x = full();
        is("sit(4, 6)", x.sit(4, 6), 9);
        is("who sits there", x.seat(6, 4), 4);
        is("where", x.person(4, 2), 6);
        is("who sits", x.count(6), 16);
        is("FREE SEATS", x.count(4), 63);
        is("rise(4)", x.rise(4), 6);
        is("who sits there", x.seat(6, 4), -1);
        is("who sits", x.count(6), 0);
        is("FREE SEATS", x.count(4), 127);
        is("sit(0, 6)", x.sit(0, 6), 1);
    }

    private static void lastPersonTakesTheirOwn() {
        says("SIT: one of their own is in the pocket again then: the fifth one's on the seventh");
        NutmegSeats x = full();
        x.lay(4, 6);
        is("sit(4, 6)", x.sit(4, 6), 9);
        is("whose", x.seat(6, 2), -1);
        is("SEATS with NUTMEGS", x.count(5), 0);
        is("SEATS on which theirs lie", x.person(4, 3), 0);
    }

    private static void neighboursOfTheLastSeat() {
        says("PEACE, WAR: of who sits on the seventh");
        NutmegSeats x = full();
        x.sit(4, 6);
        x.sit(3, 5);
        is("war()", x.war(), 1);
        is("peace()", x.peace(), 0);
        x.rise(3);
        x.sit(2, 5);
        is("war()", x.war(), 0);
        is("peace()", x.peace(), 1);
    }

    private static void guardsBesideTheLastSeat() {
        says("GUARDS: NEAR to no FOE who sits on the seventh, and to none of a FOE's NUTMEGS there");
        NutmegSeats x = full();
        is("of t, nobody there", x.guards(4), 127);
        x.sit(3, 6);
        is("of t, s sits there", x.guards(4), 31);
        x.rise(3);
        x.lay(3, 6);
        is("of t, one of s lies there", x.guards(4), 31);
        NutmegSeats y = full();
        y.lay(4, 0);
        is("of s, one of t lies on the first", y.guards(3), 124);
        y.sit(4, 6);
        is("of s, t sits on the last, too", y.guards(3), 28);
    }

    private static void lastPersonAsked() {
        says("the fifth PERSON, asked for");
        NutmegSeats x = full();
        is("KIND", x.person(4, 0), 0);
        is("FOES", x.person(4, 4), 8);
        is("RICH", x.rich(), 4);
        is("NEEDS", x.needs(4, 6, 60), 10);
        is("STANDS", x.stands(), 0);
        NutmegSeats y = Check.told("seat a row 0 at 0 ;", PERSONS);
        y.lay(0, 0);
        is("STANDS", y.stands(), 30);
        NutmegSeats z = Check.told(SEATS, "person p plain nutmegs 3 ; person q plain nutmegs 0 ; person r plain nutmegs 0 ;"
            + " person s plain nutmegs 0 ; person t plain nutmegs 4 ;");
        z.lay(4, 6);
        is("RICH, one of them LAID", z.rich(), 4);
        z.lay(4, 5);
        is("RICH, two of them LAID", z.rich(), 4);
    }

    private static void lastPersonKeeps() {
        says("KEEPS: by the fifth one's pocket");
        NutmegSeats x = full();
        is("how many", x.keeps(4, 6, 0), 7);
        is("which", x.keeps(4, 6, 1), 127);
        is("which, two each", x.keeps(4, 7, 1), 15);
        x.lay(4, 6);
        is("which, the seventh held", x.keeps(4, 6, 1), 63);
        NutmegSeats y = full();
        for (int seat = 0; seat < 6; seat++) {
            if (seat < 5) {
                y.sit(seat, seat);
            } else {
                y.lay(0, seat);
            }
        }
        is("which, the seventh alone FREE", y.keeps(4, 6, 1), 64);
        is("how many", y.keeps(4, 6, 0), 1);
    }

    private static void lastPersonOfARow() {
        says("MOST, PLACED: where the fifth PERSON is");
        NutmegSeats x = full();
        is("most(4)", x.most(4), 4);
        is("placed(4)", x.placed(4), 5);
        is("placed(3)", x.placed(3), 3);
        for (int seat = 0; seat < 4; seat++) {
            x.lay(4, seat);
        }
        x.lay(4, 4);
        x.lay(4, 5);
        // But on the seventh only t could sit, on any one.
        is("most(-1)", x.most(-1), 2);
        is("most(0)", x.most(0), 6);
        is("most(4)", x.most(4), 0);
        x.sit(0, 6);
        is("most(4), alone", x.most(4), 0);
        is("most(3), alone", x.most(3), -1);
    }

    private static void lastPersonSeen() {
        says("WHO: the fifth alone, by a SEAT that is the seventh");
        NutmegSeats x = Check.told(SEATS, "person p plain nutmegs 1 ; person q plain nutmegs 1 ; person r plain nutmegs 1 ;"
            + " person s rasp nutmegs 1 ; person t lady nutmegs 1 ; lasts 5 ;");
        Check.is("see(6, 5, true)", x.see(6, 5, true), true);
        is("who()", x.who(), 16);
        NutmegSeats y = Check.told(SEATS, "person p plain nutmegs 1 ; person q plain nutmegs 1 ; person r plain nutmegs 1 ;"
            + " person s plain nutmegs 1 ; person t rasp nutmegs 1 ; lasts 5 ;");
        is("all but the fifth", y.ask(), 24);
        y.see(6, 3, false);
        is("who()", y.who(), 16);
    }

    private static void lastSeatAsked() {
        says("ASK: the SEAT: the seventh alone");
        NutmegSeats x = Check.told("seat a row 0 at 0 ; seat b row 0 at 2 ; seat c row 0 at 4 ; seat d row 0 at 6 ;"
            + " seat e row 0 at 8 ; seat f row 2 at 0 ; seat g row 4 at 0 ;",
            "person p captain nutmegs 1 ; person q plain nutmegs 1 ; lasts 30 ; wears 9 * ( rank = 4 ) ;");
        is("ask()", x.ask(), 8 * 4 + 6);
        x.sit(0, 6);
        is("ask(), it is not FREE", x.ask(), -1);
    }

    private static void lastSeatApart() {
        says("FAR, BLOCKS, LONE, ROW: of the seventh");
        NutmegSeats x = Check.told("seat a row 0 at 0 ; seat b row 0 at 1 ; seat c row 0 at 2 ; seat d row 0 at 3 ;"
            + " seat e row 0 at 4 ; seat f row 0 at 5 ; seat g row 4 at 9 ;");
        is("far(0, 6)", x.far(0, 6), -1);
        is("far(6, 6)", x.far(6, 6), 0);
        is("far(0, 5)", x.far(0, 5), 5);
        is("blocks(0)", x.blocks(0), 2);
        is("blocks(1)", x.blocks(1), 6);
        is("lone()", x.lone(), 64);
        is("row(4)", x.row(4), 64);
        is("SEATS NEAR", x.seat(6, 5), 0);
        NutmegSeats y = full();
        is("far(0, 6)", y.far(0, 6), 6);
        is("far(6, 0)", y.far(6, 0), 6);
        is("SEATS NEAR", y.seat(6, 5), 32);
    }

    private static void lastPersonsSeasons() {
        says("SEASONS: who sits at last, as bits; how many NUTMEGS all have: the fifth on the seventh, too");
        NutmegSeats x = Check.told(SEATS, "person p captain nutmegs 1 ; person q captain nutmegs 0 ;"
            + " person r captain nutmegs 0 ; person s captain nutmegs 0 ; person t captain nutmegs 9 ;");
        x.sit(4, 6);
        x.lay(4, 5);
        int sat = 0;
        int stood = 0;
        for (int seed = 0; seed < 50; seed++) {
            is("NUTMEGS by " + seed, x.seasons(seed, 30, 2), 10);
            int last = x.seasons(seed, 30, 1) >> 4;
            sat += last;
            stood += 1 - last;
        }
        Check.is("the fifth sits at last by some SEEDS", sat > 0, true);
        Check.is("the fifth stands at last by others", stood > 0, true);
    }

    private static void allAreUndone() {
        says("UNDO: all of these: of the fifth, of the seventh");
        NutmegSeats x = full();
        String begin = Check.state(x);
        x.lay(4, 6);
        Check.is("undo() of LAY", x.undo(), true);
        Check.is("as it was", Check.state(x).equals(begin), true);
        NutmegSeats y = full();
        y.sit(4, 6);
        y.rise(4);
        Check.is("undo() of RISE", y.undo(), true);
        is("where", y.person(4, 2) * 10 + y.seat(6, 4), 64);
        Check.is("undo() of SIT", y.undo(), true);
        Check.is("as it was", Check.state(y).equals(begin), true);
        NutmegSeats z = full();
        z.lay(4, 6);
        z.mark(3, false);
        z.sit(4, 6);
        z.mark(3, true);
        is("whose, behind a MARK", z.seat(6, 2), 4);
        is("who sits, behind a MARK", z.seat(6, 4), -1);
        is("in the pocket, behind a MARK", z.person(4, 1), 8);
    }

    /** Five names that differ by little: of one letter, and of a, z and that one. */
    private static List<String> alike(char letter) {
        Set<String> names = new LinkedHashSet<>(Arrays.asList("" + letter, "a" + letter, "aa", letter + "a",
            "" + letter + letter, "z" + letter, letter + "z", "zz"));
        names.remove("at");
        return new ArrayList<>(names).subList(0, 5);
    }

    private static void namesByTheirLetters() {
        says("no two (SEATS, PERSONS) are alike");
        for (char letter = 'a'; letter <= 'z'; letter++) {
            List<String> names = alike(letter);
            for (String has : names) {
                StringBuilder hall = new StringBuilder("seat onseat row 0 at 0 ; ");
                for (String name : names) {
                    hall.append("person ").append(name).append(" plain nutmegs ").append(name.equals(has) ? 1 : 0).append(" ; ");
                }
                NutmegSeats x = Check.told(hall.toString());
                for (String name : names) {
                    is("lay " + name, Check.evening(x, "lay " + name + " onseat ;"), 0);
                    is("none is " + name + "'s but " + has + "'s", x.judged(0), name.equals(has) ? -1 : 0);
                }
            }
        }
        for (int at = 0; at < 8; at++) {
            for (char letter = 'b'; letter <= 'z'; letter++) {
                String other = "a".repeat(at) + letter + "a".repeat(7 - at);
                NutmegSeats x = new NutmegSeats();
                String hall = "seat aaaaaaaa row 0 at 0 ; seat " + other + " row 0 at 1 ; seat ";
                is("another one: " + other, Check.hall(x, hall + other.substring(1) + " row 0 at 2 ;"), 0);
                is("the same: " + other, Check.hall(x, hall + other + " row 0 at 2 ;"), 3 + 16 * hall.length());
            }
        }
    }

    private static void untoldAgain() {
        says("lasts (6); without wears: 1: in each HALL anew");
        String untold = "seat a row 3 at 0 ; person p plain nutmegs 2 ;";
        NutmegSeats x = new NutmegSeats();
        for (int i = 0; i < 6; i++) {
            boolean told = i % 3 == 0;
            is("hall() " + i, Check.hall(x, untold + (told ? "lasts 9 ; wears 4 ;" : "")), 0);
            is("lasts", x.count(2), told ? 9 : 6);
            x.lay(0, 0);
            x.hour();
            is("left", x.seat(0, 3), 5);
        }
    }

    private static void untoldBehindAFault() {
        says("lasts (6); without wears: 1: what a text with a FAULT tells is not told");
        String untold = "seat a row 3 at 0 ; person p plain nutmegs 2 ;";
        String[] faulty = {"wears 9 ; lasts 2 ; #", "lasts 2 ; wears 9 ; seat z row 0 at 0 ; person y lady nutmegs 9 ; foe y y ;",
            "wears 9 + 9 * ( 3", "wears 9"};
        for (String text : faulty) {
            NutmegSeats x = new NutmegSeats();
            for (int i = 0; i < 3; i++) {
                Check.is("a FAULT: " + text, Check.hall(x, text) != 0, true);
                is("SEATS", x.count(0), i == 0 ? 0 : 1);
                is("hall()", Check.hall(x, untold), 0);
                is("SEATS, PERSONS", 10 * x.count(0) + x.count(1), 11);
                is("lasts", x.count(2), 6);
                x.lay(0, 0);
                x.hour();
                is("left", x.seat(0, 3), 5);
            }
        }
        NutmegSeats y = Check.told(untold);
        Check.is("an EVENING with a FAULT", Check.evening(y, "sit p a ; hour") != 0, true);
        is("lines", y.count(8), 0);
        is("an EVENING", Check.evening(y, "hour ;"), 0);
        is("lines", y.count(8), 1);
        is("none sits at last", y.judged(2), 0);
    }

    private static void allOperandsWait() {
        says("no PART lies within 5 of not and ( ): as much as can be waits for the innermost one");
        for (int k = 0; k <= 1; k++) {
            // Each of these tells 1 if what stands behind it is 0, and else 0.
            String open = "0 or 4 < 5 - 1 * ( ";
            String e = open.repeat(4) + "0 or 4 < 5 - 1 * " + k + " )".repeat(4);
            NutmegSeats x = Check.told("seat a row 0 at 0 ; person p plain nutmegs 1 ; lasts 9 ; wears " + e + " ;");
            x.lay(0, 0);
            is("wears " + e, 9 - x.later(0, 1), 1 - k);
            String deeper = "wears " + open.repeat(5);
            is("one deeper", Check.hall(x, deeper + k + " )".repeat(5) + " ;"), 5 + 16 * deeper.length());
        }
    }

    private static void seenOfAMark() {
        says("MARKS 0 to 3 hold .. what is SEEN");
        NutmegSeats x = Check.told(SEATS, "person p plain nutmegs 1 ; person q lady nutmegs 1 ; person r rasp nutmegs 1 ;"
            + " person s captain nutmegs 1 ; lasts 6 ;");
        x.mark(0, false);
        for (int i = 0; i < 7; i++) {
            x.see(i, 1, true);
        }
        x.see(6, 6, true);
        is("who(): q, s", x.who(), 10);
        x.mark(1, false);
        x.mark(0, true);
        is("none SEEN", x.count(9), 0);
        is("who(): all", x.who(), 15);
        // As many others in their place: of the rasp alone all is so.
        for (int i = 0; i < 7; i++) {
            x.see(6 - i, 3, false);
        }
        x.see(0, 2, true);
        is("who(): r", x.who(), 4);
        x.mark(2, false);
        x.mark(1, true);
        is("who() behind MARK 1", x.who(), 10);
        is("eight SEEN", x.count(9), 8);
        Check.is("a ninth", x.see(0, 1, true), false);
        x.mark(2, true);
        is("who() behind MARK 2", x.who(), 4);
        x.mark(0, true);
        // Each of the eight by itself is held: the first, and the last.
        x.see(0, 6, true);
        x.mark(3, false);
        x.mark(0, true);
        x.see(0, 6, false);
        is("who(): p, r", x.who(), 5);
        x.mark(3, true);
        is("who() behind MARK 3: q, s", x.who(), 10);
        x.mark(0, true);
        x.see(1, 60, true);
        is("who(): s", x.who(), 8);
        x.mark(3, true);
        is("who() behind MARK 3: q, s", x.who(), 10);
        // The SEAT is held, too: where p sits nothing lies, whose it ever is.
        x.mark(0, true);
        x.sit(0, 4);
        x.mark(1, false);
        x.see(4, 1, false);
        x.mark(2, false);
        is("who(): all", x.who(), 15);
        x.mark(1, true);
        x.see(3, 1, false);
        is("who(): nobody", x.who(), 0);
        x.mark(2, true);
        is("who() behind MARK 2: all", x.who(), 15);
    }

    private static void keepsTheFirstSeatAlone() {
        says("KEEPS: of equal ones the least set (bits): the first SEAT alone");
        NutmegSeats x = Check.told(SEATS, "person p plain nutmegs 1 ;");
        is("which", x.keeps(0, 6, 1), 1);
        is("how many", x.keeps(0, 6, 0), 1);
        is("which, one hour more", x.keeps(0, 7, 1), 0);
        NutmegSeats y = Check.told("seat a row 0 at 0 ;", "person p plain nutmegs 1 ;");
        is("which, of one SEAT", y.keeps(0, 1, 1), 1);
    }

    private static void mostWhereNoneCould() {
        says("MOST: (NONE: nowhere), asked again");
        NutmegSeats x = Check.told("seat a row 0 at 0 ; seat b row 0 at 1 ;", PERSONS);
        is("most(-1)", x.most(-1), 2);
        is("most(0), most(1)", 10 * x.most(0) + x.most(1), 1);
        is("most(2)", x.most(2), -1);
        x.lay(4, 0);
        x.lay(4, 1);
        x.sit(4, 0);
        is("most(-1)", x.most(-1), 0);
        for (int person = 0; person < 4; person++) {
            is("most(" + person + ")", x.most(person), -1);
        }
        is("placed(-1)", x.placed(-1), 0);
        is("most(0) behind it", x.most(0), -1);
    }

    private static void fiveHundredAndTwelveCalls() {
        says("an object is used for at most 512 calls");
        NutmegSeats x = new NutmegSeats();
        for (int i = 1; i < 512; i++) {
            is("hour() " + i, x.hour(), 0);
        }
        is("the 512th call: the hour", x.count(3), 511);
        NutmegSeats y = new NutmegSeats();
        for (int i = 1; i <= 512; i++) {
            is("feed() " + i, y.feed(-1L, ' ', ' '), Math.min(1000, 2 * i));
        }
        NutmegSeats z = new NutmegSeats();
        for (int i = 1; i <= 256; i++) {
            Check.is("mark()", z.mark(i % 4, false), true);
            Check.is("mark() back", z.mark(i % 4, true), true);
        }
        NutmegSeats w = Check.told("seat a row 0 at 0 ;", "person p captain nutmegs 1 ;");
        for (int i = 0; i < 120; i++) {
            is("lay()", w.lay(0, 0), 99);
            is("sit()", w.sit(0, 0), 1);
            is("rise()", w.rise(0), 0);
            Check.is("see()", w.see(0, 60, true), i < 8);
        }
    }
}
