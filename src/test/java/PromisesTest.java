import java.util.NoSuchElementException;

/** Promises 1 and 5 to 40, each by answers worked out by hand. Promises 2 to 4 are FaultsTest's. */
public final class PromisesTest {
    // Near: a b, b c, b d; nothing is near e.
    private static final String SEATS = "seat a row 0 at 0 ; seat b row 0 at 1 ; seat c row 0 at 2 ;"
        + " seat d row 1 at 1 ; seat e row 4 at 9 ; ";
    // With lasts 5 a nutmeg of theirs lasts 5, 10, 3, 99, 5.
    private static final String PERSONS = "person ann plain nutmegs 2 ; person bel lady nutmegs 1 ;"
        + " person cut rasp nutmegs 1 ; person dirk captain nutmegs 1 ; person eve plain nutmegs 0 ; ";
    private static final String FOES = "foe ann cut ; foe bel dirk ; foe cut eve ; lasts 5 ; ";
    private static final int[] BAD = {Integer.MIN_VALUE, -3, -2, -1, 5, 6, 7, 8, 31, 32, 33, 64, Integer.MAX_VALUE};

    private PromisesTest() {
    }

    private static NutmegSeats supper() {
        return Check.told(SEATS, PERSONS, FOES);
    }

    private static void due(String what, long got, long want) {
        Check.due(what, got, want);
    }

    private static void due(String what, boolean got, boolean want) {
        Check.due(what, got, want);
    }

    public static void main(String[] args) {
        newObject();
        seat();
        person();
        lay();
        lives();
        sit();
        rise();
        grate();
        hour();
        wears();
        undo();
        judged();
        left();
        later();
        first();
        empties();
        most();
        could();
        needs();
        keeps();
        placed();
        peaceAndWar();
        safe();
        seeAndWho();
        ask();
        far();
        blocks();
        rich();
        loneAndRow();
        stands();
        guards();
        chance();
        rests();
        seasons();
        mark();
        count();
        Check.end();
    }

    private static void newObject() {
        NutmegSeats x = new NutmegSeats();
        int[] begins = {0, 0, 6, 0, 0, 0, 0, 0, 0, 0, 0, 0};
        for (int i = 0; i < begins.length; i++) {
            due("1: count(" + i + ")", x.count(i), begins[i]);
        }
        due("1: NONE", NutmegSeats.NONE, -1);
        due("1: placed", x.placed(-1), 1);
        due("1: hour", x.hour(), 0);
        due("1: date", x.count(3), 1);
        due("1: seasons", x.seasons(5, 3, 0) + x.seasons(5, 3, 1) + x.seasons(5, 3, 2), 0);
    }

    private static void seat() {
        NutmegSeats x = supper();
        int[][] told = {{0, 0, -1, 0, -1, 2}, {0, 1, -1, 0, -1, 13}, {0, 2, -1, 0, -1, 2}, {1, 1, -1, 0, -1, 2},
            {4, 9, -1, 0, -1, 0}};
        for (int seat = 0; seat < told.length; seat++) {
            for (int what = 0; what < 6; what++) {
                due("5: seat(" + seat + ", " + what + ")", x.seat(seat, what), told[seat][what]);
            }
            due("5: seat(.., 6)", x.seat(seat, 6), -2);
            due("5: seat(.., -1)", x.seat(seat, -1), -2);
        }
        for (int bad : BAD) {
            due("5: seat(" + bad + ", 0)", x.seat(bad, 0), -2);
        }
        x.lay(1, 0);
        x.sit(3, 2);
        due("5: whose", x.seat(0, 2), 1);
        due("5: how much", x.seat(0, 3), 10);
        due("5: who", x.seat(2, 4), 3);
        // Near is one step; a row's places and the rows are no ring, nor is askew near.
        NutmegSeats y = Check.told("seat a row 0 at 0 ; seat b row 0 at 9 ; seat c row 4 at 0 ; seat d row 1 at 1 ;",
            "seat e row 2 at 1 ; seat f row 2 at 3 ; seat g row 4 at 1 ;");
        int[] near = {0, 0, 64, 16, 8, 0, 4};
        for (int i = 0; i < near.length; i++) {
            due("5: near " + i, y.seat(i, 5), near[i]);
        }
    }

    private static void person() {
        NutmegSeats x = supper();
        int[][] told = {{0, 2, -1, 0, 4}, {1, 1, -1, 0, 8}, {2, 1, -1, 0, 17}, {3, 1, -1, 0, 2}, {0, 0, -1, 0, 4}};
        for (int person = 0; person < told.length; person++) {
            for (int what = 0; what < 5; what++) {
                due("6: person(" + person + ", " + what + ")", x.person(person, what), told[person][what]);
            }
            due("6: person(.., 5)", x.person(person, 5), -2);
            due("6: person(.., -1)", x.person(person, -1), -2);
        }
        for (int bad : BAD) {
            due("6: person(" + bad + ", 0)", x.person(bad, 0), -2);
        }
        x.lay(0, 1);
        x.lay(0, 4);
        x.sit(0, 3);
        due("6: pocket", x.person(0, 1), 0);
        due("6: where they sit", x.person(0, 2), 3);
        due("6: where theirs lie", x.person(0, 3), 18);
        due("6: where another's lie", x.person(1, 3), 0);
    }

    private static void lay() {
        NutmegSeats x = supper();
        due("7: plain", x.lay(0, 0), 5);
        due("7: held", x.lay(1, 0), -1);
        due("7: held by the own", x.lay(0, 0), -1);
        due("7: lady", x.lay(1, 1), 10);
        due("7: rasp", x.lay(2, 2), 3);
        due("7: captain", x.lay(3, 3), 99);
        due("7: empty pocket", x.lay(4, 4), -1);
        due("7: one lies less", x.lay(1, 4), -1);
        due("7: pockets", x.count(7), 1);
        due("7: by one who sits", x.sit(0, 4), 1);
        due("7: on the own chair", x.lay(0, 4), -1);
        due("7: held seats", x.count(5), 15);
        NutmegSeats y = supper();
        y.sit(0, 0);
        due("7: where one sits", y.lay(1, 0), -1);
        due("7: by one who sits", y.lay(0, 1), 5);
        for (int bad : BAD) {
            due("7: lay(0, " + bad + ")", y.lay(0, bad), -1);
            due("7: lay(" + bad + ", 2)", y.lay(bad, 2), -1);
        }
        due("7: what can't be is not undone", y.count(10), 2);
    }

    private static void lives() {
        int[][] lives = {{1, 1, 2, 1}, {2, 2, 4, 1}, {3, 3, 6, 2}, {7, 7, 14, 4}, {30, 30, 60, 15}};
        for (int[] life : lives) {
            NutmegSeats x = Check.told("lasts " + life[0] + " ;", SEATS, PERSONS);
            due("7: plain of " + life[0], x.lay(0, 0), life[1]);
            due("7: lady of " + life[0], x.lay(1, 1), life[2]);
            due("7: rasp of " + life[0], x.lay(2, 2), life[3]);
            due("7: captain of " + life[0], x.lay(3, 3), 99);
        }
        NutmegSeats y = Check.told(SEATS, PERSONS);
        due("7: untold", y.lay(0, 0), 6);
        due("7: untold, a rasp", y.lay(2, 1), 3);
    }

    private static void sit() {
        NutmegSeats x = supper();
        x.lay(0, 0);
        due("8: another's", x.sit(1, 0), -1);
        x.hour();
        due("8: the own one", x.sit(0, 0), 2);
        due("8: it is in the pocket", x.seat(0, 2), -1);
        due("8: nothing is left there", x.seat(0, 3), 0);
        due("8: who sits", x.sit(0, 1), -1);
        due("8: where one sits", x.sit(1, 0), -1);
        due("8: with none", x.sit(4, 1), 0);
        due("8: with one", x.sit(1, 2), 1);
        due("8: chairs", x.seat(0, 4) * 100 + x.seat(1, 4) * 10 + x.seat(2, 4), 41);
        due("8: it is whole again", x.rise(0) + x.lay(0, 0), 5);
        for (int bad : BAD) {
            due("8: sit(2, " + bad + ")", x.sit(2, bad), -1);
            due("8: sit(" + bad + ", 3)", x.sit(bad, 3), -1);
        }
        due("8: what can't be is not undone", x.count(10), 7);
    }

    private static void rise() {
        NutmegSeats x = supper();
        due("9: who stands", x.rise(3), -1);
        x.sit(3, 4);
        x.sit(0, 0);
        due("9: the seat", x.rise(3), 4);
        due("9: nobody sits there", x.seat(4, 4), -1);
        due("9: they stand", x.person(3, 2), -1);
        due("9: the first seat", x.rise(0), 0);
        due("9: again", x.rise(0), -1);
        for (int bad : BAD) {
            due("9: rise(" + bad + ")", x.rise(bad), -1);
        }
        due("9: what can't be is not undone", x.count(10), 4);
    }

    private static void grate() {
        NutmegSeats x = Check.told("seat a row 0 at 0 ; seat b row 0 at 1 ; seat c row 0 at 2 ; seat d row 0 at 3 ;",
            "person p plain nutmegs 3 ; person q rasp nutmegs 3 ; person r lady nutmegs 3 ; person s captain nutmegs 3 ;",
            "foe p q ; foe p r ; foe p s ; foe q r ; lasts 9 ;");
        x.lay(1, 0);
        x.lay(2, 2);
        x.lay(3, 3);
        due("10: who stands", x.grate(0, 0), -1);
        x.sit(0, 1);
        due("10: a rasp's by a plain one", x.grate(0, 0), 2);
        due("10: to nothing", x.grate(0, 0), 0);
        due("10: it is gone", x.seat(0, 2), -1);
        due("10: nothing lies there", x.grate(0, 0), -1);
        due("10: it is in no pocket", x.person(1, 1), 2);
        due("10: a lady's", x.grate(0, 2), 15);
        due("10: not near", x.grate(0, 3), -1);
        x.lay(0, 0);
        due("10: the own one", x.grate(0, 0), -1);
        x.rise(0);
        x.sit(1, 1);
        due("10: by a rasp", x.grate(1, 0), 4);
        due("10: by a rasp to nothing", x.grate(1, 0), 0);
        due("10: by a rasp, another's", x.grate(1, 2), 10);
        x.rise(1);
        x.lay(0, 0);
        x.sit(2, 1);
        due("10: by a lady", x.grate(2, 0), 8);
        due("10: the own one of a lady", x.grate(2, 2), -1);
        x.rise(2);
        x.sit(3, 1);
        due("10: by a captain", x.grate(3, 0), 5);
        due("10: of no foe", x.grate(3, 2), -1);
        due("10: what can't be is not undone", x.count(10), 16);
        NutmegSeats y = Check.told(SEATS, PERSONS, "foe ann dirk ;");
        y.lay(3, 0);
        y.sit(0, 1);
        due("10: a captain's", y.grate(0, 0), 96);
        y.undo();
        due("10: undone", y.seat(0, 3), 99);
        for (int i = 1; i < 33; i++) {
            y.grate(0, 0);
        }
        due("10: a captain's at last", y.seat(0, 3), 3);
        due("10: a captain's is gone", y.grate(0, 0), 0);
        for (int bad : BAD) {
            due("10: grate(0, " + bad + ")", y.grate(0, bad), -1);
            due("10: grate(" + bad + ", 0)", y.grate(bad, 0), -1);
        }
    }

    private static void hour() {
        NutmegSeats x = supper();
        x.lay(0, 0);
        x.lay(2, 2);
        x.lay(3, 4);
        due("11: the first", x.hour(), 0);
        due("11: left", x.seat(0, 3) * 100 + x.seat(2, 3), 402);
        due("11: a captain's", x.seat(4, 3), 99);
        due("11: the second", x.hour(), 0);
        due("11: a rasp's is gone", x.hour(), 4);
        due("11: and does not lie", x.count(5), 17);
        due("11: and is in no pocket", x.count(7), 2);
        x.hour();
        due("11: a plain one's is gone", x.hour(), 1);
        due("11: the hour's number", x.count(3), 5);
        NutmegSeats y = Check.told(SEATS, "person p plain nutmegs 3 ; lasts 1 ; wears company ;");
        y.lay(0, 0);
        y.lay(0, 1);
        y.lay(0, 4);
        due("11: all by how it was ahead", y.hour(), 3);
        due("11: alone it stays", y.hour(), 0);
    }

    private static void wear(String e, int... losses) {
        NutmegSeats x = Check.told("seat a row 3 at 5 ; seat b row 3 at 6 ; seat c row 2 at 5 ;",
            "person p lady nutmegs 1 ; person q captain nutmegs 2 ; lasts 30 ; wears " + e + " ;");
        x.lay(0, 0);
        x.lay(1, 1);
        x.lay(1, 2);
        int left = 60;
        for (int i = 0; i < losses.length; i++) {
            x.hour();
            left -= losses[i];
            due("11: left by " + e + " behind " + (i + 1), x.seat(0, 3), left);
        }
        due("11: captain's by " + e, x.seat(1, 3) + x.seat(2, 3), 198);
    }

    private static void wears() {
        wear("4", 4, 4, 4);
        wear("9", 9);
        wear("10", 9);
        wear("9999", 9);
        wear("0", 0);
        wear("0 - 5", 0, 0);
        wear("date", 0, 1, 2, 3, 4, 5, 6, 7, 8, 9, 9);
        wear("rank", 3, 3);
        wear("company", 2, 2);
        wear("fresh - 57", 3, 0);
        wear("60 - fresh + 1", 1, 2, 4, 8);
        wear("8 - 3 - 2", 3);
        wear("1 + 2 * 3", 7);
        wear("( 1 + 2 ) * 3", 9);
        wear("2 * 2 + 1", 5);
        wear("1 < 2", 1);
        wear("2 < 2", 0);
        wear("2 = 2", 1);
        wear("2 = 3", 0);
        wear("5 and 7", 1);
        wear("0 and 7", 0);
        wear("5 or 0", 1);
        wear("0 or 0", 0);
        wear("1 or 0 and 0", 0);
        wear("0 and 0 or 1", 1);
        wear("1 or ( 0 and 0 )", 1);
        wear("not 0", 1);
        wear("not 5", 0);
        wear("not not 5", 1);
        wear("not 1 < 1", 1);
        wear("not ( 1 < 1 )", 1);
        wear("not 0 * 3", 3);
        wear("not 0 + 3", 4);
        wear("( 0 - 1 ) and 3", 1);
        wear("1 + 1 < 3 and 1", 1);
        wear("3 < 2 + 2", 1);
        wear("date = 1 and 7", 0, 1, 0);
        wear("7 * ( date = 1 ) + 1", 1, 8, 1);
        // 9999 * 9999 * 9999 is 999700029999, which wraps to -1027349969.
        wear("9999 * 9999 * 9999", 0);
        wear("0 - 9999 * 9999 * 9999", 9);
        wear("9999 * 9999 * 9999 < 0", 1);
    }

    private static void undo() {
        NutmegSeats x = supper();
        due("12: nothing", x.undo(), false);
        x.lay(0, 0);
        x.sit(2, 1);
        x.hour();
        x.grate(2, 0);
        x.rise(2);
        due("12: how many", x.count(10), 5);
        due("12: rise", x.undo(), true);
        due("12: sits again", x.person(2, 2) * 10 + x.seat(1, 4), 12);
        due("12: grate", x.undo(), true);
        due("12: lies again", x.seat(0, 2) * 10 + x.seat(0, 3), 4);
        due("12: hour", x.undo(), true);
        due("12: the hour", x.count(3), 0);
        due("12: left again", x.seat(0, 3), 5);
        due("12: sit", x.undo(), true);
        due("12: stands again", x.person(2, 2) * 10 + x.seat(1, 4), -11);
        due("12: lay", x.undo(), true);
        due("12: in the pocket again", x.person(0, 1), 2);
        due("12: free again", x.count(4), 31);
        due("12: no more", x.undo(), false);
        for (int i = 0; i < 40; i++) {
            x.hour();
            due("12: count(10)", x.count(10), Math.min(16, i + 1));
        }
        for (int i = 1; i <= 16; i++) {
            due("12: undo " + i, x.undo(), true);
            due("12: the hour of " + i, x.count(3), 40 - i);
            due("12: how many of " + i, x.count(10), 16 - i);
        }
        due("12: the 17th", x.undo(), false);
        due("12: the hour at last", x.count(3), 24);
        // What is seen, asked or told is not undone, nor does it stand in the way.
        x.sit(0, 0);
        x.see(1, 1, true);
        x.seasons(1, 9, 0);
        x.most(-1);
        Check.due("12: evening()", Check.evening(x, "hour ;"), 0);
        due("12: only the sitting", x.undo(), true);
        due("12: stands", x.person(0, 2), -1);
        due("12: seen still", x.count(9), 1);
        due("12: the evening still", x.count(8), 1);
        due("12: nothing else", x.undo(), false);
    }

    private static void judged() {
        NutmegSeats x = supper();
        due("13: no evening", x.judged(0), -1);
        due("13: no evening", x.judged(1), -1);
        due("13: no evening", x.judged(2), 0);
        due("13: others", x.judged(3), -2);
        due("13: others", x.judged(-1), -2);
        due("13: others", x.judged(Integer.MIN_VALUE), -2);
        // By hand things stand otherwise; the evening begins anew all the same.
        x.lay(0, 0);
        x.lay(0, 4);
        x.sit(4, 1);
        x.hour();
        due("13: evening", Check.evening(x, "lay ann a ; sit cut b ; lay ann c ; grate cut a ; rise cut ; lay ann d ;"
            + " hour ; sit cut e ; sit eve d ;"), 0);
        due("13: the third nutmeg", x.judged(0), 5);
        due("13: grated", x.judged(1), 3);
        due("13: two sit", x.judged(2), 2);
        due("13: by hand all stays", x.count(6) * 100 + x.count(5) * 10 + x.count(3), 1771);
        due("13: evening", Check.evening(x, "sit ann a ; sit ann b ; lay cut c ; hour ; hour ; rise bel ; hour ; hour ;"), 0);
        due("13: who sits", x.judged(0), 1);
        due("13: by an hour", x.judged(1), 6);
        due("13: one sits", x.judged(2), 1);
        due("13: evening", Check.evening(x, "lay ann a ; sit ann a ; hour ; hour ; hour ; hour ; hour ; rise ann ;"), 0);
        due("13: all can be", x.judged(0), -1);
        due("13: taken back is not gone", x.judged(1), -1);
        due("13: none sits", x.judged(2), 0);
        due("13: evening", Check.evening(x, "rise ann ;"), 0);
        due("13: the first line can't be", x.judged(0), 0);
    }

    private static void left() {
        NutmegSeats x = supper();
        due("14: nothing lies", x.left(0), -1);
        x.lay(0, 0);
        x.lay(1, 1);
        x.lay(3, 2);
        due("14: plain", x.left(0), 5);
        due("14: lady", x.left(1), 10);
        due("14: captain", x.left(2), -1);
        x.hour();
        due("14: an hour later", x.left(0), 4);
        x.sit(2, 3);
        due("14: where one sits", x.left(3), -1);
        for (int bad : BAD) {
            due("14: left(" + bad + ")", x.left(bad), -1);
        }
        due("14: nothing is done", x.count(3), 1);
        NutmegSeats y = Check.told(SEATS, PERSONS, "lasts 1 ; wears date = 98 ;");
        y.lay(0, 0);
        due("14: by 99", y.left(0), 99);
        y.undo();
        due("14: undone", y.left(0), -1);
        NutmegSeats z = Check.told(SEATS, PERSONS, "lasts 1 ; wears date = 99 ;");
        z.lay(0, 0);
        due("14: not by 99", z.left(0), -1);
        z.hour();
        due("14: by 99 then", z.left(0), 99);
        // The company goes ahead of it.
        NutmegSeats w = Check.told(SEATS, PERSONS, "lasts 3 ; wears company + ( fresh < 3 ) ;");
        w.lay(0, 0);
        w.lay(2, 1);
        due("14: 2 of it, in company", w.left(1), 1);
        due("14: 3 of it, alone from then on", w.left(0), 3);
        due("14: the first of both", w.first(), 1);
    }

    private static void later() {
        NutmegSeats x = supper();
        due("15: nothing lies", x.later(0, 0), -1);
        x.lay(0, 0);
        x.lay(3, 1);
        due("15: now", x.later(0, 0), 5);
        due("15: behind 4", x.later(0, 4), 1);
        due("15: behind 5", x.later(0, 5), 0);
        due("15: behind 60", x.later(0, 60), 0);
        due("15: a captain's", x.later(1, 60), 99);
        due("15: behind 61", x.later(1, 61), -1);
        due("15: behind -1", x.later(1, -1), -1);
        due("15: behind MIN", x.later(1, Integer.MIN_VALUE), -1);
        for (int bad : BAD) {
            due("15: later(" + bad + ", 1)", x.later(bad, 1), -1);
        }
        x.sit(2, 2);
        due("15: where one sits", x.later(2, 1), -1);
        due("15: nothing is done", x.seat(0, 3) * 10 + x.count(3), 50);
    }

    private static void first() {
        NutmegSeats x = supper();
        due("16: nothing lies", x.first(), -1);
        x.lay(3, 0);
        due("16: a captain's", x.first(), -1);
        x.lay(1, 1);
        due("16: a lady's", x.first(), 1);
        x.lay(0, 3);
        x.lay(0, 2);
        due("16: equal ones", x.first(), 2);
        x.lay(2, 4);
        due("16: a rasp's", x.first(), 4);
        NutmegSeats y = Check.told(SEATS, PERSONS, "lasts 1 ; wears date = 99 ;");
        y.lay(0, 0);
        due("16: not by 99", y.first(), -1);
        y.hour();
        due("16: by 99", y.first(), 0);
    }

    private static void empties() {
        NutmegSeats x = supper();
        due("17: nothing lies", x.empties(), 0);
        x.sit(4, 4);
        due("17: who sits does not count", x.empties(), 0);
        x.lay(0, 0);
        due("17: plain", x.empties(), 5);
        x.lay(1, 1);
        due("17: lady", x.empties(), 10);
        x.hour();
        due("17: an hour later", x.empties(), 9);
        x.lay(3, 2);
        due("17: captain", x.empties(), -1);
        NutmegSeats y = Check.told(SEATS, PERSONS, "lasts 1 ; wears date = 99 ;");
        y.lay(0, 0);
        due("17: not by 99", y.empties(), -1);
        y.hour();
        due("17: by 99", y.empties(), 99);
    }

    private static void most() {
        NutmegSeats x = supper();
        due("18: all", x.most(-1), 5);
        for (int i = 0; i < 5; i++) {
            due("18: the first row", x.most(i), i);
        }
        x.sit(1, 0);
        due("18: who sits", x.most(1), -2);
        due("18: those who stand", x.most(-1), 4);
        due("18: ann", x.most(0), 1);
        x.lay(0, 1);
        x.lay(0, 2);
        x.lay(3, 3);
        // Free is e alone; ann has b and c, dirk has d.
        due("18: ann, dirk and one more", x.most(-1), 3);
        due("18: ann on hers", x.most(0), 1);
        due("18: cut on the free one", x.most(2), 4);
        due("18: dirk on his", x.most(3), 3);
        due("18: eve nowhere", x.most(4), -1);
        for (int bad : new int[] {-2, -3, 5, 7, 8, Integer.MIN_VALUE, Integer.MAX_VALUE}) {
            due("18: most(" + bad + ")", x.most(bad), -2);
        }
        // The first one gives way, if more can sit so.
        NutmegSeats y = Check.told("seat a row 0 at 0 ; seat b row 0 at 5 ;",
            "person p plain nutmegs 1 ; person q plain nutmegs 1 ; person r plain nutmegs 1 ;");
        y.lay(0, 1);
        due("18: both", y.most(-1), 2);
        due("18: p on the own one", y.most(0), 1);
        due("18: q on the free one", y.most(1), 0);
        due("18: r nowhere", y.most(2), -1);
        y.lay(1, 0);
        due("18: each on the own", y.most(0) * 10 + y.most(1), 10);
        due("18: asked first", Check.told(SEATS, PERSONS).most(3), 3);
        NutmegSeats z = Check.told(PERSONS);
        due("18: no seats", z.most(-1), 0);
        due("18: nowhere", z.most(0), -1);
    }

    private static void could() {
        NutmegSeats x = supper();
        due("19: all", x.could(0), 31);
        x.lay(0, 0);
        x.lay(1, 1);
        x.sit(2, 2);
        due("19: the own one, too", x.could(0), 25);
        due("19: the own one, too", x.could(1), 26);
        due("19: the free ones", x.could(3), 24);
        due("19: who sits", x.could(2), -1);
        for (int bad : BAD) {
            due("19: could(" + bad + ")", x.could(bad), -1);
        }
        due("19: nobody", new NutmegSeats().could(0), -1);
    }

    private static void needs() {
        NutmegSeats x = supper();
        int[][] plain = {{1, 1}, {5, 1}, {6, 2}, {10, 2}, {11, 3}, {60, 12}};
        for (int[] p : plain) {
            due("20: plain, " + p[0], x.needs(0, 0, p[0]), p[1]);
            due("20: with an empty pocket, " + p[0], x.needs(4, 0, p[0]), p[1]);
        }
        due("20: lady", x.needs(1, 0, 11), 2);
        due("20: rasp", x.needs(2, 0, 60), 20);
        due("20: captain", x.needs(3, 0, 60), 1);
        due("20: 0 hours", x.needs(0, 0, 0), -1);
        due("20: 61 hours", x.needs(0, 0, 61), -1);
        for (int bad : BAD) {
            due("20: needs(" + bad + ", 0, 1)", x.needs(bad, 0, 1), -1);
            due("20: needs(0, " + bad + ", 1)", x.needs(0, bad, 1), -1);
        }
        x.lay(0, 1);
        x.sit(1, 2);
        due("20: held by the own", x.needs(0, 1, 1), -1);
        due("20: sat on", x.needs(0, 2, 1), -1);
        due("20: by one who sits", x.needs(1, 3, 1), 1);
        NutmegSeats y = Check.told(SEATS, PERSONS, "lasts 4 ; wears 9 ;");
        due("20: one each hour", y.needs(0, 0, 7), 7);
        NutmegSeats z = Check.told(SEATS, PERSONS, "lasts 4 ; wears company + 1 ;");
        due("20: alone", z.needs(0, 0, 4), 1);
        z.lay(0, 1);
        // The other one lasts 2 beside this, and this 2 ahead of that and 2 behind it: 4 - 2 - 2.
        due("20: in company", z.needs(0, 0, 3), 2);
        due("20: in company", z.needs(0, 0, 2), 1);
        // By the date: 4 - 0 - 1 - 2 - 3 is gone by the fourth hour.
        NutmegSeats w = Check.told(SEATS, PERSONS, "lasts 4 ; wears date ;");
        due("20: by the date", w.needs(0, 0, 4), 1);
        due("20: by the date", w.needs(0, 0, 5), 2);
        due("20: by the date", w.needs(0, 0, 6), 3);
        w.hour();
        due("20: from the second hour", w.needs(0, 0, 4), 2);
    }

    private static void keeps() {
        NutmegSeats x = supper();
        due("21: two for 5", x.keeps(0, 5, 0), 2);
        due("21: the least set", x.keeps(0, 5, 1), 3);
        due("21: one for 6", x.keeps(0, 6, 0), 1);
        due("21: the least set", x.keeps(0, 10, 1), 1);
        due("21: none for 11", x.keeps(0, 11, 0), 0);
        due("21: none for 11", x.keeps(0, 11, 1), 0);
        due("21: an empty pocket", x.keeps(4, 1, 0), 0);
        due("21: captain", x.keeps(3, 30, 0), 1);
        x.lay(1, 0);
        x.sit(2, 1);
        due("21: free ones", x.keeps(0, 5, 1), 12);
        due("21: 0 hours", x.keeps(0, 0, 0), -1);
        due("21: 31 hours", x.keeps(0, 31, 0), -1);
        due("21: what 2", x.keeps(0, 1, 2), -1);
        due("21: what -1", x.keeps(0, 1, -1), -1);
        for (int bad : BAD) {
            due("21: keeps(" + bad + ", 1, 0)", x.keeps(bad, 1, 0), -1);
        }
        // Beside one another they wear: a and b for 2 hours need two each, a and c one each.
        NutmegSeats y = Check.told("seat a row 0 at 0 ; seat b row 0 at 1 ; seat c row 0 at 2 ;",
            "person p plain nutmegs 2 ; person q plain nutmegs 3 ; person r plain nutmegs 9 ; lasts 2 ; wears company * 2 ;");
        due("21: two that are not near", y.keeps(0, 2, 1), 5);
        due("21: two are better than one", y.keeps(0, 2, 0), 2);
        due("21: three for an hour", y.keeps(1, 1, 1), 7);
        due("21: not for two hours", y.keeps(1, 2, 1), 5);
        due("21: three for three hours", y.keeps(2, 3, 1), 7);
        due("21: not for four hours", y.keeps(2, 4, 1), 3);
        NutmegSeats z = new NutmegSeats();
        due("21: nobody", z.keeps(0, 1, 0), -1);
    }

    private static void placed() {
        NutmegSeats x = Check.told("seat a row 0 at 0 ; seat b row 0 at 1 ; seat c row 0 at 2 ;",
            "person p plain nutmegs 1 ; person q plain nutmegs 0 ; foe p q ;");
        due("22: not near", x.placed(-1), 2);
        due("22: p", x.placed(0), 0);
        due("22: q", x.placed(1), 2);
        due("22: others", x.placed(2), -2);
        due("22: others", x.placed(-2), -2);
        due("22: others", x.placed(Integer.MIN_VALUE), -2);
        x.lay(0, 0);
        x.sit(1, 2);
        due("22: were nobody there", x.placed(-1), 2);
        due("22: who sits, too", x.placed(1), 2);
        NutmegSeats y = Check.told("seat a row 0 at 0 ; seat b row 0 at 1 ; seat c row 0 at 2 ;",
            "person p plain nutmegs 1 ; person q plain nutmegs 0 ;");
        due("22: without foes", y.placed(-1), 6);
        due("22: q", y.placed(1), 1);
        NutmegSeats z = Check.told("seat a row 0 at 0 ; seat b row 1 at 0 ;",
            "person p plain nutmegs 1 ; person q plain nutmegs 0 ; foe q p ;");
        due("22: none", z.placed(-1), 0);
        due("22: in none", z.placed(0), -2);
        NutmegSeats w = Check.told("seat a row 0 at 0 ;", PERSONS);
        due("22: too few seats", w.placed(-1), 0);
        due("22: nobody", Check.told(SEATS).placed(-1), 1);
        due("22: nobody", Check.told(SEATS).placed(0), -2);
        NutmegSeats v = Check.told(SEATS, "seat f row 4 at 0 ; seat g row 3 at 5 ;", PERSONS);
        due("22: 7 * 6 * 5 * 4 * 3", v.placed(-1), 2520);
    }

    private static void peaceAndWar() {
        NutmegSeats x = supper();
        due("23: nobody sits", x.peace(), 0);
        due("24: nobody sits", x.war(), 0);
        x.sit(0, 0);
        x.sit(2, 1);
        due("23: foes", x.peace(), 0);
        due("24: foes", x.war(), 1);
        x.sit(4, 2);
        due("24: two pairs", x.war(), 2);
        x.sit(3, 3);
        due("23: beside cut", x.peace(), 1);
        due("24: still", x.war(), 2);
        x.sit(1, 4);
        due("23: far away", x.peace(), 1);
        due("24: far away", x.war(), 2);
        x.rise(2);
        due("23: the middle is empty", x.peace() * 10 + x.war(), 0);
        x.rise(1);
        x.sit(1, 1);
        due("23: ann, eve", x.peace(), 2);
        due("24: dirk", x.war(), 1);
    }

    private static void safe() {
        NutmegSeats x = supper();
        due("25: nothing lies", x.safe(), 0);
        x.lay(0, 0);
        x.lay(1, 2);
        x.lay(3, 4);
        due("25: nobody sits", x.safe(), 21);
        x.sit(2, 1);
        due("25: cut beside ann's", x.safe(), 20);
        x.rise(2);
        x.sit(3, 1);
        due("25: dirk beside bel's", x.safe(), 17);
        x.rise(3);
        x.sit(2, 3);
        due("25: cut not near", x.safe(), 21);
    }

    private static void seeAndWho() {
        NutmegSeats x = supper();
        due("27: nothing seen", x.who(), 31);
        due("26: a see", x.see(0, 3, true), true);
        due("27: not cut", x.who(), 27);
        due("26: another see", x.see(4, 5, false), true);
        due("27: not bel, not dirk", x.who(), 17);
        due("26: neither can be", x.see(0, 60, true), true);
        due("27: nobody", x.who(), 0);
        for (int bad : BAD) {
            due("26: see(" + bad + ", 1, ..)", x.see(bad, 1, true), false);
        }
        due("26: 0 hours", x.see(0, 0, true), false);
        due("26: 61 hours", x.see(0, 61, true), false);
        due("26: MIN hours", x.see(0, Integer.MIN_VALUE, true), false);
        due("26: how many", x.count(9), 3);
        for (int i = 3; i < 8; i++) {
            due("26: see " + i, x.see(1, 1, true), true);
        }
        due("26: the ninth", x.see(1, 1, true), false);
        due("26: how many", x.count(9), 8);
        NutmegSeats y = supper();
        y.see(0, 60, true);
        due("27: a captain", y.who(), 8);
        y.lay(0, 0);
        due("27: not free now", y.who(), 0);
        y.undo();
        y.sit(0, 0);
        due("27: not free now", y.who(), 0);
        y.rise(0);
        due("27: free again", y.who(), 8);
        NutmegSeats z = supper();
        z.see(0, 1, false);
        due("27: nobody's is gone so soon", z.who(), 0);
        z.sit(4, 0);
        due("27: on no free seat it does not lie", z.who(), 31);
        NutmegSeats w = Check.told(SEATS, PERSONS, "lasts 4 ; wears company + date ;");
        w.see(1, 2, true);
        due("27: all but the rasp: 2 - 0 - 1 is 1", w.who(), 31);
        w.hour();
        due("27: by the hour it is asked: 2 - 1 - 2", w.who(), 27);
        w.lay(1, 0);
        due("27: by the company: 4 - 2 - 3", w.who(), 10);
        due("26: no persons", Check.told(SEATS).see(0, 1, true), true);
        due("27: no persons", Check.told(SEATS).who(), 0);
        due("26: no seats", Check.told(PERSONS).see(0, 1, true), false);
        due("27: no seats", Check.told(PERSONS).who(), 31);
    }

    private static void ask() {
        NutmegSeats x = supper();
        // Behind 5 only bel's and dirk's still lie: 3 of 5.
        due("28: the hours, the seat", x.ask(), 40);
        x.sit(0, 0);
        due("28: a free seat", x.ask(), 41);
        x.see(1, 5, true);
        due("27: bel, dirk", x.who(), 10);
        due("28: behind 10", x.ask(), 81);
        x.see(1, 10, true);
        due("28: dirk alone", x.ask(), -1);
        x.see(1, 10, false);
        due("28: nobody", x.ask(), -1);
        NutmegSeats y = Check.told(SEATS, "person p plain nutmegs 0 ; person q plain nutmegs 9 ;");
        due("28: alike", y.ask(), -1);
        NutmegSeats z = Check.told("seat a row 0 at 0 ; seat b row 3 at 0 ;",
            "person p plain nutmegs 0 ; person q lady nutmegs 0 ; lasts 6 ; wears rank ;");
        due("28: by seats they part", z.ask(), 17);
        z.sit(0, 1);
        due("28: no other seat", z.ask(), -1);
        NutmegSeats w = Check.told("seat a row 0 at 0 ; person p lady nutmegs 0 ; person q captain nutmegs 0 ; lasts 30 ;");
        due("28: behind 60", w.ask(), 480);
        NutmegSeats v = Check.told("seat a row 0 at 0 ; person p lady nutmegs 0 ; person q captain nutmegs 0 ; lasts 30 ;",
            "wears 0 < date ;");
        due("28: not behind 61", v.ask(), -1);
        NutmegSeats u = Check.told("seat a row 0 at 0 ; person p plain nutmegs 0 ; person q lady nutmegs 0 ; lasts 1 ;");
        due("28: behind 1", u.ask(), 8);
        due("28: no seats", Check.told(PERSONS).ask(), -1);
        due("28: nothing", new NutmegSeats().ask(), -1);
    }

    private static void far() {
        NutmegSeats x = supper();
        int[][] far = {{0, 1, 2, 2, -1}, {1, 0, 1, 1, -1}, {2, 1, 0, 2, -1}, {2, 1, 2, 0, -1}, {-1, -1, -1, -1, 0}};
        for (int a = 0; a < 5; a++) {
            for (int b = 0; b < 5; b++) {
                due("29: far(" + a + ", " + b + ")", x.far(a, b), far[a][b]);
            }
        }
        x.sit(0, 1);
        due("29: over one who sits", x.far(0, 2), 2);
        for (int bad : BAD) {
            due("29: far(0, " + bad + ")", x.far(0, bad), -1);
            due("29: far(" + bad + ", " + bad + ")", x.far(bad, bad), -1);
        }
        NutmegSeats y = Check.told("seat a row 0 at 0 ; seat b row 1 at 2 ; seat c row 0 at 1 ; seat d row 1 at 3 ;",
            "seat e row 0 at 2 ; seat f row 2 at 3 ; seat g row 3 at 3 ;");
        due("29: all the way", y.far(0, 6), 6);
        due("29: and back", y.far(6, 0), 6);
    }

    private static void blocks() {
        NutmegSeats x = supper();
        due("30: blocks", x.blocks(0), 2);
        due("30: the largest", x.blocks(1), 4);
        x.sit(0, 1);
        due("30: without the middle", x.blocks(0), 4);
        due("30: the largest", x.blocks(1), 1);
        x.rise(0);
        x.lay(0, 0);
        due("30: without an end", x.blocks(0), 2);
        due("30: the largest", x.blocks(1), 3);
        due("30: others", x.blocks(2), -1);
        due("30: others", x.blocks(-1), -1);
        NutmegSeats y = Check.told("seat a row 0 at 0 ; person p plain nutmegs 0 ;");
        y.sit(0, 0);
        due("30: none free", y.blocks(0) * 10 + y.blocks(1), 0);
        NutmegSeats z = Check.told("seat a row 0 at 0 ; seat b row 1 at 2 ; seat c row 0 at 1 ; seat d row 1 at 3 ;",
            "seat e row 0 at 2 ; seat f row 2 at 3 ; seat g row 3 at 3 ;");
        due("30: one long one", z.blocks(0) * 10 + z.blocks(1), 17);
    }

    private static void rich() {
        NutmegSeats x = supper();
        due("31: ann", x.rich(), 0);
        x.lay(0, 0);
        x.lay(0, 1);
        due("31: laid ones, too", x.rich(), 0);
        for (int i = 0; i < 5; i++) {
            x.hour();
        }
        due("31: they are gone", x.rich(), 1);
        NutmegSeats y = Check.told("person p plain nutmegs 1 ; person q plain nutmegs 3 ; person r plain nutmegs 3 ;");
        due("31: equal ones", y.rich(), 1);
        due("31: with none at all", Check.told("person p plain nutmegs 0 ; person q lady nutmegs 0 ;").rich(), 0);
        due("31: nobody", Check.told(SEATS).rich(), -1);
    }

    private static void loneAndRow() {
        NutmegSeats x = supper();
        due("32: e", x.lone(), 16);
        due("32: none", new NutmegSeats().lone(), 0);
        due("32: all", Check.told("seat a row 0 at 0 ; seat b row 1 at 1 ; seat c row 3 at 0 ;").lone(), 7);
        int[] rows = {7, 8, 0, 0, 16};
        for (int i = 0; i < rows.length; i++) {
            due("33: row " + i, x.row(i), rows[i]);
        }
        x.lay(0, 0);
        x.sit(1, 2);
        due("33: free ones", x.row(0), 2);
        due("32: whoever sits", x.lone(), 16);
        for (int bad : BAD) {
            due("33: row(" + bad + ")", x.row(bad), -1);
        }
    }

    private static void stands() {
        NutmegSeats x = Check.told("seat a row 0 at 0 ; seat b row 0 at 1 ;", PERSONS);
        due("34: all could", x.stands(), 0);
        x.lay(0, 0);
        due("34: all could", x.stands(), 0);
        x.lay(1, 1);
        due("34: but ann and bel", x.stands(), 28);
        x.sit(0, 0);
        due("34: ann sits", x.stands(), 28);
        x.sit(1, 1);
        due("34: both sit", x.stands(), 28);
        x.rise(0);
        due("34: one is free", x.stands(), 0);
        due("34: no seats", Check.told(PERSONS).stands(), 31);
    }

    private static void guards() {
        NutmegSeats x = supper();
        due("35: nobody", x.guards(0), 31);
        x.sit(2, 0);
        due("35: b is near cut", x.guards(0), 28);
        due("35: eve's foe, too", x.guards(4), 28);
        due("35: no foe of bel", x.guards(1), 30);
        due("35: cut's own", x.guards(2), 30);
        x.rise(2);
        x.lay(2, 0);
        due("35: b is near cut's nutmeg", x.guards(0), 28);
        due("35: no foe of bel", x.guards(1), 30);
        x.sit(3, 4);
        due("35: dirk is near to none", x.guards(1), 14);
        for (int bad : BAD) {
            due("35: guards(" + bad + ")", x.guards(bad), -1);
        }
        due("35: no seats", Check.told(PERSONS).guards(0), 0);
    }

    private static void chance() {
        NutmegSeats x = supper();
        due("36: nothing lies", x.chance(0, 1, 5), -1);
        x.lay(2, 0);
        x.lay(3, 1);
        // 3 left: a draught takes all of it.
        due("36: one hour", x.chance(0, 1, 3), 300000);
        due("36: two hours", x.chance(0, 2, 3), 510000);
        due("36: three hours", x.chance(0, 3, 3), 1000000);
        due("36: never a draught", x.chance(0, 2, 0), 0);
        due("36: never a draught", x.chance(0, 3, 0), 1000000);
        due("36: always a draught", x.chance(0, 1, 10), 1000000);
        due("36: a captain's", x.chance(1, 6, 10), 0);
        due("36: 0 hours", x.chance(0, 0, 3), -1);
        due("36: 7 hours", x.chance(0, 7, 3), -1);
        due("36: odds -1", x.chance(0, 1, -1), -1);
        due("36: odds 11", x.chance(0, 1, 11), -1);
        for (int bad : BAD) {
            due("36: chance(" + bad + ", 1, 1)", x.chance(bad, 1, 1), -1);
        }
        NutmegSeats y = Check.told(SEATS, PERSONS, "lasts 6 ;");
        y.lay(1, 0);
        // 12 left: three draughts of six, or more.
        due("36: six hours", y.chance(0, 6, 3), 255690);
        due("36: five hours", y.chance(0, 5, 5), 187500);
        // A draught for all at once, and beyond what wears can tell: 9 and 2 more.
        NutmegSeats z = Check.told(SEATS, PERSONS, "lasts 11 ; wears 99 ;");
        z.lay(0, 0);
        due("36: 11 at once", z.chance(0, 1, 4), 400000);
        // b's 1 and a's 3: the first draught takes b's, which takes away a's company.
        NutmegSeats w = Check.told(SEATS, PERSONS, "lasts 3 ; wears company ;");
        w.lay(0, 0);
        w.lay(2, 1);
        due("36: both by one draught", w.chance(0, 1, 5), 500000);
        due("36: b's by the first draught or the second hour", w.chance(1, 2, 5), 1000000);
        due("36: a's: 3 - 1 - 1, and once a draught", w.chance(0, 2, 5), 750000);
    }

    private static int rest(int lose, int sits, int bows, int what) {
        try {
            return new NutmegSeats().rests(lose, sits, bows, what);
        } catch (NoSuchElementException e) {
            return -9;
        }
    }

    private static void restDue(int lose, int sits, int bows, int... rests) {
        String chair = "37: chair " + lose + " " + sits + " " + bows;
        due(chair, rest(lose, sits, bows, -1), rests.length);
        for (int i = 0; i < rests.length; i++) {
            due(chair + " rest " + i, rest(lose, sits, bows, i), rests[i]);
        }
        due(chair + " behind the last", rest(lose, sits, bows, rests.length), -9);
        due(chair + " rest -2", rest(lose, sits, bows, -2), -9);
        due(chair + " rest MIN", rest(lose, sits, bows, Integer.MIN_VALUE), -9);
        due(chair + " rest MAX", rest(lose, sits, bows, Integer.MAX_VALUE), -9);
    }

    private static void rests() {
        restDue(2, 5, 1, 1, 2);
        restDue(9, 9, 9, 1, 2);
        // Nothing to lose and nothing to get: all are.
        restDue(0, 0, 0, 0, 1, 2, 3);
        restDue(0, 1, 0, 1, 2, 3);
        restDue(1, 0, 0, 0, 1, 2);
        restDue(0, 0, 1, 0, 1, 2);
        for (int i = 0; i < 3; i++) {
            for (int bad : new int[] {-1, 10, Integer.MIN_VALUE, Integer.MAX_VALUE}) {
                int[] a = {1, 1, 1};
                a[i] = bad;
                due("37: " + bad + " at " + i, rest(a[0], a[1], a[2], -1), -9);
                due("37: " + bad + " at " + i, rest(a[0], a[1], a[2], 0), -9);
            }
        }
    }

    private static void seasons() {
        String two = "seat a row 0 at 0 ; seat b row 0 at 1 ; person p plain nutmegs 1 ; person q plain nutmegs 1 ;"
            + " foe p q ; lasts 4 ;";
        NutmegSeats x = Check.told(two);
        // Seed 3 draws: q lays on b; p sits on a; q can't rise; q sits on b.
        due("38: who sits behind 1", x.seasons(3, 1, 1), 0);
        due("38: who sits behind 2", x.seasons(3, 2, 1), 1);
        due("38: who sits behind 4", x.seasons(3, 4, 1), 3);
        due("38: gone", x.seasons(3, 4, 0), 0);
        due("38: nutmegs", x.seasons(3, 3, 2), 2);
        // Seed 7 draws: p can't grate; p lays on b; p has none; q, on b: grating; nothing; nothing; p rises.
        due("38: gone behind 4", x.seasons(7, 4, 0), 0);
        due("38: gone behind 5", x.seasons(7, 5, 0), 1);
        due("38: nutmegs behind 4", x.seasons(7, 4, 2), 2);
        due("38: nutmegs behind 5", x.seasons(7, 5, 2), 1);
        due("38: all is as ahead", x.count(3) + x.count(5) + x.count(6) + x.count(10), 0);
        x.sit(1, 0);
        due("38: q grates", x.seasons(7, 4, 0), 1);
        x.undo();
        x.sit(0, 0);
        due("38: p sits", x.seasons(7, 6, 1), 1);
        due("38: p rises", x.seasons(7, 7, 1), 0);
        due("38: seed -1", x.seasons(-1, 1, 0), -1);
        due("38: seed 0", x.seasons(0, 1, 0), 0);
        due("38: seed 10000", x.seasons(10000, 1, 0), -1);
        due("38: seed 9999", x.seasons(9999, 1, 0), 0);
        due("38: 0 hours", x.seasons(1, 0, 0), -1);
        due("38: 100 hours", x.seasons(1, 100, 0), -1);
        due("38: 99 hours", x.seasons(1, 99, 2) >= 0, true);
        due("38: what 3", x.seasons(1, 1, 3), -1);
        due("38: what -1", x.seasons(1, 1, -1), -1);
        NutmegSeats y = Check.told("seat a row 0 at 0 ; person p plain nutmegs 1 ;");
        due("38: alone, seed 3: they lay", y.seasons(3, 1, 1), 0);
        due("38: alone, seed 3: they sit down on it", y.seasons(3, 2, 1), 1);
        due("38: no seats", Check.told(PERSONS).seasons(1, 99, 2), 5);
        due("38: nobody", Check.told(SEATS).seasons(1, 99, 2), 0);
    }

    private static void mark() {
        NutmegSeats x = supper();
        due("39: nothing is on it", x.mark(0, true), false);
        due("39: none such", x.mark(-1, false), false);
        due("39: none such", x.mark(4, false), false);
        due("39: none such", x.mark(4, true), false);
        due("39: none such", x.mark(Integer.MIN_VALUE, true), false);
        due("39: none such", x.mark(Integer.MAX_VALUE, false), false);
        x.lay(0, 0);
        x.sit(2, 1);
        x.see(3, 4, true);
        due("39: laid", x.mark(3, false), true);
        due("39: nothing is undone by it", x.count(10), 2);
        x.hour();
        x.grate(2, 0);
        x.rise(2);
        x.see(3, 5, false);
        due("39: another", x.mark(0, false), true);
        due("39: nothing is on it", x.mark(1, true), false);
        due("39: all stays then", x.count(10), 5);
        due("39: back", x.mark(3, true), true);
        due("39: the seat", x.seat(0, 2) * 10 + x.seat(0, 3), 5);
        due("39: who sits", x.person(2, 2) * 10 + x.seat(1, 4), 12);
        due("39: the pocket", x.person(0, 1), 1);
        due("39: the hour", x.count(3), 0);
        due("39: what is seen", x.count(9), 1);
        due("39: nothing can be undone", x.undo(), false);
        due("39: who", x.who(), 27);
        x.hour();
        due("39: to the other", x.mark(0, true), true);
        due("39: the hour", x.count(3), 1);
        due("39: gone", x.seat(0, 2), -1);
        due("39: seen", x.count(9), 2);
        due("39: who", x.who(), 17);
        due("39: back again", x.mark(3, true), true);
        due("39: the seat again", x.seat(0, 3), 5);
        x.lay(1, 4);
        due("39: undone", x.undo(), true);
        x.hour();
        due("39: over another", x.mark(3, false), true);
        x.hour();
        x.mark(3, true);
        due("39: the newer one", x.count(3), 1);
        due("39: evening", Check.evening(x, "hour ; hour ;"), 0);
        x.mark(0, true);
        due("39: the evening stays", x.count(8), 2);
        NutmegSeats y = supper();
        y.mark(0, false);
        y.see(4, 5, true);
        y.see(4, 3, true);
        y.mark(1, false);
        y.mark(0, true);
        due("39: nothing seen", y.who(), 31);
        y.see(0, 60, false);
        y.see(0, 60, false);
        y.lay(1, 4);
        due("39: all but dirk", y.who(), 23);
        y.mark(1, true);
        due("39: bel and dirk, on the other seat", y.who(), 10);
        y.lay(0, 4);
        due("39: it is that seat", y.who(), 0);
        y.mark(2, false);
        y.mark(3, false);
        Check.due("39: hall()", Check.hall(y, SEATS), 0);
        for (int i = 0; i < 4; i++) {
            due("39: nothing is on " + i + " in a new hall", y.mark(i, true), false);
        }
    }

    private static void count() {
        NutmegSeats x = supper();
        x.lay(0, 0);
        x.lay(1, 3);
        x.sit(3, 2);
        x.sit(4, 4);
        x.hour();
        x.see(0, 1, true);
        x.see(0, 2, true);
        Check.evening(x, "hour ; hour ; hour ;");
        x.feed(0x6162L, 0, 0x20L);
        int[] counts = {5, 5, 5, 1, 2, 9, 24, 3, 3, 2, 5, 3};
        for (int i = 0; i < counts.length; i++) {
            due("40: count(" + i + ")", x.count(i), counts[i]);
        }
        due("40: others", x.count(12), -1);
        due("40: others", x.count(-1), -1);
        due("40: others", x.count(Integer.MIN_VALUE), -1);
        due("40: others", x.count(Integer.MAX_VALUE), -1);
    }
}
