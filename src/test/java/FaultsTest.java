/** Promises 2 to 4: the tape, and the faults of what is read from it. */
public final class FaultsTest {
    private static final String SEAT = "seat aa row 1 at 3 ; ";
    private static final String TWO = "person pp rasp nutmegs 1 ; person qq lady nutmegs 0 ; ";

    private FaultsTest() {
    }

    public static void main(String[] args) {
        tape();
        tokens();
        seats();
        persons();
        foes();
        lastsAndWears();
        choices();
        depth();
        evenings();
        staying();
        Check.end();
    }

    /** The fault's place is where the text behind the mark begins. */
    private static void hallFault(String before, String from, int kind) {
        String text = before + from;
        NutmegSeats x = new NutmegSeats();
        Check.due("hall() of " + text, Check.hall(x, text), kind == 0 ? 0 : kind + 16 * before.length());
        Check.due("count(11) behind " + text, x.count(11), 0);
    }

    private static void eveningFault(String before, String from, int kind) {
        String text = before + from;
        NutmegSeats x = Check.told(SEAT, "seat bb row 2 at 3 ;", TWO);
        Check.due("evening() of " + text, Check.evening(x, text), kind == 0 ? 0 : kind + 16 * before.length());
        Check.due("count(11) behind " + text, x.count(11), 0);
    }

    private static void tape() {
        NutmegSeats x = new NutmegSeats();
        Check.due("feed of nothing", x.feed(0, 0, 0), 0);
        Check.due("feed of 9, 10, 11, 31, 32, 126, 127, 128", x.feed(0x090a0b1f207e7f80L, 0, 0), 3);
        Check.due("feed of 255s", x.feed(-1L, -1L, -1L), 3);
        Check.due("feed of the lowest byte of each", x.feed(0x41, 0x42, 0x43), 6);
        Check.due("count(11)", x.count(11), 6);
        Check.due("hall() of a newline, a blank, a strange sign", x.hall(), 1 + 16 * 2);
        Check.due("count(11) behind it", x.count(11), 0);
        Check.due("hall() of nothing", x.hall(), 0);
        Check.due("evening() of nothing", x.evening(), 0);
        // The highest byte first, a before b before c.
        x.feed(0x7365617420612072L, 0x6f77203020617420L, 0x30203b0000000000L);
        Check.due("hall() of seat a row 0 at 0 ;", x.hall(), 0);
        Check.due("count(0)", x.count(0), 1);
        long blanks = 0x2020202020202020L;
        for (int i = 1; i <= 41; i++) {
            Check.due("feed of blanks", x.feed(blanks, blanks, blanks), 24 * i);
        }
        Check.due("feed up to 1000", x.feed(blanks, 0x2020202073656174L, 0x2061206161616161L), 1000);
        Check.due("feed beyond 1000", x.feed(blanks, blanks, blanks), 1000);
        Check.due("hall() of 1000 signs, the last ones seat", x.hall(), 1 + 16 * 1000);
        Check.due("feed behind it", x.feed(0x61, 0, 0), 1);
        Check.due("evening() of another word", x.evening(), 1);
        Check.due("count(11) behind it", x.count(11), 0);
    }

    private static void tokens() {
        hallFault("", "", 0);
        hallFault("", " \n \n", 0);
        hallFault("seat a row 0 at 0 ;", "", 0);
        hallFault("seat\na\nrow\n0\nat\n0\n;\n", "", 0);
        hallFault("seat a row0at0;seat b row 0000at0001;", "", 0);
        hallFault("seat a row 1at 1;", "", 0);
        hallFault("seat abcdefgh row 0 at 0 ;", "", 0);
        hallFault("seat ", "abcdefghi row 0 at 0 ;", 1);
        hallFault("seat a row ", "00000 at 0 ;", 1);
        hallFault("seat a row ", "12345 at 0 ;", 1);
        hallFault("", "seatrow", 1);
        hallFault("", "Seat a row 0 at 0 ;", 1);
        hallFault("seat ", "A row 0 at 0 ;", 1);
        hallFault("seat a", ".", 1);
        hallFault("seat a row 0 at 0 ; ", "~", 1);
        hallFault("seat a", "1row 0 at 0 ;", 1);
        hallFault("seat a row 0", "x", 1);
        hallFault("seat a ", "", 1);
        hallFault("seat a   ", "", 1);
        hallFault("", ";", 1);
        hallFault("seat a row 0 at 0 ; ", ";", 1);
        // What is wrong further on does not count.
        hallFault("seat a row ", "5 at 10 ; @", 4);
    }

    private static void seats() {
        hallFault("seat ", "at row 0 at 0 ;", 1);
        hallFault("seat ", "1 row 0 at 0 ;", 1);
        for (String word : ("seat row at person nutmegs foe lasts wears lay sit rise grate hour plain lady rasp captain"
            + " not and or").split(" ")) {
            hallFault("seat ", word + " row 0 at 0 ;", 1);
            hallFault("person ", word + " plain nutmegs 0 ;", 1);
            hallFault("foe ", word + " x ;", 1);
        }
        for (String word : "fresh company rank date seats rows an b nots".split(" ")) {
            hallFault("seat " + word + " row 0 at 0 ;", "", 0);
            hallFault("person " + word + " plain nutmegs 0 ;", "", 0);
        }
        hallFault("seat a ", "at 0 row 0 ;", 1);
        hallFault("seat a row ", "at", 1);
        hallFault("seat a row 0 ", "; ", 1);
        hallFault("seat a row 0 at ", ";", 1);
        hallFault("seat a row 0 at 0 ", "seat b row 0 at 1 ;", 1);
        hallFault("seat a row 4 at 9 ;", "", 0);
        hallFault("seat a row ", "5 at 9 ;", 4);
        hallFault("seat a row 4 at ", "10 ;", 4);
        hallFault("seat a row 4 at ", "9999 ;", 4);
        hallFault(SEAT + "seat ", "aa row 0 at 0 ;", 3);
        hallFault(TWO + "seat ", "qq row 0 at 0 ;", 3);
        hallFault(SEAT + "seat bb row 1 at ", "3 ;", 3);
        hallFault(SEAT + "seat bb row 1 at 4 ; seat cc row 2 at 3 ; seat dd row 1 at ", "4", 3);
        hallFault(SEAT + "seat bb row 3 at 1 ;", "", 0);
        StringBuilder seven = new StringBuilder();
        for (char name = 'a'; name < 'h'; name++) {
            seven.append("seat ").append(name).append(" row 0 at ").append(name - 'a').append(" ; ");
        }
        hallFault(seven.toString(), "", 0);
        hallFault(seven + "", "seat h row 0 at 9 ;", 5);
        hallFault(seven + "", "seat", 5);
        hallFault(seven + "", "seats", 1);
        hallFault(seven + "person h plain nutmegs 0 ;", "", 0);
    }

    private static void persons() {
        hallFault("person pp plain nutmegs 0 ; person qq lady nutmegs 9 ; person r rasp nutmegs 1 ; ", "", 0);
        hallFault("person pp captain nutmegs 5;", "", 0);
        hallFault("person pp ", "nutmegs 1 ;", 1);
        hallFault("person pp ", "king nutmegs 1 ;", 1);
        hallFault("person pp lady ", "1 ;", 1);
        hallFault("person pp lady nutmegs ", "many ;", 1);
        hallFault("person pp lady nutmegs ", "10 ;", 4);
        hallFault("person pp lady nutmegs 1 ", "", 1);
        hallFault(TWO + "person ", "pp plain nutmegs 1 ;", 3);
        hallFault(SEAT + "person ", "aa plain nutmegs 1 ;", 3);
        String five = TWO + "person r plain nutmegs 1 ; person s plain nutmegs 1 ; person t plain nutmegs 1 ; ";
        hallFault(five, "", 0);
        hallFault(five, "person u plain nutmegs 1 ;", 5);
        hallFault(five, "persons", 1);
        hallFault(five + SEAT + "foe r s ;", "", 0);
    }

    private static void foes() {
        hallFault(TWO + "foe pp qq ;", "", 0);
        hallFault(TWO + "foe ", "rr qq ;", 2);
        hallFault(TWO + "foe pp ", "rr ;", 2);
        hallFault(SEAT + TWO + "foe ", "aa qq ;", 2);
        hallFault(SEAT + TWO + "foe pp ", "aa ;", 2);
        hallFault("foe ", "pp qq ; " + TWO, 2);
        hallFault(TWO + "foe pp ", "pp ;", 3);
        hallFault(TWO + "foe pp qq ; foe pp ", "qq ;", 3);
        hallFault(TWO + "foe pp qq ; foe qq ", "pp ;", 3);
        hallFault(TWO + "foe pp qq ; foe qq ", "rr ;", 2);
        hallFault(TWO + "foe pp ", "; ", 1);
        hallFault(TWO + "foe ", "7", 1);
        hallFault(TWO + "foe pp qq ", "pp ;", 1);
    }

    private static void lastsAndWears() {
        hallFault("lasts 1 ;", "", 0);
        hallFault("lasts 30 ;", "", 0);
        hallFault("lasts ", "0 ;", 4);
        hallFault("lasts ", "31 ;", 4);
        hallFault("lasts ", "fresh ;", 1);
        hallFault("lasts 3 ", "wears 1 ;", 1);
        hallFault("lasts 3 ; ", "lasts 4 ;", 3);
        hallFault("lasts 3 ; wears 2 ; ", "lasts", 3);
        hallFault("wears 1 ; ", "wears 1 ;", 3);
        hallFault("wears 1 ; lasts 9 ;", "", 0);
        hallFault("wears ", ";", 1);
        hallFault("wears ", "", 1);
    }

    private static void choices() {
        for (String e : new String[] {
            "0", "9999", "fresh", "company + rank - date * 2", "1 < 2 and 3 = 4 or 5", "not 1", "not not fresh",
            "( 1 )", "( 1 < 2 ) < 3", "not ( fresh = 1 or date )", "2*(3+4)-5", "1 and 2 or 3 and 4",
            "not fresh * 2 + 1 < 3", "((((1))))", "not not not not 1", "not(not(1))"}) {
            hallFault("wears " + e + " ;", "", 0);
        }
        hallFault("wears ", "row ;", 1);
        hallFault("wears ", "or 1 ;", 1);
        hallFault("wears ", "- 1 ;", 1);
        hallFault("wears 1 + ", "* 1 ;", 1);
        hallFault("wears 1 ", "1 ;", 1);
        hallFault("wears 1 ", "fresh ;", 1);
        hallFault("wears 1 ", "not 1 ;", 1);
        hallFault("wears 1 < 2 ", "< 3 ;", 1);
        hallFault("wears 1 = 2 ", "= 3 ;", 1);
        hallFault("wears 1 < 2 ", "= 3 ;", 1);
        hallFault("wears 1 and ", "and 2 ;", 1);
        hallFault("wears 1 and ", ";", 1);
        hallFault("wears ( 1 ", ";", 1);
        hallFault("wears ( 1 ", "", 1);
        hallFault("wears ( ", ") ;", 1);
        hallFault("wears 1 ", ") ;", 1);
        hallFault("wears 1 * ", "12345 ;", 1);
        hallFault("wears 1 + ", "Fresh ;", 1);
        hallFault("wears not ", "", 1);
        hallFault("wears 1 ", "& 2 ;", 1);
        hallFault("wears ", "old ;", 1);
    }

    private static void depth() {
        hallFault("wears not not not not 1 ;", "", 0);
        hallFault("wears not not not not not ", "1 ;", 5);
        hallFault("wears not not not not not ", "not 1 ;", 5);
        hallFault("wears not not not not not ", "( 1 ) ;", 5);
        hallFault("wears not not not not not ", "fresh ;", 5);
        hallFault("wears not not not not not ", "; ", 1);
        hallFault("wears not not not not not ", "row", 1);
        hallFault("wears not not not not not ", "", 1);
        hallFault("wears ((((1 + date < 3)))) ;", "", 0);
        hallFault("wears (((((", "1))))) ;", 5);
        hallFault("wears (((((", "(1)))))) ;", 5);
        hallFault("wears (((((", ") ;", 1);
        hallFault("wears (not (not (", "rank))) ;", 5);
        hallFault("wears (not (not rank)) and not (not (1)) ;", "", 0);
        // Those closed again do not count.
        hallFault("wears ((1) + (2)) * (((3))) + not not 4 = (not (5)) ;", "", 0);
        hallFault("wears ((((1)) + (2 * (3)))) ;", "", 0);
        hallFault("wears ((((1) + (2 * (", "3))))) ;", 5);
    }

    private static void evenings() {
        eveningFault("", "", 0);
        eveningFault("lay pp aa ; sit qq bb ; rise pp ; grate qq aa ; hour ;", "", 0);
        eveningFault("hour;hour;rise qq;", "", 0);
        eveningFault("", "seat", 1);
        eveningFault("", "pp lay", 1);
        eveningFault("", "hours ;", 1);
        eveningFault("lay ", "aa ;", 2);
        eveningFault("lay pp ", "pp ;", 2);
        eveningFault("lay ", "zz aa ;", 2);
        eveningFault("sit pp ", "zz ;", 2);
        eveningFault("sit ", "bb aa ;", 2);
        eveningFault("rise ", "aa ;", 2);
        eveningFault("rise ", "zz ;", 2);
        eveningFault("grate pp ", "qq ;", 2);
        eveningFault("grate ", "aa ;", 2);
        eveningFault("lay ", "hour ;", 1);
        eveningFault("lay pp ", "row ;", 1);
        eveningFault("lay pp ", "; ", 1);
        eveningFault("lay pp aa ", "", 1);
        eveningFault("rise pp ", "aa ;", 1);
        eveningFault("hour ", "1 ;", 1);
        eveningFault("hour ", "", 1);
        eveningFault("hour ; ", "; ", 1);
        String forty = "hour ; ".repeat(40);
        eveningFault(forty, "", 0);
        eveningFault(forty, "hour", 5);
        eveningFault(forty, "rise zz", 5);
        eveningFault(forty, "lay", 5);
        eveningFault(forty, "sit", 5);
        eveningFault(forty, "grate", 5);
        eveningFault(forty, "seat", 1);
        eveningFault(forty, "; ", 1);
        eveningFault("hour ; ".repeat(39) + "lay pp ", "", 1);
        NutmegSeats empty = new NutmegSeats();
        Check.due("evening() of a person where there is none", Check.evening(empty, "rise pp ;"), 2 + 16 * 5);
        Check.due("evening() of an hour where there is no hall", Check.evening(empty, "hour ;"), 0);
        Check.due("count(8)", empty.count(8), 1);
    }

    /** What stays behind a fault, and what a hall and an evening put an end to. */
    private static void staying() {
        NutmegSeats x = Check.told(SEAT, "seat bb row 1 at 4 ;", TWO, "foe pp qq ; lasts 9 ; wears 2 ;");
        Check.due("evening()", Check.evening(x, "hour ; hour ; sit pp aa ;"), 0);
        Check.due("lay", x.lay(0, 0), 5);
        Check.due("sit", x.sit(1, 1), 0);
        Check.due("hour", x.hour(), 0);
        Check.due("see", x.see(0, 1, true), true);
        Check.due("mark", x.mark(2, false), true);
        Check.due("evening() with a fault", Check.evening(x, "hour ; hour"), 1 + 16 * 11);
        String faulty = "lasts 3 ; wears 5 ; seat zz row 0 at 0 ; person kk lady nutmegs 9 ; ?";
        Check.due("hall() with a fault", Check.hall(x, faulty), 1 + 16 * faulty.indexOf('?'));
        int[] stays = {2, 2, 9, 1, 0, 1, 2, 0, 3, 1, 3, 0};
        for (int i = 0; i < stays.length; i++) {
            Check.due("count(" + i + ") behind faults", x.count(i), stays[i]);
        }
        Check.due("seat(0, 3) behind faults", x.seat(0, 3), 3);
        Check.due("seat(0, 1) behind faults", x.seat(0, 1), 3);
        Check.due("seat(1, 4) behind faults", x.seat(1, 4), 1);
        Check.due("person(1, 0) behind faults", x.person(1, 0), 1);
        Check.due("person(1, 4) behind faults", x.person(1, 4), 1);
        Check.due("later behind faults", x.later(0, 1), 1);
        Check.due("judged(2) behind faults", x.judged(2), 1);
        Check.due("a name of the old hall", Check.evening(x, "sit pp bb ; hour ;"), 0);
        Check.due("an evening changes nothing else", x.count(10), 3);
        Check.due("an evening changes nothing else", x.seat(0, 3), 3);
        Check.due("hall() without a fault", Check.hall(x, "seat zz row 0 at 0 ; person pp lady nutmegs 3 ;"), 0);
        int[] begins = {1, 1, 6, 0, 1, 0, 0, 3, 0, 0, 0, 0};
        for (int i = 0; i < begins.length; i++) {
            Check.due("count(" + i + ") of a new hall", x.count(i), begins[i]);
        }
        Check.due("undo in a new hall", x.undo(), false);
        Check.due("back in a new hall", x.mark(2, true), false);
        Check.due("foes in a new hall", x.person(0, 4), 0);
        Check.due("near in a new hall", x.seat(0, 5), 0);
        Check.due("lay in a new hall", x.lay(0, 0), 12);
        Check.due("without wears", x.later(0, 1), 11);
        Check.due("sit in a new hall", x.sit(0, 0), 3);
        Check.due("hall() once more", Check.hall(x, "seat zz row 0 at 0 ; seat yy row 0 at 5 ; " + TWO), 0);
        Check.due("nothing lies", x.seat(0, 2) * 10 + x.seat(0, 3), -10);
        Check.due("nobody sits", x.seat(0, 4) * 10 + x.person(0, 2), -11);
        Check.due("near once more", x.seat(0, 5) + x.seat(1, 5), 0);
        Check.due("foes once more", x.person(0, 4) + x.person(1, 4), 0);
        x.lay(0, 1);
        Check.due("hall() a fourth time", Check.hall(x, "seat zz row 0 at 0 ; seat yy row 0 at 5 ; " + TWO), 0);
        Check.due("nothing is left", x.seat(1, 3), 0);
        Check.due("an old name", Check.evening(x, "sit pp aa ;"), 2 + 16 * 7);
    }
}
