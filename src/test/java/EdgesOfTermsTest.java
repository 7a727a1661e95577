/** Terms 1: each sentence that names a boundary, by a test of its own. */
public final class EdgesOfTermsTest {
    private static final String RESERVED = "seat row at person nutmegs foe lasts wears lay sit rise grate hour"
        + " plain lady rasp captain not and or";

    private EdgesOfTermsTest() {
    }

    public static void main(String[] args) {
        tapeLength();
        tapeSigns();
        tapeIsTaken();
        tokenLength();
        blanks();
        words();
        numbers();
        signs();
        anyNumber();
        sevenSeats();
        rowsAndPlaces();
        onePlaceEach();
        fivePersons();
        kindsAndNutmegs();
        foes();
        lasts();
        onceEach();
        eveningLines();
        eveningNames();
        names();
        noTwoAlike();
        fromTheLeft();
        tests();
        sumsAndProducts();
        within();
        facts();
        oneOrNought();
        notNoughtIsSo();
        wrap();
        withoutWears();
        place();
        leastFault();
        cantStand();
        notTold();
        toldAlready();
        notAsTold();
        oneTooMany();
        newHall();
        fewerPersons();
        emptyHall();
        eveningIsTheEvening();
        atFirst();
        Check.end();
    }

    private static void says(String words) {
        Check.says("Terms 1: " + words);
    }

    private static void is(String call, long got, long want) {
        Check.is(call, got, want);
    }

    /** So many seats side by side: a, b, .. in row 0. */
    private static String seats(int count) {
        StringBuilder text = new StringBuilder();
        for (int i = 0; i < count; i++) {
            text.append("seat ").append((char) ('a' + i)).append(" row 0 at ").append(i).append(" ; ");
        }
        return text.toString();
    }

    /** So many plain persons with a nutmeg each: p, q, .. */
    private static String persons(int count) {
        StringBuilder text = new StringBuilder();
        for (int i = 0; i < count; i++) {
            text.append("person ").append((char) ('p' + i)).append(" plain nutmegs 1 ; ");
        }
        return text.toString();
    }

    /** A new object's fault, due at the place where the text behind the cut begins; kind 0: none is due. */
    private static void hall(String before, String from, int kind) {
        NutmegSeats x = new NutmegSeats();
        is("hall() of " + before + "|" + from, Check.hall(x, before + from), kind == 0 ? 0 : kind + 16 * before.length());
    }

    /** The same of an evening, where there are seats a, b and persons p, q. */
    private static void evening(String before, String from, int kind) {
        NutmegSeats x = Check.told(seats(2), persons(2));
        is("evening() of " + before + "|" + from, Check.evening(x, before + from),
            kind == 0 ? 0 : kind + 16 * before.length());
    }

    /** How much an hour takes of a nutmeg that lies alone in row 2, 60 being left of it. */
    private static void wear(String e, int due) {
        NutmegSeats x = Check.told("seat a row 2 at 0 ; person p lady nutmegs 1 ; lasts 30 ; wears " + e + " ;");
        x.lay(0, 0);
        x.hour();
        is("wears " + e, 60 - x.seat(0, 3), due);
    }

    private static void tapeLength() {
        says("the TAPE has at most 1,000 signs");
        NutmegSeats x = new NutmegSeats();
        Calls.feed(x, " ".repeat(999));
        is("999 signs", x.count(11), 999);
        is("one more", x.feed(0, 0, ';'), 1000);
        is("and one more", x.feed(0, ';', 0), 1000);
        is("hall(): the 1,000th is read", x.hall(), 1 + 16 * 999);
        Calls.feed(x, " ".repeat(1000) + ";");
        is("hall(): the 1,001st is not", x.hall(), 0);
        Calls.feed(x, " ".repeat(990) + "lasts 5 ; wears 2 ; ????");
        is("a feed that goes beyond", x.count(11), 1000);
        is("hall(): its first ten are read", x.hall(), 0);
        is("count(2)", x.count(2), 5);
        Calls.feed(x, "x".repeat(1200));
        is("hall() of 1,000 letters", x.hall(), 1);
        Calls.feed(x, ";".repeat(40) + "1".repeat(1200));
        is("evening() of 40 ; and 960 digits", x.evening(), 1);
    }

    private static void tapeSigns() {
        says("signs, 10 and 32 .. 126");
        NutmegSeats x = new NutmegSeats();
        int signs = 0;
        for (int sign = 0; sign < 256; sign++) {
            signs += sign == 10 || sign >= 32 && sign <= 126 ? 1 : 0;
            is("feed of " + sign, x.feed((long) sign << 56, 0, 0), signs);
        }
        is("all in all", signs, 96);
        int[] edges = {9, 10, 11, 31, 32, 126, 127, 128, 138, 160, 254, 255};
        for (int at = 0; at < 24; at++) {
            x = new NutmegSeats();
            signs = 0;
            for (int sign : edges) {
                long[] three = new long[3];
                three[at / 8] = (long) sign << 56 - at % 8 * 8;
                signs += sign == 10 || sign == 32 || sign == 126 ? 1 : 0;
                is("feed of " + sign + " at " + at, x.feed(three[0], three[1], three[2]), signs);
            }
        }
    }

    private static void tapeIsTaken() {
        says("what reads it takes it: it is empty then");
        NutmegSeats x = new NutmegSeats();
        String[] texts = {seats(1) + persons(1), "seat", "lasts 31 ;", ""};
        for (String text : texts) {
            Check.hall(x, text);
            is("count(11) behind hall() of " + text, x.count(11), 0);
            is("feed behind it", x.feed(32, 0, 0), 1);
            Check.evening(x, text);
            is("count(11) behind evening() of " + text, x.count(11), 0);
            is("feed behind it", x.feed(0, 32, 0), 1);
        }
        is("evening() of hour ; behind a blank", Check.evening(x, "hour ;"), 0);
        is("count(11)", x.count(11), 0);
        is("evening() of what is taken", x.evening(), 0);
        is("count(8)", x.count(8), 0);
    }

    private static void tokenLength() {
        says("TOKENS, each as long as can be");
        hall("", "seata row 0 at 0 ;", 1);
        hall("seat a row0at0;", "", 0);
        hall("seat a ", "rowat 0 at 0 ;", 1);
        hall("lasts ", "31;", 4);
        hall("lasts 30;", "", 0);
        hall("lasts 3 ", "0 ;", 1);
        hall("wears not1", "x;", 1);
        hall("wears not1;", "", 0);
        hall("wears 1and2;", "", 0);
        hall("wears ", "notfresh ;", 1);
        evening("hour;hour;", "", 0);
        evening("", "hourhour;", 1);
    }

    private static void blanks() {
        says("blanks (10, 32) between where one likes");
        hall("", "", 0);
        hall("\n", "", 0);
        hall("  \n\n  ", "", 0);
        hall(" \nseat\na\n\nrow  0 \n at\n0\n;\n ", "", 0);
        hall("seat a row0at0;person p plain nutmegs0;lasts30;wears(1+2)*3<4;", "", 0);
    }

    private static void words() {
        says("WORDS (letters a .. z, 8 at most)");
        hall("seat abcdefgh row 0 at 0 ; seat ijklmnop row 0 at 1 ; seat qrstuvwx row 0 at 2 ; seat yz row 0 at 3 ;", "", 0);
        hall("seat ", "abcdefghi row 0 at 0 ;", 1);
        hall("", "a".repeat(9), 1);
        hall("", "seatseatseat", 1);
        hall("seat ", "x".repeat(64), 1);
        hall("person p plain ", "nutmegsss 1 ;", 1);
        // Eight letters are told apart by each one of them, and by their number.
        hall("seat zzzzzzzz row 0 at 0 ; seat zzzzzzzy row 0 at 1 ; seat yzzzzzzz row 0 at 2 ; seat zzzzzzz row 0 at 3 ;"
            + " seat z row 0 at 4 ; seat zz row 0 at 5 ; person zzzyzzzz plain nutmegs 0 ; person y plain nutmegs 0 ;", "", 0);
        hall("seat aaaaaaaa row 0 at 0 ; seat a row 0 at 1 ; seat aa row 0 at 2 ; seat aaaaaaa row 0 at 3 ; seat ",
            "aaaaaaaa row 0 at 4 ;", 3);
    }

    private static void numbers() {
        says("NUMBERS (1 to 4 digits; a letter may stand right behind)");
        hall("seat a row 0 at 9 ;", "", 0);
        hall("seat a row 0000 at 0009 ;", "", 0);
        hall("seat a row ", "00000 at 0 ;", 1);
        hall("seat a row 0 at ", "00009 ;", 1);
        hall("lasts ", "00001 ;", 1);
        hall("lasts 0001 ;", "", 0);
        hall("wears 9999 ;", "", 0);
        hall("wears ", "10000 ;", 1);
        hall("wears ", "1".repeat(60), 1);
        hall("seat a row 1at 2;", "", 0);
        hall("wears 1and 2or 3;", "", 0);
        hall("wears 1", "x ;", 1);
        hall("wears ", "4294967297 ;", 1);
        wear("0007", 7);
    }

    private static void signs() {
        says("the signs ( ) < = + - * ; all else is none");
        hall("wears(1+2-3*4<5)=6;", "", 0);
        for (char sign = 33; sign < 127; sign++) {
            boolean letter = sign >= 'a' && sign <= 'z';
            boolean digit = sign >= '0' && sign <= '9';
            if (!letter && !digit) {
                hall("", sign + "", 1);
                hall("seat ", sign + " row 0 at 0 ;", 1);
            }
            if (!letter && !digit && "<=+-*;".indexOf(sign) < 0) {
                hall("wears 1 ", sign + " 2 ;", 1);
            }
        }
        for (String sign : "< = + - *".split(" ")) {
            hall("wears 1 " + sign + " 2 ;", "", 0);
        }
        hall("wears 1 ; ", "2 ;", 1);
    }

    private static void anyNumber() {
        says("HALL: any number of ..");
        hall("", "", 0);
        hall("lasts 1 ;", "", 0);
        hall("wears 1 ;", "", 0);
        hall("person p plain nutmegs 0 ;", "", 0);
        hall("wears 1 ; lasts 2 ; " + persons(5) + "foe p q ; foe q r ; " + seats(7) + "foe r s ; foe p t ;", "", 0);
        hall("lasts 1 ; ", "; ", 1);
    }

    private static void sevenSeats() {
        says("seat: 7 at most, numbered as told");
        NutmegSeats x = Check.told("seat g row 4 at 9 ; seat f row 3 at 8 ; seat e row 2 at 7 ; seat d row 1 at 6 ;",
            "seat c row 0 at 5 ; seat b row 0 at 3 ; seat a row 0 at 0 ;");
        int[][] told = {{4, 9}, {3, 8}, {2, 7}, {1, 6}, {0, 5}, {0, 3}, {0, 0}};
        is("count(0)", x.count(0), 7);
        for (int i = 0; i < 7; i++) {
            is("row of " + i, x.seat(i, 0), told[i][0]);
            is("at of " + i, x.seat(i, 1), told[i][1]);
        }
        is("an eighth", x.seat(7, 0), -2);
        hall(seats(7), "seat h row 0 at 9 ;", 5);
        hall(seats(7) + persons(5) + "lasts 2 ; ", "seat", 5);
        hall(seats(6), "seat h row 0 at 9 ;", 0);
    }

    private static void rowsAndPlaces() {
        says("row 0 to 4, at 0 to 9");
        hall("seat a row 0 at 0 ; seat b row 4 at 9 ;", "", 0);
        hall("seat a row ", "5 at 0 ;", 4);
        hall("seat a row ", "9999 at 0 ;", 4);
        hall("seat a row 0 at ", "10 ;", 4);
        hall("seat a row 0 at ", "9999 ;", 4);
        hall("seat a row ", "- 1 at 0 ;", 1);
        hall("seat a row 0 at ", "- 1 ;", 1);
    }

    private static void onePlaceEach() {
        says("no two in one row are at the same");
        hall("seat a row 1 at 3 ; seat b row 2 at 3 ; seat c row 1 at 2 ; seat d row 3 at 1 ;", "", 0);
        hall("seat a row 1 at 3 ; seat b row 1 at ", "3 ;", 3);
        hall("seat a row 1 at 3 ; seat b row 1 at ", "0003 ;", 3);
        hall("seat a row 0 at 0 ; seat b row 4 at 9 ; seat c row 0 at ", "0 ;", 3);
        hall("seat a row 0 at 0 ; seat b row 4 at 9 ; seat c row 4 at ", "9 ;", 3);
        hall(seats(6) + "seat z row 0 at ", "5 ;", 3);
    }

    private static void fivePersons() {
        says("person: 5 at most, numbered as told");
        NutmegSeats x = Check.told("person t captain nutmegs 4 ; person s rasp nutmegs 3 ; person r lady nutmegs 2 ;",
            "person q plain nutmegs 1 ; person p plain nutmegs 0 ;");
        int[][] told = {{3, 4}, {2, 3}, {1, 2}, {0, 1}, {0, 0}};
        is("count(1)", x.count(1), 5);
        for (int i = 0; i < 5; i++) {
            is("KIND of " + i, x.person(i, 0), told[i][0]);
            is("NUTMEGS of " + i, x.person(i, 1), told[i][1]);
        }
        is("a sixth", x.person(5, 0), -2);
        hall(persons(5), "person u plain nutmegs 1 ;", 5);
        hall(persons(5) + seats(7), "person", 5);
        hall(persons(4), "person u plain nutmegs 1 ;", 0);
    }

    private static void kindsAndNutmegs() {
        says("KIND: plain, lady, rasp, captain; nutmegs 0 to 9");
        for (String kind : "plain lady rasp captain".split(" ")) {
            hall("person p " + kind + " nutmegs 0 ; person q " + kind + " nutmegs 9 ;", "", 0);
            hall("person p " + kind + " nutmegs ", "10 ;", 4);
            hall("person p " + kind + " nutmegs ", "9999 ;", 4);
        }
        hall("person p ", "ladys nutmegs 0 ;", 1);
        hall("person p ", "0 nutmegs 0 ;", 1);
        is("count(7)", Check.told("person p plain nutmegs 9 ; person q rasp nutmegs 9 ; person r lady nutmegs 9 ;",
            "person s captain nutmegs 9 ; person t plain nutmegs 9 ;").count(7), 45);
    }

    private static void foes() {
        says("foe: two PERSONS told, not the same, each two once (each is a FOE of the other one)");
        String ten = "foe p q ; foe r p ; foe p s ; foe t p ; foe q r ; foe s q ; foe q t ; foe s r ; foe r t ; foe t s ; ";
        NutmegSeats x = Check.told(persons(5), ten);
        for (int i = 0; i < 5; i++) {
            is("FOES of " + i, x.person(i, 4), 31 - (1 << i));
        }
        hall(persons(5) + ten + "foe q ", "p ;", 3);
        hall(persons(5) + ten + "foe s ", "t ;", 3);
        hall(persons(1) + "foe p ", "p ;", 3);
        hall(persons(1) + "foe p ", "q ; person q plain nutmegs 1 ;", 2);
        NutmegSeats y = Check.told(persons(3), "foe r p ;");
        is("FOES of p", y.person(0, 4), 4);
        is("FOES of q", y.person(1, 4), 0);
        is("FOES of r", y.person(2, 4), 1);
    }

    private static void lasts() {
        says("lasts 1 to 30 (6)");
        is("1", Check.told("lasts 1 ;").count(2), 1);
        is("30", Check.told("lasts 30 ;").count(2), 30);
        is("untold", Check.told(seats(1)).count(2), 6);
        is("untold, no HALL", new NutmegSeats().count(2), 6);
        hall("lasts ", "0 ;", 4);
        hall("lasts ", "31 ;", 4);
        hall("lasts ", "9999 ;", 4);
        hall("lasts ", "0000 ;", 4);
    }

    private static void onceEach() {
        says("lasts, wears: once each");
        hall("lasts 3 ; wears 2 ; ", "lasts 3 ;", 3);
        hall("lasts 3 ; wears 2 ; ", "wears 2 ;", 3);
        NutmegSeats x = new NutmegSeats();
        for (int i = 1; i <= 3; i++) {
            is("once in each HALL", Check.hall(x, "wears 1 ; lasts " + i + " ;"), 0);
            is("count(2)", x.count(2), i);
            is("a fault does not stand in the way of the next", Check.hall(x, "lasts 4 ; wears 1 ; lasts"), 3 + 16 * 20);
        }
    }

    private static void eveningLines() {
        says("EVENING: any number of .., 40 lines at most");
        evening("", "", 0);
        evening("hour ;", "", 0);
        String[] lines = {"lay p a ; ", "sit p a ; ", "rise p ; ", "grate p a ; ", "hour ; "};
        for (String line : lines) {
            evening(line.repeat(40), "", 0);
            evening(line.repeat(40), line, 5);
            evening(line.repeat(39) + line, "; ", 1);
            evening("hour ; ".repeat(40), line, 5);
        }
        NutmegSeats x = Check.told(seats(2), persons(2));
        for (int count : new int[] {0, 1, 39, 40}) {
            is("evening()", Check.evening(x, "hour ; ".repeat(count)), 0);
            is("count(8)", x.count(8), count);
        }
        is("41 lines", Check.evening(x, "hour ; ".repeat(41)), 5 + 16 * 280);
        is("count(8) stays", x.count(8), 40);
    }

    private static void eveningNames() {
        says("a PERSON on a SEAT; a PERSON on a SEAT; a PERSON; a PERSON what lies on a SEAT");
        for (String verb : "lay sit grate".split(" ")) {
            evening(verb + " p a ; " + verb + " q b ;", "", 0);
            evening(verb + " ", "a p ;", 2);
            evening(verb + " p ", "q ;", 2);
            evening(verb + " p ", "; ", 1);
            evening(verb + " p a ", "b ;", 1);
        }
        evening("rise p ;", "", 0);
        evening("rise ", "a ;", 2);
        evening("rise p ", "a ;", 1);
        evening("hour ", "p ;", 1);
    }

    private static void names() {
        says("a NAME is another WORD than seat, row, at, .., or");
        for (String word : RESERVED.split(" ")) {
            hall("seat ", word + " row 0 at 0 ;", 1);
            hall("person ", word + " plain nutmegs 0 ;", 1);
            hall(persons(2) + "foe ", word + " q ;", 1);
            hall(persons(2) + "foe p ", word + " ;", 1);
            evening("lay ", word + " a ;", 1);
            evening("sit p ", word + " ;", 1);
            evening("rise ", word + " ;", 1);
            hall("seat " + word + "x row 0 at 0 ;", "", 0);
            hall("seat x" + word.substring(0, word.length() - 1) + " row 0 at 0 ;", "", 0);
        }
        for (String word : "fresh company rank date".split(" ")) {
            hall("seat " + word + " row 0 at 0 ; wears " + word + " ;", "", 0);
            hall("person " + word + " plain nutmegs 0 ; wears " + word + " ;", "", 0);
        }
    }

    private static void noTwoAlike() {
        says("no two (SEATS, PERSONS) are alike");
        hall("seat x row 0 at 0 ; seat ", "x row 0 at 1 ;", 3);
        hall("seat x row 0 at 0 ; person ", "x plain nutmegs 1 ;", 3);
        hall("person x plain nutmegs 1 ; person ", "x plain nutmegs 1 ;", 3);
        hall("person x plain nutmegs 1 ; seat ", "x row 0 at 1 ;", 3);
        hall(seats(6) + "seat ", "a row 0 at 9 ;", 3);
        hall(seats(6) + "seat ", "f row 0 at 9 ;", 3);
        hall(seats(7) + persons(4) + "person ", "g plain nutmegs 1 ;", 3);
        hall(seats(6) + persons(5) + "seat ", "t row 0 at 9 ;", 3);
        hall("seat x row 0 at 0 ; seat xx row 0 at 1 ; person xxx plain nutmegs 1 ;", "", 0);
        NutmegSeats x = Check.told("seat x row 0 at 0 ;");
        is("a name of an older HALL is new", Check.hall(x, "person x plain nutmegs 1 ;"), 0);
        is("and so again", Check.hall(x, "seat x row 0 at 0 ;"), 0);
    }

    private static void fromTheLeft() {
        says("E: TEST { and TEST or or TEST }, from the left");
        wear("1 or 0 and 0", 0);
        wear("0 and 0 or 1", 1);
        wear("0 and 1 or 1 and 0", 0);
        wear("1 or ( 0 and 0 )", 1);
        wear("8 - 3 - 2", 3);
        wear("8 - ( 3 - 2 )", 7);
        wear("8 - 3 + 2", 7);
    }

    private static void tests() {
        says("TEST: SUM, or SUM < SUM, or SUM = SUM");
        wear("1 < 2", 1);
        wear("2 < 2", 0);
        wear("3 < 2", 0);
        wear("2 = 2", 1);
        wear("2 = 1", 0);
        wear("1 + 1 < 1 + 2", 1);
        wear("2 * 3 = 3 + 3", 1);
        hall("wears 1 < 2 ", "< 3 ;", 1);
        hall("wears 1 = 2 ", "= 3 ;", 1);
        hall("wears 1 < 2 ", "= 3 ;", 1);
        hall("wears 1 = 2 ", "< 3 ;", 1);
        hall("wears ( 1 < 2 ) = 3 and 4 < 5 ;", "", 0);
    }

    private static void sumsAndProducts() {
        says("SUM: PRODUCT { + or - PRODUCT }; PRODUCT: PART { * PART }");
        wear("1 + 2 * 3", 7);
        wear("2 * 3 + 1", 7);
        wear("2 * 2 * 2", 8);
        wear("9 - 2 * 2 * 2", 1);
        wear("not 0 * 3 + 2", 5);
        hall("wears ", "- 1 ;", 1);
        hall("wears ", "+ 1 ;", 1);
        hall("wears 2 * ", "- 1 ;", 1);
        hall("wears 1 + ", "; ", 1);
        hall("wears 1 * ", "; ", 1);
        hall("wears 1 ", "2 ;", 1);
        hall("wears ( ", ") ;", 1);
        hall("wears ( 1 ", "; ", 1);
        hall("wears 1 ", ") ;", 1);
        StringBuilder sum = new StringBuilder("0");
        for (int i = 0; i < 140; i++) {
            sum.append(i % 7 == 0 ? "+1-0" : "+0*3");
        }
        wear(sum + "-13", 7);
    }

    private static void within() {
        says("no PART lies within 5 of not and ( )");
        wear("not not not not 0", 0);
        wear("not not not not 8", 1);
        wear("( ( ( ( 7 ) ) ) )", 7);
        wear("not ( not ( 5 ) )", 1);
        wear("( not ( not 5 ) ) + 3", 4);
        wear("((((1+2)*2)+1)+1)+1", 9);
        wear("not not not not 8 + not not not not 8", 2);
        hall("wears not not not not not ", "1 ;", 5);
        hall("wears not not not not not ", "not 1 ;", 5);
        hall("wears not not not not not ", "( 1 ) ;", 5);
        hall("wears not not not not not ", "date ;", 5);
        hall("wears ( ( ( ( ( ", "1 ) ) ) ) ) ;", 5);
        hall("wears ( ( ( ( ( ", "( 1 ) ) ) ) ) ) ;", 5);
        hall("wears ( ( ( ( ( ", "not 1 ) ) ) ) ) ;", 5);
        hall("wears ( ( ( ( 1 + not ", "1 ) ) ) ) ;", 5);
        hall("wears ( ( ( ( 1 ) ) ) ) * ( ( ( ( 2 + ( ", "3 ) ) ) ) ) ;", 5);
        hall("wears ( not ( not ( ", "rank ) ) ) ;", 5);
        hall("wears " + "(".repeat(5), "(".repeat(400), 5);
        hall("wears " + "not ".repeat(5), "not ".repeat(200), 5);
    }

    private static void facts() {
        says("facts: fresh, company (how many NUTMEGS lie on SEATS NEAR), rank, date (the hour's number)");
        wear("fresh - 51", 9);
        wear("company", 0);
        wear("rank", 2);
        wear("date", 0);
        NutmegSeats x = Check.told("seat a row 1 at 1 ; seat b row 0 at 1 ; seat c row 2 at 1 ; seat d row 1 at 0 ;",
            "seat e row 1 at 2 ; seat f row 0 at 0 ; seat g row 4 at 1 ; person p lady nutmegs 9 ; lasts 30 ; wears company ;");
        for (int seat = 0; seat < 7; seat++) {
            x.lay(0, seat);
        }
        x.hour();
        int[] company = {4, 2, 1, 2, 1, 2, 0};
        for (int seat = 0; seat < 7; seat++) {
            is("company of " + seat, 60 - x.seat(seat, 3), company[seat]);
        }
        NutmegSeats y = Check.told("seat a row 0 at 0 ; seat b row 4 at 0 ; person p lady nutmegs 9 ; lasts 30 ; wears rank ;");
        y.lay(0, 0);
        y.lay(0, 1);
        y.hour();
        is("rank 0", y.seat(0, 3), 60);
        is("rank 4", y.seat(1, 3), 56);
    }

    private static void oneOrNought() {
        says("of not, and, or, < and = comes 1 or 0");
        wear("3 + ( 4 and 5 )", 4);
        wear("3 + ( 4 and 0 )", 3);
        wear("3 + ( 0 and 4 )", 3);
        wear("3 + ( 0 and 0 )", 3);
        wear("3 + ( 4 or 5 )", 4);
        wear("3 + ( 4 or 0 )", 4);
        wear("3 + ( 0 or 4 )", 4);
        wear("3 + ( 0 or 0 )", 3);
        wear("3 + not 0", 4);
        wear("3 + not 7", 3);
        wear("3 + ( 4 < 5 )", 4);
        wear("3 + ( 5 < 4 )", 3);
        wear("3 + ( 5 = 5 )", 4);
        wear("3 + ( 5 = 4 )", 3);
    }

    private static void notNoughtIsSo() {
        says("what is not 0 is so");
        wear("3 + ( 2 and 9999 )", 4);
        wear("3 + ( 0 - 1 and 0 - 2 )", 4);
        wear("3 + ( 0 - 1 or 0 )", 4);
        wear("3 + not ( 0 - 1 )", 3);
        wear("3 + ( 2 - 2 or 0 )", 3);
    }

    private static void wrap() {
        says("ints wrap");
        // 4096 * 4096 * 128 is 2 to the 31st.
        wear("4096 * 4096 * 256 = 0", 1);
        wear("4096 * 4096 * 256 + 7", 7);
        wear("4096 * 4096 * 128 < 0", 1);
        wear("0 < 4096 * 4096 * 128 - 1", 1);
        wear("0 < 0 - 4096 * 4096 * 128 - 1", 1);
        wear("4096 * 4096 * 64 + 4096 * 4096 * 64 < 0", 1);
        wear("0 - 4096 * 4096 * 128 < 0", 1);
        wear("4096 * 4096 * 128", 0);
        wear("4096 * 4096 * 128 - 1", 9);
    }

    private static void withoutWears() {
        says("without wears: 1");
        NutmegSeats x = Check.told("seat a row 3 at 0 ; person p plain nutmegs 2 ; lasts 2 ;");
        x.lay(0, 0);
        x.hour();
        is("left", x.seat(0, 3), 1);
        is("gone", x.hour(), 1);
        is("a HALL with wears", Check.hall(x, "seat a row 3 at 0 ; person p plain nutmegs 2 ; lasts 9 ; wears 4 ;"), 0);
        is("a HALL without", Check.hall(x, "seat a row 3 at 0 ; person p plain nutmegs 2 ; lasts 9 ;"), 0);
        x.lay(0, 0);
        x.hour();
        is("left", x.seat(0, 3), 8);
    }

    private static void place() {
        says("FAULTS, kind + 16 * the place (from 0) of a token, the end being one at the text's length");
        hall("", "x", 1);
        hall(" ", "x", 1);
        hall("seat", "", 1);
        hall("seat ", "", 1);
        hall("seat \n \n", "", 1);
        hall("seat a row 0 at 0", "", 1);
        hall("seat a row 0 at 0" + " ".repeat(983), "", 1);
        hall(" ".repeat(999), "x", 1);
        hall(" ".repeat(996) + "seat", "", 1);
        hall("wears 1 + ", "", 1);
        hall("wears not not not not not ", "", 1);
        evening("hour", "", 1);
        evening("lay p a   ", "", 1);
        evening("hour ; ".repeat(40) + "\n\n", "", 0);
        hall("seat a row 0 at 0 ; seat ", "a row 9 at 99 ; #", 3);
    }

    private static void leastFault() {
        says("of the first token from the left that is wrong the least");
        hall("seat a row ", "5 at 10 ; seat a row 0 at 0 ; #", 4);
        hall("lasts ", "0 ; lasts 0 ; foe x y ;", 4);
        hall("seat a row ", "12345 at 0 ;", 1);
        hall(persons(1) + "foe ", "x x ;", 2);
        hall(persons(1) + "foe p ", "x ;", 2);
        hall("wears (((((", "; ", 1);
        hall("wears (((((", ")", 1);
        hall("wears (((((", "row", 1);
        hall("wears (((((", "12345", 1);
        hall("wears (((((", "and 1", 1);
        evening("hour ; ".repeat(40), "hours", 1);
        evening("hour ; ".repeat(40), "p", 1);
        evening("hour ; ".repeat(40), "seat", 1);
        evening("hour ; ".repeat(40), "40", 1);
        evening("hour ; ".repeat(40), "lay zz zz zz", 5);
        evening("lay ", "zz zz ;", 2);
        evening("lay p ", "zz zz", 2);
    }

    private static void cantStand() {
        says("1 it is none, or can't stand there");
        for (String sign : new String[] {"#", "A", "!", "abcdefghi", "12345", ")", "1", "row", ";"}) {
            hall("", sign, 1);
            hall("seat ", sign, 1);
            hall("seat a ", sign.equals("row") ? "at" : sign, 1);
            hall("seat a row 0 ", sign, 1);
            hall("seat a row 0 at 0 ", sign.equals(";") ? "," : sign, 1);
            hall("person p ", sign, 1);
            hall("person p plain ", sign, 1);
            hall("lasts 1 ", sign.equals(";") ? "," : sign, 1);
            evening("", sign, 1);
            evening("lay ", sign, 1);
            evening("lay p ", sign, 1);
            evening("rise p ", sign.equals(";") ? "," : sign, 1);
        }
        for (String word : "lay sit rise grate hour".split(" ")) {
            hall("", word + " p a ;", 1);
        }
        for (String word : "seat person foe lasts wears".split(" ")) {
            evening("", word + " ;", 1);
        }
    }

    private static void notTold() {
        says("2 a NAME of no PERSON (behind foe, its second, lay, sit, rise, grate), of no SEAT (..) told");
        String hall = seats(2) + persons(2);
        for (String name : new String[] {"zz", "a", "pp", "fresh"}) {
            hall(hall + "foe ", name + " p ;", 2);
            hall(hall + "foe p ", name + " ;", 2);
            for (String verb : "lay sit rise grate".split(" ")) {
                evening(verb + " ", name + " ;", 2);
            }
        }
        for (String name : new String[] {"zz", "p", "aa", "c"}) {
            for (String verb : "lay sit grate".split(" ")) {
                evening(verb + " q ", name + " ;", 2);
            }
        }
        NutmegSeats x = new NutmegSeats();
        is("no HALL", Check.evening(x, "rise p ;"), 2 + 16 * 5);
        is("no SEATS", Check.evening(Check.told(persons(1)), "sit p a ;"), 2 + 16 * 6);
        is("no PERSONS", Check.evening(Check.told(seats(1)), "sit p a ;"), 2 + 16 * 4);
    }

    private static void toldAlready() {
        says("3 .. the second one of foe that is the first one, or between which and that it is told (from either)");
        String hall = persons(3) + "foe p q ; ";
        hall(hall + "foe q ", "q ;", 3);
        hall(hall + "foe p ", "q ;", 3);
        hall(hall + "foe q ", "p ;", 3);
        hall(hall + "foe p r ; foe r q ;", "", 0);
        hall(hall + "foe p r ; foe r q ; foe r ", "p ;", 3);
    }

    private static void notAsTold() {
        says("4 a NUMBER that is not as told");
        hall("seat a row ", "5 ", 4);
        hall("seat a row 4 at ", "10", 4);
        hall("person p plain nutmegs ", "10", 4);
        hall("lasts ", "0", 4);
        hall("lasts ", "31", 4);
        hall("wears 9999 ;", "", 0);
    }

    private static void oneTooMany() {
        says("5 one too many: seat of an eighth, person of a sixth, the first word of a 41st line; not, or a PART, within 5");
        hall(seats(7), "seat ;", 5);
        hall(persons(5), "person ;", 5);
        hall(seats(7) + persons(5) + "foe p q ; lasts 3 ; wears 2 ; ", "seat", 5);
        evening("rise p ; ".repeat(40), "rise ;", 5);
        hall("wears ((((not ", "fresh)))) ;", 5);
        hall("wears ((((not ", "not fresh)))) ;", 5);
    }

    private static void newHall() {
        says("without a FAULT a HALL is the HALL from then on: hour 0, all stand, with the NUTMEGS told, ..");
        String hall = seats(2) + persons(2) + "foe p q ; lasts 9 ;";
        NutmegSeats x = Check.told(hall);
        Check.evening(x, "hour ; sit p a ;");
        x.lay(0, 1);
        x.sit(1, 0);
        x.hour();
        x.see(0, 1, true);
        for (int i = 0; i < 4; i++) {
            x.mark(i, false);
        }
        is("hall() of the same", Check.hall(x, hall), 0);
        is("hour 0", x.count(3), 0);
        is("all stand", x.count(6), 0);
        is("all stand", x.person(1, 2), -1);
        is("nobody sits", x.seat(0, 4), -1);
        is("the NUTMEGS told", x.person(0, 1), 1);
        is("none lies anywhere", x.count(5), 0);
        is("none is left", x.seat(1, 3), 0);
        is("none is whose", x.seat(1, 2), -1);
        is("no EVENING", x.count(8), 0);
        is("nothing SEEN", x.count(9), 0);
        is("nothing can be undone", x.count(10), 0);
        Check.is("undo()", x.undo(), false);
        for (int i = 0; i < 4; i++) {
            Check.is("no MARK " + i, x.mark(i, true), false);
        }
    }

    private static void fewerPersons() {
        says("a HALL is the HALL from then on .. with the NUTMEGS told");
        NutmegSeats x = Check.told(seats(7), persons(5), "foe p q ; foe q r ;");
        is("the same", Check.hall(x, seats(7) + persons(5) + "foe p q ; foe q r ;"), 0);
        is("fewer", Check.hall(x, "seat z row 4 at 4 ; person y lady nutmegs 3 ;"), 0);
        is("count(7)", x.count(7), 3);
        is("count(0), count(1)", 10 * x.count(0) + x.count(1), 11);
        is("a second PERSON", x.person(1, 1), -2);
        is("a second SEAT", x.seat(1, 0), -2);
        is("FOES", x.person(0, 4), 0);
        is("SEATS NEAR", x.seat(0, 5), 0);
        is("an old name", Check.evening(x, "rise p ;"), 2 + 16 * 5);
    }

    private static void emptyHall() {
        says("HALL: any number of: none, too");
        NutmegSeats x = Check.told(seats(7), persons(5), "lasts 9 ; wears 9 ;");
        x.sit(0, 0);
        is("hall() of an empty TAPE", x.hall(), 0);
        int[] counts = {0, 0, 6, 0, 0, 0, 0, 0, 0, 0, 0, 0};
        for (int i = 0; i < counts.length; i++) {
            is("count(" + i + ")", x.count(i), counts[i]);
        }
        is("seat(0, 0)", x.seat(0, 0), -2);
        is("person(0, 0)", x.person(0, 0), -2);
    }

    private static void eveningIsTheEvening() {
        says("an EVENING is the EVENING");
        NutmegSeats x = Check.told(seats(2), persons(2));
        is("evening()", Check.evening(x, "sit p a ; sit q b ;"), 0);
        is("how many sit", x.judged(2), 2);
        is("another one", Check.evening(x, "sit p a ;"), 0);
        is("how many sit", x.judged(2), 1);
        is("one with a FAULT", Check.evening(x, "sit p a ; sit q b"), 1 + 16 * 17);
        is("how many sit", x.judged(2), 1);
        is("an empty one", x.evening(), 0);
        is("how many sit", x.judged(2), 0);
        is("count(8)", x.count(8), 0);
    }

    private static void atFirst() {
        says("at first: nothing");
        NutmegSeats x = new NutmegSeats();
        for (int i = 0; i < 12; i++) {
            is("count(" + i + ")", x.count(i), i == 2 ? 6 : 0);
        }
        Check.is("undo()", x.undo(), false);
        for (int i = 0; i < 4; i++) {
            Check.is("mark(" + i + ", true)", x.mark(i, true), false);
        }
    }
}
