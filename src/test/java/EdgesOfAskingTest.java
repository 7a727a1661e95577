import java.math.BigInteger;

/** Terms 3: each sentence that names a boundary, by a test of its own. */
public final class EdgesOfAskingTest {
    private static final String ROW_OF_SEVEN = "seat a row 0 at 0 ; seat b row 0 at 1 ; seat c row 0 at 2 ;"
        + " seat d row 0 at 3 ; seat e row 0 at 4 ; seat f row 0 at 5 ; seat g row 0 at 6 ;";
    private static final String APART = "seat a row 0 at 0 ; seat b row 0 at 2 ; seat c row 0 at 4 ;"
        + " seat d row 0 at 6 ; seat e row 2 at 0 ; seat f row 2 at 2 ; seat g row 2 at 4 ;";
    private static final String SNAKE = "seat a row 0 at 0 ; seat b row 1 at 2 ; seat c row 0 at 1 ;"
        + " seat d row 1 at 3 ; seat e row 0 at 2 ; seat f row 2 at 3 ; seat g row 3 at 3 ;";
    private static final String ONE = "seat a row 0 at 0 ;";
    private static final String FIVE = "person p plain nutmegs 2 ; person q lady nutmegs 2 ; person r rasp nutmegs 2 ;"
        + " person s captain nutmegs 2 ; person t plain nutmegs 0 ;";
    private static final String PLAIN = "person p plain nutmegs 9 ;";
    private static final String ALL_FOES = "foe p q ; foe p r ; foe p s ; foe q r ; foe q s ; foe r s ;";

    // All that asks and does nothing.
    private static final String[] ASKS = {"judged 0", "judged 1", "judged 2", "left 0", "later 0 60", "first", "empties",
        "most -1", "most 0", "most 3", "could 1", "needs 0 4 60", "keeps 0 30 1", "keeps 4 1 0", "placed -1", "placed 2",
        "peace", "war", "safe", "who", "ask", "far 0 6", "blocks 1", "rich", "lone", "row 0", "stands", "guards 1",
        "chance 0 6 5", "chance 3 2 9", "rests 2 5 1 -1", "seasons 77 99 0", "seasons 78 9 1", "seasons 79 3 2"};

    private EdgesOfAskingTest() {
    }

    public static void main(String[] args) {
        nothingIsDone();
        nothingOfAnotherCall();
        left();
        leftWhatLiesNow();
        later();
        first();
        empties();
        mostOfThoseWhoStand();
        mostFirstRow();
        could();
        needsHours();
        needsNoneBehindTheLast();
        needsWhetherTheyHave();
        keepsHours();
        keepsWithThePocket();
        keepsFree();
        keepsLeastSet();
        keepsBesideOneAnother();
        placedNobody();
        placedFoes();
        placedWereNobodyThere();
        peaceAndWar();
        foes();
        safe();
        seenHours();
        seenEight();
        seenEachByItself();
        whoOnNoFreeSeat();
        whoHavingOneOrNot();
        askHours();
        askLessThanAll();
        askFirst();
        askOfFreeOnes();
        askOfWhoIsLeft();
        far();
        blocks();
        rich();
        lone();
        row();
        stands();
        guardsNutmegs();
        guardsFoes();
        chanceHours();
        chanceOdds();
        chanceTogether();
        chanceCaptains();
        rests();
        seasonsByHand();
        seasonsHours();
        seasonsSeeds();
        seasonsWithoutAny();
        marks();
        marksHold();
        Check.end();
    }

    private static void says(String words) {
        Check.says("Terms 3: " + words);
    }

    private static void is(String call, long got, long want) {
        Check.is(call, got, want);
    }

    /** A hall in which something lies, sits, is seen, marked and told. */
    private static NutmegSeats inUse() {
        NutmegSeats x = Check.told(SNAKE, FIVE, ALL_FOES, "lasts 9 ; wears company + date ;");
        Check.evening(x, "lay p a ; sit q c ; hour ;");
        x.lay(0, 0);
        x.lay(1, 3);
        x.sit(2, 1);
        x.see(4, 2, true);
        x.mark(1, false);
        return x;
    }

    /** A call that is written as its name and its numbers. */
    private static long asked(NutmegSeats x, String ask) {
        String[] words = ask.split(" ");
        int[] a = new int[words.length - 1];
        for (int i = 0; i < a.length; i++) {
            a[i] = Integer.parseInt(words[i + 1]);
        }
        return Calls.answer(x, words[0], a);
    }

    private static void nothingIsDone() {
        says("HOURS going by, nothing else being done");
        for (String ask : ASKS) {
            NutmegSeats x = inUse();
            String ahead = Check.state(x);
            long answer = asked(x, ask);
            Check.is("all stays behind " + ask, Check.state(x).equals(ahead), true);
            is(ask + " again", asked(x, ask), answer);
            x.hour();
            Check.is("the MARK is there", x.mark(1, true), true);
        }
    }

    private static void nothingOfAnotherCall() {
        says("SEEN: as all is when it is asked; SEASONS: all is as ahead then");
        for (String ask : ASKS) {
            long alone = asked(inUse(), ask);
            for (String other : ASKS) {
                NutmegSeats x = inUse();
                asked(x, other);
                is(ask + " behind " + other, asked(x, ask), alone);
            }
        }
    }

    private static void left() {
        says("LEFT of a SEAT: in how many HOURS (1 to 99)");
        for (int hours : new int[] {1, 2, 98, 99, 100}) {
            NutmegSeats x = Check.told(ONE, PLAIN, "lasts 1 ; wears date = " + (hours - 1) + " ;");
            x.lay(0, 0);
            is("gone by " + hours, x.left(0), hours > 99 ? -1 : hours);
        }
        NutmegSeats y = Check.told(ONE, PLAIN, "lasts 1 ; wears 0 ;");
        y.lay(0, 0);
        is("never gone", y.left(0), -1);
        NutmegSeats z = Check.told(ONE, "person p captain nutmegs 1 ; lasts 1 ; wears 9 ;");
        z.lay(0, 0);
        is("a captain's", z.left(0), -1);
    }

    private static void leftWhatLiesNow() {
        says("LEFT: what lies there now is gone");
        NutmegSeats x = Check.told(ROW_OF_SEVEN, FIVE, "lasts 3 ; wears company + ( fresh < 3 ) ;");
        x.lay(0, 0);
        x.lay(2, 1);
        is("2 of it, in company", x.left(1), 1);
        is("3 of it, the company gone", x.left(0), 3);
        is("nothing lies there", x.left(2), -1);
        x.hour();
        is("it is gone", x.left(1), -1);
        is("an hour less", x.left(0), 2);
    }

    private static void later() {
        says("LATER: how much is left .. behind so many (0 to 60) HOURS");
        NutmegSeats x = Check.told(ONE, PLAIN, "lasts 9 ; wears date = 59 ;");
        x.lay(0, 0);
        is("behind 0", x.later(0, 0), 9);
        is("behind 59", x.later(0, 59), 9);
        is("behind 60", x.later(0, 60), 8);
        is("behind 61", x.later(0, 61), -1);
        is("behind -1", x.later(0, -1), -1);
        NutmegSeats y = Check.told(ONE, PLAIN, "lasts 3 ;");
        y.lay(0, 0);
        for (int hours = 0; hours <= 60; hours++) {
            is("behind " + hours, y.later(0, hours), Math.max(0, 3 - hours));
        }
    }

    private static void first() {
        says("FIRST: the SEAT whose NUTMEG is gone the soonest; of equal ones the first; NONE: none by 99");
        NutmegSeats x = Check.told(APART, FIVE, "lasts 5 ;");
        is("nothing lies", x.first(), -1);
        x.lay(3, 0);
        is("a captain's", x.first(), -1);
        x.lay(1, 6);
        is("the only one", x.first(), 6);
        x.lay(0, 5);
        is("sooner", x.first(), 5);
        x.lay(0, 4);
        is("of equal ones", x.first(), 4);
        x.lay(2, 3);
        is("sooner still", x.first(), 3);
        x.lay(2, 2);
        is("of equal ones", x.first(), 2);
        for (int hours : new int[] {1, 99, 100}) {
            NutmegSeats y = Check.told(ONE, PLAIN, "lasts 1 ; wears date = " + (hours - 1) + " ;");
            y.lay(0, 0);
            is("gone by " + hours, y.first(), hours > 99 ? -1 : 0);
        }
    }

    private static void empties() {
        says("EMPTIES: behind how many HOURS (0 to 99) no NUTMEG lies any more");
        NutmegSeats x = Check.told(APART, FIVE, "lasts 5 ;");
        is("none lies", x.empties(), 0);
        x.lay(2, 0);
        is("a rasp's", x.empties(), 3);
        x.lay(1, 1);
        is("a lady's, too", x.empties(), 10);
        x.lay(3, 2);
        is("a captain's, too", x.empties(), -1);
        for (int hours : new int[] {1, 98, 99, 100}) {
            NutmegSeats y = Check.told(ONE, PLAIN, "lasts 1 ; wears date = " + (hours - 1) + " ;");
            y.lay(0, 0);
            is("gone by " + hours, y.empties(), hours > 99 ? -1 : hours);
        }
    }

    private static void mostOfThoseWhoStand() {
        says("MOST: the most PERSONS of those who stand who could SIT now, on unlike SEATS");
        is("seven SEATS", Check.told(APART, FIVE).most(-1), 5);
        is("one SEAT", Check.told(ONE, FIVE).most(-1), 1);
        is("no SEAT", Check.told(FIVE).most(-1), 0);
        is("nobody", Check.told(APART).most(-1), 0);
        NutmegSeats x = Check.told(APART, FIVE);
        for (int i = 0; i < 5; i++) {
            is("behind " + i, x.most(-1), 5 - i);
            x.sit(i, i);
            is("who sits", x.most(i), -2);
        }
        is("all sit", x.most(-1), 0);
        NutmegSeats y = Check.told("seat a row 0 at 0 ; seat b row 0 at 1 ;", FIVE);
        y.lay(0, 0);
        y.lay(0, 1);
        is("all is p's", y.most(-1), 1);
        is("p", y.most(0), 0);
        for (int i = 1; i < 5; i++) {
            is("none for " + i, y.most(i), -1);
        }
    }

    private static void mostFirstRow() {
        says("MOST: of equal ones the first row (of SEATS, by PERSONS who stand; none comes behind all others)");
        NutmegSeats x = Check.told("seat a row 0 at 0 ; seat b row 0 at 1 ; seat c row 0 at 2 ;", FIVE);
        int[] row = {0, 1, 2, -1, -1};
        for (int i = 0; i < 5; i++) {
            is("more PERSONS than SEATS: " + i, x.most(i), row[i]);
        }
        x.lay(0, 1);
        x.lay(1, 2);
        // FREE is a alone; p has b, too, and q has c.
        int[] gives = {1, 2, 0, -1, -1};
        is("how many", x.most(-1), 3);
        for (int i = 0; i < 5; i++) {
            is("p gives way, r comes ahead of s: " + i, x.most(i), gives[i]);
        }
        x.sit(4, 0);
        is("how many", x.most(-1), 2);
        is("p", x.most(0), 1);
        is("q", x.most(1), 2);
        is("r", x.most(2), -1);
        NutmegSeats y = Check.told("seat a row 0 at 0 ; seat b row 0 at 1 ; seat c row 0 at 2 ;", FIVE);
        y.lay(1, 1);
        y.lay(1, 0);
        y.sit(2, 2);
        // q alone could sit, on a or on b.
        is("p", y.most(0), -1);
        is("q", y.most(1), 0);
        is("r sits", y.most(2), -2);
        is("how many", y.most(-1), 1);
    }

    private static void could() {
        says("COULD of a PERSON who stands: SEATS on which they could SIT now (bits)");
        NutmegSeats x = Check.told(APART, FIVE);
        is("all seven", x.could(4), 127);
        for (int seat = 0; seat < 7; seat++) {
            if (seat == 6) {
                x.sit(3, seat);
            } else {
                x.lay(seat / 2, seat);
            }
        }
        int[] could = {3, 12, 48, -1, 0};
        for (int i = 0; i < 5; i++) {
            is("could(" + i + ")", x.could(i), could[i]);
        }
        is("no SEATS", Check.told(FIVE).could(0), 0);
    }

    private static void needsHours() {
        says("NEEDS of a PERSON for a FREE SEAT and so many (1 to 60) HOURS");
        NutmegSeats x = Check.told(ONE, FIVE, "lasts 1 ;");
        for (int hours = 1; hours <= 60; hours++) {
            is("a plain one's for " + hours, x.needs(0, 0, hours), hours);
            is("a lady's for " + hours, x.needs(1, 0, hours), (hours + 1) / 2);
            is("a rasp's for " + hours, x.needs(2, 0, hours), hours);
            is("a captain's for " + hours, x.needs(3, 0, hours), 1);
        }
        is("for 0", x.needs(0, 0, 0), -1);
        is("for 61", x.needs(0, 0, 61), -1);
        is("nothing wears", Check.told(ONE, PLAIN, "lasts 1 ; wears 0 ;").needs(0, 0, 60), 1);
    }

    private static void needsNoneBehindTheLast() {
        says("NEEDS: another one each time that one is gone, ahead of the next of these HOURS (none behind the last)");
        NutmegSeats x = Check.told(ONE, PLAIN, "lasts 30 ;");
        int[][] due = {{29, 1}, {30, 1}, {31, 2}, {59, 2}, {60, 2}};
        for (int[] d : due) {
            is("for " + d[0], x.needs(0, 0, d[0]), d[1]);
        }
        NutmegSeats y = Check.told(ONE, PLAIN, "lasts 20 ;");
        int[][] three = {{20, 1}, {21, 2}, {40, 2}, {41, 3}, {60, 3}};
        for (int[] d : three) {
            is("for " + d[0], y.needs(0, 0, d[0]), d[1]);
        }
    }

    private static void needsWhetherTheyHave() {
        says("NEEDS: how many NUTMEGS of theirs, whether they have them or not");
        NutmegSeats x = Check.told(ONE, "person p plain nutmegs 0 ; person q captain nutmegs 0 ; lasts 2 ;");
        is("with none", x.needs(0, 0, 5), 3);
        is("a captain with none", x.needs(1, 0, 60), 1);
    }

    private static void keepsHours() {
        says("KEEPS of a PERSON for so many (1 to 30) HOURS");
        NutmegSeats x = Check.told(APART, PLAIN, "lasts 10 ;");
        int[][] due = {{1, 7}, {10, 7}, {11, 4}, {20, 4}, {21, 3}, {30, 3}, {0, -1}, {31, -1}};
        for (int[] d : due) {
            is("how many for " + d[0], x.keeps(0, d[0], 0), d[1]);
            is("which for " + d[0], x.keeps(0, d[0], 1), d[1] < 0 ? -1 : (1 << d[1]) - 1);
        }
        NutmegSeats y = Check.told(APART, PLAIN, "lasts 30 ;");
        is("30 of 30", y.keeps(0, 30, 1), 127);
    }

    private static void keepsWithThePocket() {
        says("KEEPS: with the NUTMEGS in their pocket");
        for (int pocket = 0; pocket <= 9; pocket++) {
            NutmegSeats x = Check.told(APART, "person p plain nutmegs " + pocket + " ; lasts 2 ;");
            is("one each, of " + pocket, x.keeps(0, 2, 0), Math.min(7, pocket));
            is("two each, of " + pocket, x.keeps(0, 3, 0), pocket / 2);
            is("nine each, of " + pocket, x.keeps(0, 18, 0), pocket / 9);
            is("which, ten each, of " + pocket, x.keeps(0, 19, 1), 0);
        }
        NutmegSeats y = Check.told(APART, "person p plain nutmegs 3 ; lasts 2 ;");
        y.lay(0, 0);
        is("what lies is not in the pocket", y.keeps(0, 3, 0), 1);
        is("which", y.keeps(0, 1, 1), 6);
    }

    private static void keepsFree() {
        says("KEEPS: the most FREE SEATS");
        NutmegSeats x = Check.told(APART, PLAIN, "person q plain nutmegs 1 ;");
        x.sit(0, 0);
        x.lay(1, 1);
        x.lay(0, 2);
        is("which", x.keeps(0, 1, 1), 120);
        is("how many", x.keeps(0, 1, 0), 4);
        is("no SEATS", Check.told(PLAIN).keeps(0, 1, 0), 0);
        NutmegSeats y = Check.told(ONE, PLAIN);
        y.sit(0, 0);
        is("none FREE", y.keeps(0, 1, 1), 0);
    }

    private static void keepsLeastSet() {
        says("KEEPS: of equal ones the least set (bits)");
        NutmegSeats x = Check.told(APART, "person p plain nutmegs 2 ; lasts 2 ; wears 1 + ( rank = 0 ) ;");
        // In row 0 one lasts 1, in row 2 it lasts 2: e, f, g.
        is("any two for 1", x.keeps(0, 1, 1), 3);
        is("two of row 2 for 2", x.keeps(0, 2, 1), 48);
        is("one for 3 of row 2", x.keeps(0, 3, 1), 16);
        is("one for 4", x.keeps(0, 4, 1), 16);
        is("none for 5", x.keeps(0, 5, 1), 0);
    }

    private static void keepsBesideOneAnother() {
        says("KEEPS: as many as all these need, together, as they wear beside one another");
        String three = "seat a row 0 at 0 ; seat b row 0 at 1 ; seat c row 0 at 2 ;";
        NutmegSeats x = Check.told(three, "person p plain nutmegs 3 ; lasts 2 ; wears company * 2 ;");
        // For 2 hours a and c need one each, a and b two each, all three six.
        is("two for 2", x.keeps(0, 2, 1), 5);
        is("all three for 1", x.keeps(0, 1, 1), 7);
        NutmegSeats y = Check.told(three, "person p plain nutmegs 4 ; person q plain nutmegs 1 ; lasts 2 ; wears company * 2 ;");
        y.lay(1, 1);
        // Beside q's on b, which goes with the first hour, a and c go, too.
        is("beside another one's", y.keeps(0, 3, 1), 5);
        is("beside another one's", y.keeps(0, 3, 0), 2);
    }

    private static void placedNobody() {
        says("PLACED: in how many ways all PERSONS could sit on unlike SEATS (nobody: in one)");
        is("nobody", Check.told(APART).placed(-1), 1);
        is("nobody, no SEATS", new NutmegSeats().placed(-1), 1);
        is("nobody: where", Check.told(APART).placed(0), -2);
        is("no SEATS", Check.told(FIVE).placed(-1), 0);
        is("too few SEATS", Check.told("seat a row 0 at 0 ; seat b row 0 at 2 ; seat c row 0 at 4 ; seat d row 0 at 6 ;", FIVE)
            .placed(-1), 0);
        NutmegSeats x = Check.told(APART, FIVE);
        is("7 * 6 * 5 * 4 * 3", x.placed(-1), 2520);
        for (int i = 0; i < 5; i++) {
            is("the first row: " + i, x.placed(i), i);
        }
    }

    private static void placedFoes() {
        says("PLACED: with no two FOES on SEATS that are NEAR; the first row of SEATS (by PERSONS)");
        NutmegSeats x = Check.told(ROW_OF_SEVEN, "person p plain nutmegs 0 ; person q plain nutmegs 0 ;",
            "person r plain nutmegs 0 ; person s plain nutmegs 0 ;", ALL_FOES);
        // On seven in a row four that are not near are a, c, e, g alone.
        is("four FOES", x.placed(-1), 24);
        for (int i = 0; i < 4; i++) {
            is("four FOES: " + i, x.placed(i), 2 * i);
        }
        NutmegSeats y = Check.told(ROW_OF_SEVEN, FIVE, ALL_FOES, "foe p t ; foe q t ; foe r t ; foe s t ;");
        is("five FOES", y.placed(-1), 0);
        is("five FOES: where", y.placed(0), -2);
        NutmegSeats z = Check.told(ROW_OF_SEVEN, "person p plain nutmegs 0 ; person q plain nutmegs 0 ;",
            "person r plain nutmegs 0 ; foe p q ; foe p r ; foe q r ;");
        // Three of seven that are not near: ten sets, each in six ways.
        is("three FOES", z.placed(-1), 60);
        is("three FOES: r", z.placed(2), 4);
        NutmegSeats w = Check.told("seat a row 0 at 0 ; seat b row 0 at 1 ; seat c row 0 at 2 ;",
            "person p plain nutmegs 0 ; person q plain nutmegs 0 ; person r plain nutmegs 0 ; foe p r ;");
        is("q between the FOES", w.placed(-1), 2);
        is("p", w.placed(0), 0);
        is("q", w.placed(1), 1);
        is("r", w.placed(2), 2);
    }

    private static void placedWereNobodyThere() {
        says("PLACED: were nobody there and nothing lying");
        NutmegSeats x = Check.told("seat a row 0 at 0 ; seat b row 0 at 2 ;",
            "person p plain nutmegs 1 ; person q plain nutmegs 1 ; foe p q ;");
        x.sit(0, 1);
        x.lay(1, 0);
        is("how many", x.placed(-1), 2);
        is("p", x.placed(0), 0);
        is("q", x.placed(1), 1);
    }

    private static void peaceAndWar() {
        says("PEACE, WAR: pairs of PERSONS who sit NEAR");
        NutmegSeats x = Check.told(ROW_OF_SEVEN, FIVE, ALL_FOES);
        is("nobody sits", x.peace() * 10 + x.war(), 0);
        x.sit(0, 0);
        is("one sits", x.peace() * 10 + x.war(), 0);
        x.sit(1, 2);
        is("not NEAR", x.peace() * 10 + x.war(), 0);
        x.sit(2, 1);
        is("two pairs of FOES", x.peace() * 10 + x.war(), 2);
        x.sit(4, 3);
        is("and one of no FOES", x.peace() * 10 + x.war(), 12);
        x.sit(3, 4);
        is("and another one", x.peace() * 10 + x.war(), 22);
        NutmegSeats y = Check.told("seat a row 0 at 0 ; seat b row 0 at 1 ; seat c row 1 at 0 ; seat d row 1 at 1 ;",
            "seat e row 0 at 2 ;", FIVE);
        for (int i = 0; i < 5; i++) {
            y.sit(i, i);
        }
        is("a ring of four, and one more", y.peace(), 5);
        is("no FOES", y.war(), 0);
    }

    private static void foes() {
        says("FOES of a PERSON (bits)");
        NutmegSeats x = Check.told(FIVE, "foe t p ; foe q t ; foe t r ;");
        int[] foes = {16, 16, 16, 0, 7};
        for (int i = 0; i < 5; i++) {
            is("person(" + i + ", 4)", x.person(i, 4), foes[i]);
        }
    }

    private static void safe() {
        says("SAFE: SEATS, of those on which NUTMEGS lie, to which no FOE of whose it is sits NEAR (bits)");
        NutmegSeats x = Check.told(ROW_OF_SEVEN, FIVE, "foe p q ; foe q r ;");
        is("none lies", x.safe(), 0);
        x.lay(0, 0);
        x.lay(1, 2);
        x.lay(2, 6);
        is("nobody sits", x.safe(), 69);
        x.sit(1, 1);
        is("q between p's and her own", x.safe(), 68);
        x.sit(2, 3);
        is("r beside q's", x.safe(), 64);
        x.rise(1);
        is("q stands", x.safe(), 65);
        x.sit(1, 4);
        is("q two apart from r's", x.safe(), 65);
        x.rise(1);
        x.sit(1, 5);
        is("q beside r's", x.safe(), 1);
    }

    private static void seenHours() {
        says("SEEN: still lies there behind so many (1 to 60) HOURS, or does not");
        for (int hours : new int[] {1, 2, 59, 60}) {
            NutmegSeats x = Check.told(ONE, PLAIN, "person q captain nutmegs 0 ; lasts 1 ; wears date = " + (hours - 1) + " ;");
            Check.is("see()", x.see(0, hours, true), true);
            is("it is gone by " + hours, x.who(), 2);
            x = Check.told(ONE, PLAIN, "person q captain nutmegs 0 ; lasts 1 ; wears date = " + hours + " ;");
            Check.is("see()", x.see(0, hours, true), true);
            is("it is not gone by " + hours, x.who(), 3);
            x = Check.told(ONE, PLAIN, "person q captain nutmegs 0 ; lasts 1 ; wears date = " + (hours - 1) + " ;");
            Check.is("see()", x.see(0, hours, false), true);
            is("it does not lie behind " + hours, x.who(), 1);
        }
        NutmegSeats y = Check.told(ONE, PLAIN);
        Check.is("behind 0", y.see(0, 0, true), false);
        Check.is("behind 61", y.see(0, 61, true), false);
        Check.is("behind -1", y.see(0, -1, true), false);
        is("count(9)", y.count(9), 0);
    }

    private static void seenEight() {
        says("SEEN: 8 at most");
        NutmegSeats x = Check.told(APART, FIVE, "lasts 5 ;");
        for (int i = 0; i < 7; i++) {
            Check.is("see() " + i, x.see(i, 2, true), true);
            is("who()", x.who(), 31);
        }
        Check.is("the eighth", x.see(6, 5, false), true);
        is("who(): all eight count", x.who(), 21);
        Check.is("the ninth", x.see(6, 60, true), false);
        is("who(): the ninth does not", x.who(), 21);
        is("count(9)", x.count(9), 8);
    }

    private static void seenEachByItself() {
        says("SEEN: each by itself, as all is when it is asked");
        NutmegSeats x = Check.told(ROW_OF_SEVEN, FIVE, "lasts 4 ; wears company ;");
        x.see(0, 60, true);
        x.see(1, 60, true);
        x.see(2, 60, true);
        is("none keeps another one company", x.who(), 31);
        x.lay(0, 3);
        is("but one that lies there does", x.who(), 8 + 2);
        x.undo();
        is("and does no more", x.who(), 31);
    }

    private static void whoOnNoFreeSeat() {
        says("WHO: on a SEAT that is not FREE then nothing can be LAID: it does not lie there");
        NutmegSeats x = Check.told(APART, FIVE, "lasts 5 ;");
        x.see(0, 1, false);
        x.see(1, 1, true);
        is("both FREE", x.who(), 0);
        x.lay(0, 0);
        is("one lies there", x.who(), 31);
        x.sit(1, 1);
        is("she sits there", x.who(), 0);
        x.sit(0, 0);
        x.rise(1);
        is("he sits there, his own in the pocket", x.who(), 31);
    }

    private static void whoHavingOneOrNot() {
        says("SEEN: an unknown PERSON, one of those told, LAYS now, having one or not");
        NutmegSeats x = Check.told(APART, "person p plain nutmegs 0 ; person q lady nutmegs 0 ; lasts 5 ;");
        x.sit(0, 3);
        x.see(0, 5, true);
        is("a lady with none", x.who(), 2);
        NutmegSeats y = Check.told(APART);
        is("nobody is told", y.who(), 0);
    }

    private static void askHours() {
        says("ASK: the SEAT, of FREE ones, and the HOURS (1 to 60)");
        String two = "person p plain nutmegs 0 ; person q captain nutmegs 0 ; lasts 1 ;";
        for (int hours : new int[] {1, 2, 59, 60, 61}) {
            NutmegSeats x = Check.told("seat z row 4 at 9 ;", two, "wears date = " + (hours - 1) + " ;");
            is("parted by " + hours, x.ask(), hours > 60 ? -1 : 8 * hours);
        }
    }

    private static void askLessThanAll() {
        says("ASK: is the least, if that is less than all");
        is("alike", Check.told(APART, "person p plain nutmegs 0 ; person q plain nutmegs 3 ;").ask(), -1);
        is("one alone", Check.told(APART, PLAIN).ask(), -1);
        is("nobody", Check.told(APART).ask(), -1);
        is("no SEATS", Check.told(FIVE).ask(), -1);
        NutmegSeats x = Check.told(APART, FIVE, "lasts 5 ;");
        x.see(0, 60, true);
        is("WHO is one", x.who(), 8);
        is("ask()", x.ask(), -1);
        x.see(0, 60, false);
        is("WHO is nobody", x.who(), 0);
        is("ask()", x.ask(), -1);
    }

    private static void askFirst() {
        says("ASK: by which the greater number .. is the least; of equal ones the first by HOURS, then SEATS");
        NutmegSeats x = Check.told(APART, FIVE, "lasts 5 ;");
        // Behind 3 the rasp's is gone: 4 of 5; behind 5 the plain ones', too: 3 of 5.
        is("3 of 5", x.ask(), 40);
        NutmegSeats y = Check.told(APART, "person p rasp nutmegs 0 ; person q plain nutmegs 0 ; person r lady nutmegs 0 ;",
            "lasts 6 ;");
        is("2 of 3, by HOURS", y.ask(), 24);
        NutmegSeats z = Check.told(APART, "person p plain nutmegs 0 ; person q lady nutmegs 0 ; lasts 6 ; wears rank + 1 ;");
        // In row 2 it wears 3 an hour: gone behind 2.
        is("the SEAT of row 2, by HOURS", z.ask(), 20);
        NutmegSeats w = Check.told(APART, "person p plain nutmegs 0 ; person q lady nutmegs 0 ; lasts 6 ; wears 3 - rank ;");
        is("the first SEAT", w.ask(), 16);
    }

    private static void askOfFreeOnes() {
        says("ASK: of FREE ones");
        NutmegSeats x = Check.told(APART, FIVE, "lasts 5 ;");
        x.sit(4, 0);
        is("sat on", x.ask(), 41);
        x.lay(3, 1);
        is("held", x.ask(), 42);
        NutmegSeats y = Check.told(ONE, FIVE);
        y.sit(0, 0);
        is("none FREE", y.ask(), -1);
    }

    private static void askOfWhoIsLeft() {
        says("ASK: the greater number of WHO");
        NutmegSeats x = Check.told(APART, FIVE, "lasts 5 ;");
        x.mark(0, false);
        x.see(0, 3, true);
        is("all but r", x.who(), 27);
        is("2 of 4", x.ask(), 40);
        x.mark(1, false);
        x.see(2, 5, true);
        is("q and s", x.who(), 10);
        is("1 of 2", x.ask(), 80);
        x.mark(1, true);
        x.see(3, 5, false);
        is("p and t", x.who(), 17);
        is("alike", x.ask(), -1);
        x.mark(0, true);
        x.see(1, 9, false);
        is("p, r and t", x.who(), 21);
        is("2 of 3", x.ask(), 24);
        NutmegSeats y = Check.told(ROW_OF_SEVEN, FIVE, "lasts 6 ; wears 1 + company ;");
        y.lay(3, 1);
        y.see(4, 4, true);
        is("beside none: all but r", y.who(), 27);
        // Beside the captain's it wears 2 an hour: p's and t's are gone behind 3.
        is("beside the captain's", y.ask(), 24);
        y.sit(2, 0);
        y.sit(1, 2);
        is("beside none", y.ask(), 51);
    }

    private static void far() {
        says("FAR of two SEATS: over how many steps (0: the same; NONE: never)");
        NutmegSeats x = Check.told(SNAKE);
        int[] order = {0, 2, 4, 1, 3, 5, 6};
        for (int i = 0; i < 7; i++) {
            for (int j = 0; j < 7; j++) {
                is("far(" + order[i] + ", " + order[j] + ")", x.far(order[i], order[j]), Math.abs(i - j));
            }
        }
        NutmegSeats y = Check.told(APART);
        for (int i = 0; i < 7; i++) {
            for (int j = 0; j < 7; j++) {
                is("far(" + i + ", " + j + ")", y.far(i, j), i == j ? 0 : -1);
            }
        }
        // Two ways: three steps beat the one of five.
        NutmegSeats z = Check.told("seat a row 0 at 0 ; seat b row 1 at 0 ; seat c row 1 at 1 ; seat d row 1 at 2 ;",
            "seat e row 0 at 2 ; seat f row 0 at 1 ; seat g row 2 at 2 ;");
        is("over f", z.far(0, 4), 2);
        is("either way", z.far(0, 3), 3);
        is("to the end", z.far(0, 6), 4);
    }

    private static void blocks() {
        says("BLOCKS: of FREE SEATS, how many .. that hang together by being NEAR; how many SEATS the largest has");
        NutmegSeats x = Check.told(SNAKE, FIVE);
        is("one of seven", x.blocks(0) * 10 + x.blocks(1), 17);
        x.sit(0, 1);
        is("the middle one sat on", x.blocks(0) * 10 + x.blocks(1), 23);
        x.lay(1, 2);
        is("another one held", x.blocks(0) * 10 + x.blocks(1), 33);
        is("seven of one", Check.told(APART).blocks(0) * 10 + Check.told(APART).blocks(1), 71);
        NutmegSeats y = Check.told(ONE, FIVE);
        y.lay(0, 0);
        is("none FREE", y.blocks(0) * 10 + y.blocks(1), 0);
        is("no SEATS", Check.told(FIVE).blocks(0) * 10 + Check.told(FIVE).blocks(1), 0);
    }

    private static void rich() {
        says("RICH: who has the most NUTMEGS, LAID ones, too; of equal ones the first; NONE: nobody");
        is("nobody", Check.told(APART).rich(), -1);
        NutmegSeats x = Check.told(APART, "person p plain nutmegs 2 ; person q plain nutmegs 3 ; person r plain nutmegs 3 ;");
        is("of equal ones", x.rich(), 1);
        x.lay(1, 0);
        x.lay(1, 1);
        x.lay(1, 2);
        is("all LAID, the first SEAT's, too", x.rich(), 1);
        for (int i = 0; i < 6; i++) {
            x.hour();
        }
        is("gone", x.rich(), 2);
        is("0 each", Check.told("person p plain nutmegs 0 ; person q plain nutmegs 0 ;").rich(), 0);
        is("9 at the end", Check.told("person p plain nutmegs 8 ; person q plain nutmegs 9 ;").rich(), 1);
    }

    private static void lone() {
        says("LONE: SEATS to which none is NEAR (bits)");
        is("all", Check.told(APART).lone(), 127);
        is("none", Check.told(SNAKE).lone(), 0);
        is("no SEATS", Check.told(FIVE).lone(), 0);
        is("one", Check.told(ONE).lone(), 1);
        is("the last", Check.told("seat a row 0 at 0 ; seat b row 1 at 0 ; seat c row 4 at 0 ;").lone(), 4);
    }

    private static void row() {
        says("ROW: FREE SEATS of a row (bits)");
        NutmegSeats x = Check.told("seat a row 4 at 0 ; seat b row 0 at 0 ; seat c row 4 at 9 ; seat d row 0 at 9 ;", FIVE);
        int[] rows = {10, 0, 0, 0, 5};
        for (int i = 0; i < 5; i++) {
            is("row(" + i + ")", x.row(i), rows[i]);
        }
        is("row(-1)", x.row(-1), -1);
        is("row(5)", x.row(5), -1);
        x.sit(0, 0);
        x.lay(1, 2);
        is("none FREE", x.row(4), 0);
    }

    private static void stands() {
        says("STANDS: who could SIT on no SEAT now, of those who stand (bits)");
        is("no SEATS", Check.told(FIVE).stands(), 31);
        is("nobody", Check.told(APART).stands(), 0);
        NutmegSeats x = Check.told(ONE, FIVE);
        is("one FREE", x.stands(), 0);
        x.lay(2, 0);
        is("but whose it is", x.stands(), 27);
        x.sit(2, 0);
        is("but who sits", x.stands(), 27);
    }

    private static void guardsNutmegs() {
        says("GUARDS: FREE ones, NEAR .. to none of a FOE's NUTMEGS");
        String hall = "seat a row 0 at 0 ; seat b row 0 at 1 ; seat c row 0 at 2 ; seat d row 1 at 1 ; seat e row 3 at 3 ;";
        for (int foe = 0; foe < 4; foe++) {
            for (int friend = 0; friend < 4; friend++) {
                for (int turned = 0; turned < 2 && foe != friend; turned++) {
                    NutmegSeats x = Check.told(hall, FIVE, "foe t " + (char) ('p' + foe) + " ;");
                    x.lay(foe, turned == 0 ? 0 : 2);
                    x.lay(friend, turned == 0 ? 2 : 0);
                    is("t's, " + foe + "'s beside b", x.guards(4), 8 + 16);
                    is("of no FOE's", x.guards(friend), 2 + 8 + 16);
                }
            }
        }
        NutmegSeats y = Check.told(hall, FIVE, "foe t p ;");
        y.lay(0, 1);
        is("beside it", y.guards(4), 16);
        is("the own one", y.guards(0), 1 + 4 + 8 + 16);
    }

    private static void guardsFoes() {
        says("GUARDS: FREE ones, NEAR to no FOE of a PERSON who sits");
        String hall = "seat a row 0 at 0 ; seat b row 0 at 1 ; seat c row 0 at 2 ; seat d row 1 at 1 ; seat e row 3 at 3 ;";
        for (int foe = 0; foe < 4; foe++) {
            for (int friend = 0; friend < 4; friend++) {
                for (int turned = 0; turned < 2 && foe != friend; turned++) {
                    NutmegSeats x = Check.told(hall, FIVE, "foe t " + (char) ('p' + foe) + " ;");
                    x.sit(foe, turned == 0 ? 0 : 2);
                    x.sit(friend, turned == 0 ? 2 : 0);
                    is("t's, " + foe + " beside b", x.guards(4), 8 + 16);
                    x.rise(foe);
                    is("t's, " + foe + " stands", x.guards(4), (turned == 0 ? 1 : 4) + 2 + 8 + 16);
                }
            }
        }
        is("no FOES", Check.told(APART, FIVE).guards(0), 127);
    }

    private static void chanceHours() {
        says("CHANCE: in each of so many (1 to 6) HOURS there is a draught by odds of ten");
        NutmegSeats x = Check.told(ONE, "person p lady nutmegs 1 ; lasts 9 ;");
        x.lay(0, 0);
        // 18 left: gone behind six hours by six draughts alone.
        is("six of six, by one of ten", x.chance(0, 6, 1), 1);
        is("six of six, by nine of ten", x.chance(0, 6, 9), 531441);
        is("five hours", x.chance(0, 5, 9), 0);
        is("0 hours", x.chance(0, 0, 9), -1);
        is("7 hours", x.chance(0, 7, 9), -1);
        NutmegSeats y = Check.told(ONE, PLAIN, "lasts 3 ;");
        y.lay(0, 0);
        // A draught takes all three at once; without one they wear away in three hours.
        is("one hour", y.chance(0, 1, 1), 100000);
        is("two hours", y.chance(0, 2, 1), 190000);
        is("three hours", y.chance(0, 3, 1), 1000000);
        NutmegSeats z = Check.told(ONE, "person p plain nutmegs 1 ; lasts 7 ; wears 0 ;");
        z.lay(0, 0);
        // Four draughts of 2 take 7: four of four; four or more of five; of six.
        is("three", z.chance(0, 3, 5), 0);
        is("four", z.chance(0, 4, 5), 62500);
        is("five", z.chance(0, 5, 5), 187500);
        is("six", z.chance(0, 6, 5), 343750);
    }

    private static void chanceOdds() {
        says("CHANCE: by odds (0 to 10)");
        NutmegSeats x = Check.told(ONE, "person p plain nutmegs 1 ; lasts 2 ; wears 0 ;");
        x.lay(0, 0);
        for (int odds = 0; odds <= 10; odds++) {
            is("odds " + odds, x.chance(0, 1, odds), 100000 * odds);
        }
        is("odds -1", x.chance(0, 1, -1), -1);
        is("odds 11", x.chance(0, 1, 11), -1);
    }

    private static void chanceTogether() {
        says("CHANCE: 2 less is left by it, taken together with what it wears in that HOUR");
        NutmegSeats x = Check.told(ONE, "person p plain nutmegs 1 ; lasts 3 ; wears 9 * ( fresh = 1 ) ;");
        x.lay(0, 0);
        is("not 2 first", x.chance(0, 1, 10), 0);
        is("in the second hour", x.chance(0, 2, 10), 1000000);
        NutmegSeats y = Check.told(ONE, "person p plain nutmegs 1 ; lasts 11 ; wears 99 ;");
        y.lay(0, 0);
        is("9 and 2", y.chance(0, 1, 10), 1000000);
        NutmegSeats z = Check.told(ONE, "person p plain nutmegs 1 ; lasts 12 ; wears 99 ;");
        z.lay(0, 0);
        is("not 10 and 2", z.chance(0, 1, 10), 0);
        NutmegSeats w = Check.told(ROW_OF_SEVEN, "person p plain nutmegs 7 ; lasts 3 ; wears company ;");
        w.lay(0, 0);
        w.lay(0, 1);
        is("one draught for both: both or none", w.chance(0, 1, 4), 400000);
        is("one draught for both: both or none", w.chance(1, 1, 4), 400000);
    }

    private static void chanceCaptains() {
        says("CHANCE: but a captain's");
        NutmegSeats x = Check.told(ROW_OF_SEVEN, FIVE, ALL_FOES, "lasts 1 ; wears 9 ;");
        x.lay(3, 0);
        x.sit(2, 1);
        for (int i = 0; i < 19; i++) {
            x.grate(2, 0);
        }
        is("4 left", x.seat(0, 3), 4);
        is("chance", x.chance(0, 6, 10), 0);
    }

    private static int restsOf(int lose, int sits, int bows, int what) {
        return (int) Math.max(-9, Calls.answer(new NutmegSeats(), "rests", new int[] {lose, sits, bows, what}));
    }

    private static void rests() {
        says("RESTS: by which neither would get more by the other (1 sits; the least first)");
        for (int lose = 0; lose <= 9; lose++) {
            for (int sits = 0; sits <= 9; sits++) {
                for (int bows = 0; bows <= 9; bows++) {
                    // Both bow: nobody gets more by sitting alone; both sit: nobody loses less by bowing.
                    boolean bothBow = sits <= 0;
                    boolean bothSit = bows <= -lose;
                    String chair = "chair " + lose + " " + sits + " " + bows + ", rest ";
                    int at = 0;
                    if (bothBow) {
                        is(chair + at, restsOf(lose, sits, bows, at++), 0);
                    }
                    is(chair + at, restsOf(lose, sits, bows, at++), 1);
                    is(chair + at, restsOf(lose, sits, bows, at++), 2);
                    if (bothSit) {
                        is(chair + at, restsOf(lose, sits, bows, at++), 3);
                    }
                    is(chair + "how many", restsOf(lose, sits, bows, -1), at);
                    is(chair + at + ": none such", restsOf(lose, sits, bows, at), -9);
                }
            }
        }
    }

    /** Plays a season by hand, by draws of its own: how many nutmegs are gone. */
    private static int played(NutmegSeats x, int seed, int hours) {
        BigInteger g = BigInteger.valueOf(seed);
        int[] below = {x.count(1), x.count(0), 5};
        int gone = 0;
        for (int hour = 0; hour < hours; hour++) {
            int[] drawn = new int[3];
            for (int i = 0; i < 3 && below[0] > 0 && below[1] > 0; i++) {
                g = g.multiply(BigInteger.valueOf(1103515245)).add(BigInteger.valueOf(12345)).mod(BigInteger.ONE.shiftLeft(31));
                drawn[i] = g.shiftRight(16).mod(BigInteger.valueOf(below[i])).intValue();
            }
            switch (below[0] > 0 && below[1] > 0 ? drawn[2] : 4) {
                case 0:
                    x.lay(drawn[0], drawn[1]);
                    break;
                case 1:
                    x.sit(drawn[0], drawn[1]);
                    break;
                case 2:
                    x.rise(drawn[0]);
                    break;
                case 3:
                    gone += x.grate(drawn[0], drawn[1]) == 0 ? 1 : 0;
                    break;
                default:
            }
            gone += Integer.bitCount(x.hour());
        }
        return gone;
    }

    private static void season(String[] hall, int seed, int hours) {
        NutmegSeats ahead = Check.told(hall);
        NutmegSeats byHand = Check.told(hall);
        String call = "seasons(" + seed + ", " + hours + ", ";
        is(call + "0)", ahead.seasons(seed, hours, 0), played(byHand, seed, hours));
        is(call + "1)", ahead.seasons(seed, hours, 1), byHand.count(6));
        is(call + "2)", ahead.seasons(seed, hours, 2), byHand.count(7) + Integer.bitCount(byHand.count(5)));
    }

    private static void seasonsByHand() {
        says("a DRAW below m: g becomes (g * 1103515245 + 12345) modulo 2147483648; it is g / 65536, cut, modulo m");
        String[][] halls = {
            {"seat a row 0 at 0 ; seat b row 0 at 1 ;", FIVE, ALL_FOES, "lasts 3 ;"},
            {ROW_OF_SEVEN, "person p plain nutmegs 9 ; person q lady nutmegs 9 ; person r rasp nutmegs 9 ;",
                "foe p q ; foe q r ;"},
            {"seat a row 0 at 0 ; seat b row 0 at 1 ; seat c row 0 at 2 ;",
                "person p plain nutmegs 9 ; person q rasp nutmegs 9 ; foe p q ; lasts 30 ;"},
            {ONE, PLAIN}};
        for (String[] hall : halls) {
            for (int seed : new int[] {0, 1, 2, 77, 4711, 9998, 9999}) {
                for (int hours : new int[] {1, 2, 3, 20, 60, 99}) {
                    season(hall, seed, hours);
                }
            }
        }
    }

    private static void seasonsHours() {
        says("SEASONS by a SEED of so many HOURS (1 to 99), from now on (all is as ahead then)");
        NutmegSeats x = Check.told(ONE, "person p captain nutmegs 1 ;");
        is("0", x.seasons(1, 0, 0), -1);
        is("1", x.seasons(1, 1, 2), 1);
        is("99", x.seasons(1, 99, 2), 1);
        is("100", x.seasons(1, 100, 2), -1);
        is("-1", x.seasons(1, -1, 2), -1);
        NutmegSeats y = Check.told(ROW_OF_SEVEN, PLAIN, "lasts 20 ; wears date ;");
        for (int seat = 0; seat < 7; seat++) {
            y.lay(0, seat);
        }
        for (int i = 0; i < 5; i++) {
            y.hour();
        }
        // By the dates 0 to 4 ten are gone of each twenty; 5 is the next, and then 6.
        String ahead = Check.state(y);
        is("none behind 1", y.seasons(3, 1, 0), 0);
        Check.is("all is as ahead then", Check.state(y).equals(ahead), true);
        Check.is("gone behind 2, but for what a hand took", y.seasons(3, 2, 0) >= 5, true);
        is("gone, or not", y.seasons(3, 2, 0) + y.seasons(3, 2, 2), 9);
        Check.is("all is as ahead then", Check.state(y).equals(ahead), true);
    }

    private static void seasonsSeeds() {
        says("SEASONS by a SEED (0 to 9999), what 0 .. 2");
        NutmegSeats x = Check.told(ONE, "person p captain nutmegs 1 ;");
        for (int seed : new int[] {-1, 10000, Integer.MIN_VALUE, Integer.MAX_VALUE}) {
            is("SEED " + seed, x.seasons(seed, 1, 2), -1);
        }
        is("SEED 0", x.seasons(0, 1, 2), 1);
        is("SEED 9999", x.seasons(9999, 1, 2), 1);
        is("what 3", x.seasons(1, 1, 3), -1);
        is("what -1", x.seasons(1, 1, -1), -1);
    }

    private static void seasonsWithoutAny() {
        says("SEASONS: if there are PERSONS and SEATS; then, also without these, the HOUR");
        for (String hall : new String[] {"", APART, FIVE}) {
            NutmegSeats x = Check.told(hall);
            is("gone", x.seasons(1, 99, 0), 0);
            is("who sits", x.seasons(1, 99, 1), 0);
            is("NUTMEGS", x.seasons(1, 99, 2), hall.equals(FIVE) ? 8 : 0);
            is("the hour is as ahead", x.count(3), 0);
        }
    }

    private static void marks() {
        says("MARKS 0 to 3");
        NutmegSeats x = Check.told(APART, FIVE);
        for (int mark = 0; mark < 4; mark++) {
            Check.is("nothing is on " + mark, x.mark(mark, true), false);
            Check.is("laid " + mark, x.mark(mark, false), true);
            x.hour();
        }
        for (int mark = 3; mark >= 0; mark--) {
            Check.is("back to " + mark, x.mark(mark, true), true);
            is("the hour", x.count(3), mark);
        }
        Check.is("back to the last again", x.mark(3, true), true);
        is("the hour", x.count(3), 3);
        Check.is("laid anew", x.mark(0, false), true);
        x.mark(1, true);
        x.mark(0, true);
        is("the newer one", x.count(3), 3);
        Check.is("-1", x.mark(-1, false), false);
        Check.is("4", x.mark(4, false), false);
        Check.is("back to -1", x.mark(-1, true), false);
        Check.is("back to 4", x.mark(4, true), false);
    }

    private static void marksHold() {
        says("MARKS hold all that UNDO brings back, what is SEEN (nothing can be undone when one is gone back to)");
        NutmegSeats x = Check.told(APART, FIVE, "lasts 9 ;");
        Check.evening(x, "hour ; hour ;");
        x.lay(0, 0);
        x.sit(1, 6);
        x.hour();
        x.see(3, 9, true);
        x.mark(2, false);
        String held = Check.state(x);
        is("what can be undone stays", x.count(10), 3);
        x.sit(0, 0);
        x.rise(1);
        x.hour();
        x.see(3, 1, true);
        x.see(3, 2, false);
        is("WHO", x.who(), 0);
        Check.is("back", x.mark(2, true), true);
        Check.is("nothing can be undone", x.undo(), false);
        is("WHO", x.who(), 10);
        x.mark(3, true);
        // All but what can be undone is as it was.
        NutmegSeats y = Check.told(APART, FIVE, "lasts 9 ;");
        Check.evening(y, "hour ; hour ;");
        y.lay(0, 0);
        y.sit(1, 6);
        y.hour();
        y.see(3, 9, true);
        Check.is("as it was", Check.state(y).equals(held), true);
        y.mark(0, false);
        y.mark(0, true);
        Check.is("as it was, but for what can be undone", Check.state(x).equals(Check.state(y)), true);
        Check.evening(x, "hour ;");
        x.mark(2, true);
        is("the EVENING is no part of it", x.count(8), 1);
        x.hour();
        Check.is("from then on it can be undone", x.undo(), true);
        is("the hour", x.count(3), 1);
        Check.is("no further", x.undo(), false);
    }
}
