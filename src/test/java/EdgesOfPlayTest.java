/** Terms 2: each sentence that names a boundary, by a test of its own. */
public final class EdgesOfPlayTest {
    // In a row: a, b, c, d; e is near to none of them.
    private static final String SEATS = "seat a row 0 at 0 ; seat b row 0 at 1 ; seat c row 0 at 2 ; seat d row 0 at 3 ;"
        + " seat e row 2 at 9 ;";
    private static final String PERSONS = "person pp plain nutmegs 3 ; person ll lady nutmegs 3 ;"
        + " person rr rasp nutmegs 3 ; person cc captain nutmegs 3 ; person oo plain nutmegs 0 ;";
    private static final String FOES = "foe pp ll ; foe pp rr ; foe pp cc ; foe ll rr ; foe ll cc ; foe rr cc ;";
    private static final int[] BAD = {Integer.MIN_VALUE, -32, -2, -1, 5, 6, 7, 31, 32, 37, 64, Integer.MAX_VALUE};

    private EdgesOfPlayTest() {
    }

    public static void main(String[] args) {
        nearInOneRow();
        nearInRowsOneApart();
        notNear();
        lives();
        halfUp();
        captains();
        free();
        layFromThePocket();
        laySittingOrNot();
        layOnFree();
        layWhole();
        sitWhoStands();
        sitWhereNobodySits();
        sitOnAnothers();
        sitOnTheOwn();
        rise();
        grateByKinds();
        grateToNothing();
        grateCaptains();
        grateWho();
        hourTakes();
        hourClamps();
        hourSparesCaptains();
        hourByHowItWasAhead();
        hourIsNext();
        undoAllOfThese();
        undoSixteen();
        undoNotTheRefused();
        undoAgainAndOn();
        judgedFromTheBegin();
        judgedCantBe();
        judgedGone();
        judgedSit();
        Check.end();
    }

    private static void says(String words) {
        Check.says("Terms 2: " + words);
    }

    private static void is(String call, long got, long want) {
        Check.is(call, got, want);
    }

    private static NutmegSeats lasting(int lasts) {
        return Check.told(SEATS, PERSONS, FOES, "lasts " + lasts + " ;");
    }

    private static NutmegSeats wearing(int lasts, String e) {
        return Check.told(SEATS, PERSONS, FOES, "lasts " + lasts + " ; wears " + e + " ;");
    }

    private static int near(String one, String other) {
        return Check.told("seat a " + one + " ; seat b " + other + " ;").seat(0, 5);
    }

    private static void nearInOneRow() {
        says("two SEATS are NEAR: in one row at places one apart");
        is("0 and 1", near("row 0 at 0", "row 0 at 1"), 2);
        is("1 and 0", near("row 0 at 1", "row 0 at 0"), 2);
        is("8 and 9", near("row 4 at 8", "row 4 at 9"), 2);
        is("9 and 8", near("row 4 at 9", "row 4 at 8"), 2);
        is("0 and 2", near("row 0 at 0", "row 0 at 2"), 0);
        is("0 and 9", near("row 0 at 0", "row 0 at 9"), 0);
    }

    private static void nearInRowsOneApart() {
        says("or in rows one apart at the same place");
        is("0 and 1", near("row 0 at 0", "row 1 at 0"), 2);
        is("4 and 3", near("row 4 at 9", "row 3 at 9"), 2);
        is("0 and 2", near("row 0 at 5", "row 2 at 5"), 0);
        is("0 and 4", near("row 0 at 5", "row 4 at 5"), 0);
    }

    private static void notNear() {
        says("two SEATS are NEAR: (no others are)");
        is("askew", near("row 0 at 0", "row 1 at 1"), 0);
        is("askew", near("row 1 at 1", "row 0 at 2"), 0);
        is("the last and the first of the next row", near("row 0 at 9", "row 1 at 0"), 0);
        NutmegSeats x = Check.told(SEATS);
        int[] near = {2, 5, 10, 4, 0};
        for (int i = 0; i < 5; i++) {
            is("seat(" + i + ", 5)", x.seat(i, 5), near[i]);
        }
    }

    private static void lives() {
        says("LIFE: what lasts tells; of a lady twice that");
        for (int lasts = 1; lasts <= 30; lasts++) {
            NutmegSeats x = lasting(lasts);
            is("a plain one's by " + lasts, x.lay(0, 0), lasts);
            is("a lady's by " + lasts, x.lay(1, 1), 2 * lasts);
        }
    }

    private static void halfUp() {
        says("LIFE: of a rasp half of it, up");
        int[][] half = {{1, 1}, {2, 1}, {3, 2}, {4, 2}, {5, 3}, {28, 14}, {29, 15}, {30, 15}};
        for (int[] h : half) {
            is("a rasp's by " + h[0], lasting(h[0]).lay(2, 0), h[1]);
        }
    }

    private static void captains() {
        says("LIFE: of a captain 99");
        is("by 1", lasting(1).lay(3, 0), 99);
        is("by 30", lasting(30).lay(3, 4), 99);
    }

    private static void free() {
        says("a SEAT is FREE if nobody sits on it and no NUTMEG lies there");
        NutmegSeats x = lasting(6);
        is("all", x.count(4), 31);
        x.lay(0, 0);
        is("a NUTMEG lies there", x.count(4), 30);
        x.sit(1, 4);
        is("somebody sits on it", x.count(4), 14);
        x.sit(0, 0);
        is("somebody, no NUTMEG", x.count(4), 14);
        x.rise(0);
        x.rise(1);
        is("all again", x.count(4), 31);
    }

    private static void layFromThePocket() {
        says("LAY: a PERSON who has one in the pocket");
        NutmegSeats x = lasting(6);
        for (int i = 0; i < 3; i++) {
            is("number " + i, x.lay(0, i), 6);
            is("in the pocket", x.person(0, 1), 2 - i);
        }
        is("the pocket is empty", x.lay(0, 3), -1);
        is("it stays empty", x.person(0, 1), 0);
        is("it stays FREE", x.seat(3, 2), -1);
        is("who has none ever", x.lay(4, 3), -1);
    }

    private static void laySittingOrNot() {
        says("LAY: sitting or not");
        NutmegSeats x = lasting(6);
        is("not", x.lay(0, 0), 6);
        x.sit(0, 1);
        is("sitting", x.lay(0, 2), 6);
    }

    private static void layOnFree() {
        says("LAY: on a FREE SEAT");
        NutmegSeats x = lasting(6);
        x.lay(0, 0);
        x.sit(1, 1);
        is("where the own one lies", x.lay(0, 0), -1);
        is("where another one's lies", x.lay(2, 0), -1);
        is("where another one sits", x.lay(0, 1), -1);
        is("where they sit themselves", x.lay(1, 1), -1);
        is("pockets", x.count(7), 11);
        for (int bad : BAD) {
            is("lay(0, " + bad + ")", x.lay(0, bad), -1);
            is("lay(" + bad + ", 2)", x.lay(bad, 2), -1);
        }
    }

    private static void layWhole() {
        says("LAY: as much is left of it as its LIFE");
        NutmegSeats x = lasting(6);
        x.lay(0, 0);
        x.hour();
        x.hour();
        x.sit(0, 0);
        x.rise(0);
        is("one that lay already", x.lay(0, 0), 6);
        is("seat(0, 3)", x.seat(0, 3), 6);
    }

    private static void sitWhoStands() {
        says("SIT: a PERSON who stands");
        NutmegSeats x = lasting(6);
        is("stands", x.sit(4, 0), 0);
        is("sits", x.sit(4, 1), -1);
        is("sits there", x.sit(4, 0), -1);
        is("where", x.person(4, 2), 0);
        is("nobody", x.seat(1, 4), -1);
    }

    private static void sitWhereNobodySits() {
        says("SIT: on a SEAT on which nobody sits");
        NutmegSeats x = lasting(6);
        x.sit(0, 0);
        is("somebody sits", x.sit(1, 0), -1);
        is("she stands", x.person(1, 2), -1);
        x.rise(0);
        is("nobody sits", x.sit(1, 0), 3);
        for (int bad : BAD) {
            is("sit(0, " + bad + ")", x.sit(0, bad), -1);
            is("sit(" + bad + ", 2)", x.sit(bad, 2), -1);
        }
    }

    private static void sitOnAnothers() {
        says("SIT: and no NUTMEG of another one lies");
        NutmegSeats x = lasting(1);
        x.lay(0, 0);
        is("another one's", x.sit(4, 0), -1);
        is("it lies", x.seat(0, 3), 1);
        x.hour();
        is("it is gone", x.sit(4, 0), 0);
    }

    private static void sitOnTheOwn() {
        says("SIT: one of their own is in the pocket again then");
        NutmegSeats x = lasting(6);
        x.lay(0, 0);
        x.lay(0, 1);
        is("the own one", x.sit(0, 0), 2);
        is("whose", x.seat(0, 2), -1);
        is("left", x.seat(0, 3), 0);
        is("the other one lies", x.seat(1, 2), 0);
        NutmegSeats y = Check.told("seat a row 0 at 0 ; person p plain nutmegs 9 ;");
        y.lay(0, 0);
        is("nine again", y.sit(0, 0), 9);
    }

    private static void rise() {
        says("RISE: who sits stands");
        NutmegSeats x = lasting(6);
        is("who stands", x.rise(0), -1);
        x.sit(0, 4);
        is("who sits", x.rise(0), 4);
        is("stands", x.person(0, 2), -1);
        is("nobody sits", x.seat(4, 4), -1);
        is("again", x.rise(0), -1);
        for (int bad : BAD) {
            is("rise(" + bad + ")", x.rise(bad), -1);
        }
    }

    /** What is left of a nutmeg of theirs, so much of which was left, when a foe has grated it. */
    private static int grated(int by, int left) {
        // A lady's lasts an even number of hours: for an odd one an hour takes 1 of it.
        int whose = by == 0 ? 1 : 0;
        int lasts = whose == 1 ? (left + 1) / 2 : left;
        NutmegSeats x = wearing(lasts, whose == 1 && left % 2 == 1 ? "1" : "0");
        x.lay(whose, 0);
        if (whose == 1 && left % 2 == 1) {
            x.hour();
        }
        is("left ahead", x.seat(0, 3), left);
        x.sit(by, 1);
        int answer = x.grate(by, 0);
        is("seat(0, 3)", x.seat(0, 3), answer);
        is("whose", x.seat(0, 2), answer == 0 ? -1 : whose);
        return answer;
    }

    private static void grateByKinds() {
        says("GRATE: 3 less is left of it (by a rasp 5, by a lady 1)");
        is("by a plain one", grated(0, 10), 7);
        is("by a lady", grated(1, 10), 9);
        is("by a rasp", grated(2, 10), 5);
        is("by a captain", grated(3, 10), 7);
        is("30, by a rasp", grated(2, 30), 25);
    }

    private static void grateToNothing() {
        says("GRATE: where 0 or less is left it is gone");
        int[] by = {3, 1, 5, 3};
        for (int who = 0; who < 4; who++) {
            for (int left = 1; left <= 7; left++) {
                is(left + " by " + who, grated(who, left), Math.max(0, left - by[who]));
            }
        }
        NutmegSeats x = lasting(1);
        x.lay(0, 0);
        x.sit(2, 1);
        x.grate(2, 0);
        is("gone: in no pocket", x.person(0, 1), 2);
        is("gone: nothing to grate", x.grate(2, 0), -1);
        is("gone: FREE", x.count(4), 29);
        is("gone: lies nowhere", x.person(0, 3), 0);
    }

    private static void grateCaptains() {
        says("GRATE: of a captain's, too");
        int[] by = {3, 1, 5};
        for (int who = 0; who < 3; who++) {
            NutmegSeats x = lasting(6);
            x.lay(3, 1);
            x.sit(who, 2);
            int left = 99;
            for (int times = 0; left > 0; times++) {
                left = Math.max(0, left - by[who]);
                is("time " + times + " by " + who, x.grate(who, 1), left);
            }
            is("gone", x.seat(1, 2), -1);
        }
    }

    private static void grateWho() {
        says("GRATE: a PERSON who sits on a SEAT NEAR one where the NUTMEG of a FOE lies");
        NutmegSeats x = lasting(6);
        x.lay(0, 0);
        x.lay(1, 3);
        is("who stands", x.grate(2, 0), -1);
        x.sit(2, 1);
        is("NEAR", x.grate(2, 0), 1);
        is("two apart", x.grate(2, 3), -1);
        is("nothing lies", x.grate(2, 2), -1);
        is("the own SEAT", x.grate(2, 1), -1);
        x.sit(4, 2);
        is("of no FOE", x.grate(4, 3), -1);
        x.rise(2);
        x.sit(0, 1);
        is("the own one", x.grate(0, 0), -1);
        is("left", x.seat(0, 3), 1);
        is("what can be undone", x.count(10), 7);
        for (int bad : BAD) {
            is("grate(0, " + bad + ")", x.grate(0, bad), -1);
            is("grate(" + bad + ", 0)", x.grate(bad, 0), -1);
        }
    }

    private static void hourTakes() {
        says("HOUR: so much less is left; where 0 or less is left it is gone");
        for (int e = 0; e <= 9; e++) {
            for (int lasts = 1; lasts <= 11; lasts++) {
                NutmegSeats x = wearing(lasts, "" + e);
                x.lay(0, 0);
                is(lasts + " less " + e, x.hour(), lasts <= e ? 1 : 0);
                is("left", x.seat(0, 3), Math.max(0, lasts - e));
                is("whose", x.seat(0, 2), lasts <= e ? -1 : 0);
                is("in the pocket", x.person(0, 1), 2);
            }
        }
    }

    private static void hourClamps() {
        says("HOUR: as the E of wears tells (0 to 9)");
        String[] es = {"9", "10", "11", "9999", "0", "0 - 1", "0 - 9999", "9999 * 9999", "0 - 9999 * 9999"};
        int[] takes = {9, 9, 9, 9, 0, 0, 0, 9, 0};
        for (int i = 0; i < es.length; i++) {
            NutmegSeats x = wearing(10, es[i]);
            x.lay(0, 0);
            is("by " + es[i], x.hour(), 0);
            is("left by " + es[i], x.seat(0, 3), 10 - takes[i]);
        }
    }

    private static void hourSparesCaptains() {
        says("HOUR: but for a captain's");
        NutmegSeats x = wearing(1, "9");
        x.lay(3, 0);
        for (int i = 0; i < 120; i++) {
            is("hour " + i, x.hour(), 0);
        }
        is("left", x.seat(0, 3), 99);
        // A captain's keeps others company all the same.
        NutmegSeats y = wearing(6, "company");
        y.lay(3, 0);
        y.lay(0, 1);
        y.hour();
        is("beside a captain's", y.seat(1, 3), 5);
        is("a captain's", y.seat(0, 3), 99);
    }

    private static void hourByHowItWasAhead() {
        says("HOUR: all by how it was ahead");
        NutmegSeats x = wearing(1, "company");
        x.lay(0, 0);
        x.lay(0, 1);
        x.lay(0, 2);
        is("all three", x.hour(), 7);
        NutmegSeats y = wearing(4, "company * 2");
        y.lay(2, 0);
        y.lay(0, 1);
        y.lay(2, 2);
        is("the rasp's at both ends, and that between", y.hour(), 7);
    }

    private static void hourIsNext() {
        says("HOUR: the next hour is");
        NutmegSeats x = wearing(30, "date");
        is("hour 0", x.count(3), 0);
        x.lay(1, 0);
        int left = 60;
        for (int hour = 0; hour < 11; hour++) {
            x.hour();
            left -= Math.min(9, hour);
            is("left behind hour " + hour, x.seat(0, 3), left);
            is("count(3)", x.count(3), hour + 1);
        }
        NutmegSeats y = new NutmegSeats();
        is("with no HALL", y.hour(), 0);
        is("count(3)", y.count(3), 1);
    }

    private static void undoAllOfThese() {
        says("UNDO: all of these");
        NutmegSeats x = lasting(6);
        Check.is("nothing", x.undo(), false);
        x.lay(0, 0);
        Check.is("LAY", x.undo(), true);
        is("pocket, SEAT", x.person(0, 1) * 100 + x.count(4), 331);
        x.lay(0, 0);
        x.hour();
        Check.is("HOUR", x.undo(), true);
        is("left, the hour", x.seat(0, 3) * 10 + x.count(3), 60);
        x.sit(2, 1);
        x.grate(2, 0);
        Check.is("GRATE", x.undo(), true);
        is("left", x.seat(0, 3), 6);
        x.rise(2);
        Check.is("RISE", x.undo(), true);
        is("sits", x.person(2, 2) * 10 + x.seat(1, 4), 12);
        Check.is("SIT", x.undo(), true);
        is("stands", x.person(2, 2) * 10 + x.seat(1, 4), -11);
        x.sit(0, 0);
        Check.is("SIT on the own one", x.undo(), true);
        is("it lies again", x.seat(0, 3) * 10 + x.person(0, 1), 62);
        Check.is("LAY, the first one", x.undo(), true);
        Check.is("no more", x.undo(), false);
    }

    private static void undoSixteen() {
        says("UNDO: the last 16, one by one");
        for (int done : new int[] {1, 15, 16, 17, 31, 32, 33, 100}) {
            NutmegSeats x = lasting(6);
            for (int i = 0; i < done; i++) {
                x.hour();
            }
            int held = Math.min(16, done);
            is("count(10) behind " + done, x.count(10), held);
            for (int i = 1; i <= held; i++) {
                Check.is("undo() " + i + " of " + done, x.undo(), true);
                is("the hour", x.count(3), done - i);
                is("count(10)", x.count(10), held - i);
            }
            Check.is("one more", x.undo(), false);
            is("the hour stays", x.count(3), done - held);
        }
    }

    private static void undoNotTheRefused() {
        says("UNDO: all of these (what can't be is none of these)");
        NutmegSeats x = lasting(6);
        x.hour();
        x.lay(4, 0);
        x.lay(0, 5);
        x.sit(5, 0);
        x.rise(0);
        x.grate(0, 0);
        is("count(10)", x.count(10), 1);
        Check.is("undo()", x.undo(), true);
        is("the hour", x.count(3), 0);
        Check.is("undo()", x.undo(), false);
        is("an undoing is not undone", x.count(10), 0);
    }

    private static void undoAgainAndOn() {
        says("UNDO: one by one");
        NutmegSeats x = lasting(30);
        for (int i = 0; i < 20; i++) {
            x.hour();
        }
        for (int i = 0; i < 10; i++) {
            x.undo();
        }
        is("the hour", x.count(3), 10);
        x.lay(0, 0);
        x.lay(0, 1);
        for (int i = 0; i < 12; i++) {
            x.hour();
        }
        is("count(10)", x.count(10), 16);
        for (int i = 0; i < 12; i++) {
            x.undo();
        }
        is("both lie", x.count(5), 3);
        x.undo();
        is("one lies", x.count(5), 1);
        x.undo();
        is("none lies", x.count(5), 0);
        x.undo();
        x.undo();
        is("the hour", x.count(3), 8);
        Check.is("no more", x.undo(), false);
    }

    private static NutmegSeats judging(String evening) {
        NutmegSeats x = lasting(2);
        is("evening() of " + evening, Check.evening(x, evening), 0);
        return x;
    }

    private static void judgedFromTheBegin() {
        says("JUDGED: the EVENING from the begin");
        NutmegSeats x = wearing(4, "date");
        x.sit(0, 0);
        x.lay(1, 1);
        for (int i = 0; i < 9; i++) {
            x.hour();
        }
        Check.evening(x, "sit pp a ; lay ll b ; lay pp c ; hour ; hour ; hour ; hour ; hour ; hour ;");
        is("all can be", x.judged(0), -1);
        is("4 - 0 - 1 - 2 - 3: by the fourth hour", x.judged(1), 6);
        is("one sits", x.judged(2), 1);
        is("all stays: the hour", x.count(3), 9);
        is("all stays: who sits", x.count(6), 1);
        is("all stays: what can be undone", x.count(10), 11);
        NutmegSeats y = new NutmegSeats();
        is("no EVENING: 0", y.judged(0), -1);
        is("no EVENING: 1", y.judged(1), -1);
        is("no EVENING: 2", y.judged(2), 0);
        Check.evening(y, "hour ;");
        is("no HALL: 0", y.judged(0), -1);
        is("no HALL: 2", y.judged(2), 0);
    }

    private static void judgedCantBe() {
        says("JUDGED: the first line (from 0) that can't be (hour always can; lines that can't be are left out)");
        is("the very first", judging("rise pp ;").judged(0), 0);
        is("the last", judging("hour ; ".repeat(39) + "rise pp ;").judged(0), 39);
        is("hours only", judging("hour ; ".repeat(40)).judged(0), -1);
        NutmegSeats x = judging("lay oo a ; sit pp a ; sit pp b ; sit ll b ; lay pp b ; grate oo a ; rise rr ;");
        is("the first of many", x.judged(0), 0);
        is("lines left out", x.judged(2), 2);
        is("lay", judging("lay pp a ; lay pp a ;").judged(0), 1);
        is("sit", judging("lay pp a ; sit pp a ; sit pp b ;").judged(0), 2);
        is("grate", judging("lay pp a ; sit ll c ; hour ; grate ll a ;").judged(0), 3);
    }

    private static void judgedGone() {
        says("JUDGED: the first line by which a NUTMEG is gone");
        is("by an hour", judging("lay pp a ; hour ; hour ;").judged(1), 2);
        is("by GRATING", judging("lay pp a ; sit rr b ; grate rr a ; hour ;").judged(1), 2);
        is("a rasp's, ahead of it", judging("lay rr a ; lay pp b ; hour ; hour ;").judged(1), 2);
        is("none", judging("lay pp a ; hour ; sit pp a ; hour ; hour ;").judged(1), -1);
        is("GRATED, not gone", judging("lay pp a ; sit ll b ; grate ll a ;").judged(1), -1);
        is("the last of 40", judging("lay pp a ; " + "sit ll b ; rise ll ; ".repeat(18) + "rise ll ; hour ; hour ;").judged(1), 39);
    }

    private static void judgedSit() {
        says("JUDGED: how many sit at last");
        is("none", judging("sit pp a ; rise pp ;").judged(2), 0);
        is("five", judging("sit pp a ; sit ll b ; sit rr c ; sit cc d ; sit oo e ;").judged(2), 5);
        is("what 3", judging("hour ;").judged(3), -2);
        is("what -1", judging("hour ;").judged(-1), -2);
        is("what MAX", judging("hour ;").judged(Integer.MAX_VALUE), -2);
    }
}
