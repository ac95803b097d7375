/** The sentences of the document on what is foretold, as far as they name a boundary. */
final class ForetoldBoundaryTest {
    private static final int NONE = -1, UNKNOWN = -2, OUTSIDE = -3, FULL = -5;
    private static final int MIN = Integer.MIN_VALUE, MAX = Integer.MAX_VALUE;
    private static final int[] NO_TIMES = {MIN, -99, -1, 100, 101, MAX};
    private static final int[] NO_HOUSES_OF_EIGHT = {MIN, -2, -1, 8, 9, MAX};
    private static final int[] NO_FLAGS = {MIN, -1, 2, 3, MAX};
    /** 0 looks at 1, 1 at 2, .. */
    private static final String ROW = "street 8;across 0 1;across 1 2;across 2 3;across 3 4;across 4 5;across 5 6;"
            + "across 6 7";
    private static final String ALONE = "street 8;across 0 0;across 1 1;across 2 2;across 3 3;across 4 4;across 5 5;"
            + "across 6 6;across 7 7";
    private static final String SIX_PLAIN = "plain 0 0 0 0;plain 0 0 0 0;plain 0 0 0 0;plain 0 0 0 0;plain 0 0 0 0;"
            + "plain 0 0 0 0";

    public static void main(String[] args) {
        laterTimes();
        laterToday();
        againAtOnce();
        againAtMost();
        againFewest();
        againWhat();
        wayOfNoSteps();
        wayAtGaps();
        wayOfMostSteps();
        firstAndLastToo();
        lackMost();
        lackOnce();
        lackByKinds();
        lackNoWay();
        wishesAtMost();
        wishTimes();
        wishesDropped();
        waysLeastAndMost();
        waysOfEightWishes();
        waysFromWhenAsked();
        sumDays();
        sumMost();
        sumOfOwners();
        councilBounds();
        councilLeastSet();
        councilNone();
        councilInPlace();
        idleTimes();
        idleOfNothing();
        oddsTimes();
        oddsTenths();
        oddsOfNothing();
        pairsOfEachTown();
        pairsAlone();
        pairsMost();
        pairsLeast();
        townRounds();
        townGaps();
        Check.end();
    }

    private static void due(String call, long got, long want) {
        Check.due(call, got, want);
    }

    private static MirrorHour ring() {
        return Check.told(ROW, "across 7 0;" + SIX_PLAIN);
    }

    // ---- later, again

    private static void laterTimes() {
        Check.sentence("what a HOUSE DOES in t DAYS (0 .. 99)");
        MirrorHour x = ring();
        for (int house = 0; house < 6; house++) {
            x.set(house, house);
        }
        int[] does = {0, 1, 2, 3, 4, 5, NONE, NONE};
        for (int house = 0; house < 8; house++) {
            for (int t = 0; t <= 99; t++) {
                if (t < 17 || t > 91) {
                    due("later(" + house + ", " + t + ")", x.later(house, t), does[(house + t) % 8]);
                }
            }
        }
        for (int wrong : NO_TIMES) {
            due("later(0, " + wrong + ")", x.later(0, wrong), OUTSIDE);
            due("unknown ahead of outside", x.later(8, wrong), UNKNOWN);
        }
        for (int wrong : NO_HOUSES_OF_EIGHT) {
            due("later(" + wrong + ", 0)", x.later(wrong, 0), UNKNOWN);
        }
        due("nothing changes", x.house(7, 2) * 100 + x.count(2), -100);
    }

    private static void laterToday() {
        Check.sentence("what a HOUSE DOES in t DAYS: today, though it can not now");
        MirrorHour x = Check.told("street 2;across 0 0;across 1 0;tools 0 1;tools 1 1;"
                + "tooled 1 0 0 0;does 0 0;tools 0 0");
        due("today", x.later(0, 0), 0);
        due("then not", x.later(0, 1), NONE);
        due("who mirrors it can", x.later(1, 1), 0);
        due("then there is nothing", x.later(1, 2), NONE);
    }

    private static void again(String what, MirrorHour x, int ahead, int later) {
        due(what + ": days ahead", x.again(0), ahead);
        due(what + ": days later", x.again(1), later);
    }

    private static void againAtOnce() {
        Check.sentence("AGAIN: how many DAYS ahead of that: none");
        again("nothing is done", new MirrorHour(), 0, 1);
        MirrorHour x = Check.told(ALONE, SIX_PLAIN);
        again("nothing is done by eight", x, 0, 1);
        for (int house = 0; house < 8; house++) {
            x.set(house, house % 6);
        }
        again("each does the same for ever", x, 0, 1);
        x = ring();
        x.set(7, 5);
        again("a round of 8", x, 0, 8);
    }

    private static void againAtMost() {
        Check.sentence("AGAIN: the fewest DAYS .. some DAYS later: the most");
        MirrorHour x = Check.told(ROW, "plain 0 0 0 0;does 7 0");
        again("a row of 8", x, 8, 1);
        Check.tell(x, "across 7 7");
        again("a row of 7 to a round of 1", x, 7, 1);
        Check.tell(x, "across 7 6;idle 6");
        again("a row of 6 to a round of 2", x, 6, 2);
        Check.tell(x, "across 7 5");
        again("a row of 5 to a round of 3", x, 5, 3);
        Check.tell(x, "across 7 4");
        again("a row of 4 to a round of 4", x, 4, 4);
        x = Check.told("street 8;across 0 1;across 1 2;across 2 0;across 3 4;across 4 5;across 5 6;"
                + "across 6 7;across 7 3",
                SIX_PLAIN + ";does 2 5;does 7 1");
        again("rounds of 3 and 5", x, 0, 15);
        x.set(0, 5);
        x.set(1, 5);
        again("a round of 3 that does one thing, and of 5", x, 0, 5);
        x = Check.told("street 8;across 0 1;across 1 2;across 2 0;across 3 4;across 4 3;across 5 6;across 6 7",
                "plain 0 0 0 0;does 0 0;does 3 0;does 7 0");
        again("rounds of 3 and 2, and a row of 3", x, 3, 6);
        x = Check.told("street 8;across 0 1;across 1 2;across 2 3;across 3 0;across 4 5;across 5 6;"
                + "across 6 4;across 7 0",
                "plain 0 0 0 0;does 0 0;does 4 0;does 7 0");
        again("rounds of 4 and 3, and one that looks on", x, 1, 12);
    }

    private static void againFewest() {
        Check.sentence("AGAIN: the fewest DAYS: all that is done (by all HOUSES)");
        MirrorHour x = ring();
        for (int house = 0; house < 8; house++) {
            x.set(house, 3);
        }
        again("all do the same", x, 0, 1);
        for (int house = 0; house < 8; house += 2) {
            x.set(house, 4);
        }
        again("in turn", x, 0, 2);
        for (int house = 0; house < 8; house++) {
            x.set(house, house % 4);
        }
        again("four in turn", x, 0, 4);
        x.set(7, NONE);
        again("one is unlike", x, 0, 8);
        x = Check.told("street 8;" + SIX_PLAIN + ";does 7 0");
        again("the last house alone, today alone", x, 1, 1);
        x = Check.told("street 3;across 1 2;across 2 2;" + SIX_PLAIN, "does 0 0;does 2 5");
        again("the first deed by 0 today, the last one by 1 then", x, 1, 1);
        x = Check.told("street 2;across 0 0;across 1 1;tools 0 1;tooled 1 0 0 0;does 0 0;tools 0 0");
        again("what it can not do again", x, 1, 1);
    }

    private static void againWhat() {
        Check.sentence("again: what 0, 1; OUTSIDE");
        MirrorHour x = ring();
        for (int wrong : NO_FLAGS) {
            due("again(" + wrong + ")", x.again(wrong), OUTSIDE);
        }
    }

    // ---- first, lack

    private static void wayOfNoSteps() {
        Check.sentence("THE WAY of a HOUSE by t DAYS: itself: by none");
        MirrorHour x = Check.told(ROW, "plain 15 7 0 0;tooled 1 0 0 0;tools 3 1");
        for (int house = 0; house < 8; house++) {
            due("first(" + house + ", 0, 0)", x.first(house, 0, 0), house);
            due("first(" + house + ", 1, 0)", x.first(house, 1, 0), house == 3 ? 3 : NONE);
            due("lack(" + house + ", 1, 0)", x.lack(house, 1, 0), house == 3 ? 0 : 1);
        }
    }

    private static void wayAtGaps() {
        Check.sentence("THE WAY .. t steps; none, if there is a GAP ahead of that");
        MirrorHour x = Check.told(ROW, "plain 0 0 0 0");
        for (int house = 0; house < 8; house++) {
            for (int t : new int[] {0, 1, 6 - house, 7 - house, 8 - house, 9 - house, 98, 99}) {
                if (t >= 0) {
                    due("first(" + house + ", 0, " + t + ")", x.first(house, 0, t), house + t < 8 ? house + t : NONE);
                    due("lack(" + house + ", 0, " + t + ")", x.lack(house, 0, t), house + t < 8 ? 0 : NONE);
                }
            }
        }
    }

    private static void wayOfMostSteps() {
        Check.sentence("a HOUSE shall DO a DEED in t DAYS (0 .. 99): FIRST");
        MirrorHour x = ring();
        for (int house = 0; house < 8; house++) {
            due("in 99 days", x.first(house, 5, 99), (house + 3) % 8);
            due("in 98 days", x.first(house, 0, 98), (house + 2) % 8);
        }
        for (int wrong : NO_TIMES) {
            due("first in " + wrong, x.first(0, 0, wrong), OUTSIDE);
            due("lack in " + wrong, x.lack(0, 0, wrong), OUTSIDE);
            due("no house ahead of no time", x.first(8, 0, wrong), UNKNOWN);
            due("no deed ahead of no time", x.first(0, 6, wrong), UNKNOWN);
            due("no house ahead of no time: lack", x.lack(-1, 0, wrong), UNKNOWN);
            due("no deed ahead of no time: lack", x.lack(0, -1, wrong), UNKNOWN);
        }
        for (int wrong : NO_HOUSES_OF_EIGHT) {
            due("first of " + wrong, x.first(wrong, 0, 0), UNKNOWN);
            due("lack of " + wrong, x.lack(wrong, 0, 0), UNKNOWN);
        }
        for (int wrong : new int[] {MIN, -2, NONE, 6, 7, MAX}) {
            due("first of deed " + wrong, x.first(0, wrong, 0), UNKNOWN);
            due("lack of deed " + wrong, x.lack(0, wrong, 0), UNKNOWN);
        }
    }

    private static void firstAndLastToo() {
        Check.sentence("the end of THE WAY by t DAYS, if all on it (first and last, too) CAN; none");
        for (int without = 0; without < 4; without++) {
            MirrorHour x = Check.told("street 4;across 0 1;across 1 2;across 2 3;tooled 8 0 0 0;craft 8 0 0 0;"
                    + "tools 0 8;tools 1 8;tools 2 8", "tools 3 8", "tools " + without + " 7");
            for (int house = 0; house < 4; house++) {
                for (int end = house; end < 4; end++) {
                    boolean lacks = house <= without && without <= end;
                    due("first(" + house + ", 0, " + (end - house) + ")", x.first(house, 0, end - house),
                            lacks ? NONE : end);
                    due("its craft", x.first(house, 1, end - house), lacks && without != 0 ? NONE : end);
                }
            }
        }
        MirrorHour x = Check.told("street 3;across 0 1;across 1 0;plain 0 0 0 0;plain 0 2 0 0;forbid 0;forbid 1");
        due("forbidden: its owner today", x.first(0, 0, 0), 0);
        due("forbidden: another", x.first(1, 0, 0), NONE);
        due("forbidden: another on the way", x.first(0, 0, 2), NONE);
        due("forbidden: its owner at a gap", x.first(2, 1, 0), 2);
    }

    private static void lackMost() {
        Check.sentence("LACK: how many TOOLS lack on THE WAY, all together");
        MirrorHour x = Check.told(ROW + ";across 7 0", "tooled 15 0 0 0;either 15 0 0 0;craft 15 0 0 0;plain 15 0 0 0",
                "tooled 0 0 0 0;either 0 0 0 0");
        for (int t : new int[] {0, 1, 6, 7, 8, 9, 98, 99}) {
            int houses = Math.min(t + 1, 8);
            due("tooled, " + t, x.lack(0, 0, t), 4 * houses);
            due("either, " + t, x.lack(0, 1, t), houses);
            due("craft, " + t, x.lack(0, 2, t), 4 * houses - 4);
            due("plain, " + t, x.lack(0, 3, t), 0);
            due("tooled by none, " + t, x.lack(0, 4, t), 0);
            due("either of none, " + t, x.lack(0, 5, t), 0);
        }
        Check.tell(x, "tools 0 15;tools 1 15;tools 2 15;tools 3 15;tools 4 15;tools 5 15;tools 6 15;tools 7 15");
        for (int deed = 0; deed < 6; deed++) {
            due("all have all", x.lack(0, deed, 99), 0);
        }
    }

    private static void lackOnce() {
        Check.sentence("(by HOUSES that come more than once once");
        MirrorHour x = Check.told("street 4;across 0 1;across 1 2;across 2 1;across 3 3;"
                + "tooled 15 0 0 0;tools 1 1;tools 2 3",
                "craft 12 1 0 0;either 12 1 0 0");
        int[] tooled = {4, 7, 9, 9, 9}, craft = {2, 2, 4, 4, 4}, either = {1, 2, 3, 3, 3};
        for (int t = 0; t < 5; t++) {
            due("tooled, " + t, x.lack(0, 0, t), tooled[t]);
            due("craft, " + t, x.lack(0, 1, t), craft[t]);
            due("either, " + t, x.lack(0, 2, t), either[t]);
        }
        due("itself again", x.lack(3, 0, 99), 4);
        due("itself", x.lack(3, 0, 0), 4);
    }

    private static void lackByKinds() {
        Check.sentence("PLAIN: none; EITHER: 1 of a HOUSE that has none of them; CRAFT: none of its "
                + "OWNER; FORBIDDEN or not");
        for (int text = 0; text < 2; text++) {
            for (int set = 0; set < 16; set++) {
                MirrorHour x = Check.told("street 2;plain 11 0 0 0;tooled 11 0 0 0;either 11 0 0 0;craft 11 0 0 0",
                        "tools 1 " + set + ";tools 0 " + set,
                        text == 0 ? "gap 0" : "forbid 0;forbid 1;forbid 2;forbid 3");
                int missing = Integer.bitCount(11 & ~set), none = (set & 11) == 0 ? 1 : 0;
                int[] due = {0, missing, none, missing};
                for (int deed = 0; deed < 4; deed++) {
                    due("lack(1, " + deed + ", 0) with " + set, x.lack(1, deed, 0), due[deed]);
                    due("of its owner with " + set, x.lack(0, deed, 0), deed == 3 ? 0 : due[deed]);
                }
            }
        }
    }

    private static void lackNoWay() {
        Check.sentence("LACK; NONE: there is no such WAY");
        MirrorHour x = Check.told("street 3;across 0 1;plain 0 0 0 0;tooled 15 0 0 0");
        due("to the gap", x.lack(0, 1, 1), 8);
        due("over the gap", x.lack(0, 1, 2), NONE);
        due("at the gap", x.lack(1, 1, 0), 4);
        due("over the gap at once", x.lack(1, 1, 1), NONE);
        due("over the gap, plain", x.lack(1, 0, 1), NONE);
        due("far over the gap", x.lack(0, 0, 99), NONE);
    }

    // ---- wishes

    private static void wishesAtMost() {
        Check.sentence("WISHES, 8 at most");
        MirrorHour x = ring();
        for (int i = 1; i <= 8; i++) {
            due("a wish", x.wish(i - 1, 0, 0), i);
            due("wishes", x.count(3), i);
        }
        due("all wishes", x.ways(), 1);
        for (int again = 0; again < 3; again++) {
            due("a ninth", x.wish(0, 1, 0), FULL);
            due("a ninth that is told already", x.wish(0, 0, 0), FULL);
            due("unknown house ahead of full", x.wish(8, 0, 0), UNKNOWN);
            due("unknown deed ahead of full", x.wish(0, 6, 0), UNKNOWN);
            due("no deed ahead of full", x.wish(0, NONE, 0), UNKNOWN);
            due("outside ahead of full", x.wish(0, 0, 100), OUTSIDE);
            due("unknown ahead of outside and full", x.wish(0, 6, -1), UNKNOWN);
            due("wishes", x.count(3), 8);
            due("they can come true still", x.ways(), 1);
        }
    }

    private static void wishTimes() {
        Check.sentence("a HOUSE shall DO a DEED in t DAYS (0 .. 99)");
        MirrorHour x = ring();
        for (int wrong : NO_TIMES) {
            due("wish in " + wrong, x.wish(0, 0, wrong), OUTSIDE);
            due("no house ahead of no time", x.wish(-1, 0, wrong), UNKNOWN);
            due("no deed ahead of no time", x.wish(0, 6, wrong), UNKNOWN);
        }
        for (int wrong : NO_HOUSES_OF_EIGHT) {
            due("wish of " + wrong, x.wish(wrong, 0, 0), UNKNOWN);
        }
        for (int wrong : new int[] {MIN, -2, NONE, 6, 7, MAX}) {
            due("wish for deed " + wrong, x.wish(0, wrong, 0), UNKNOWN);
        }
        due("no wishes", x.count(3), 0);
        due("today", x.wish(0, 0, 0), 1);
        due("in 99 days", x.wish(0, 1, 99), 2);
        due("the same twice counts twice", x.wish(0, 1, 99), 3);
        due("two houses are bound", x.ways(), 117649);
        due("and that it is so from 3 again", x.wish(3, 1, 0), 4);
        due("two houses are bound still", x.ways(), 117649);
        due("but not from 2", x.wish(2, 1, 97), 5);
        due("one house more would do two things", x.ways(), 117649);
        due("against another", x.wish(3, 2, 8), 6);
        due("not at once", x.ways(), 0);
    }

    private static void wishesDropped() {
        Check.sentence("WISHES are none: how many there were");
        MirrorHour x = ring();
        due("drop none", x.drop(), 0);
        x.wish(0, 0, 0);
        due("drop 1", x.drop(), 1);
        for (int i = 0; i < 8; i++) {
            x.wish(i, i % 6, 0);
        }
        due("drop 8", x.drop(), 8);
        due("wishes", x.count(3), 0);
        due("all rows", x.ways(), 5764801);
        due("drop none again", x.drop(), 0);
        due("a first again", x.wish(7, 5, 99), 1);
        due("one is bound", x.ways(), 823543);
    }

    private static void waysLeastAndMost() {
        Check.sentence("WAYS: how many rows (each nothing, or a DEED that it CAN)");
        due("no deeds: one row", new MirrorHour().ways(), 1);
        due("most rows", ring().ways(), 5764801);
        due("deeds that none can", Check.told("street 8;either 0 0 0 0;tooled 15 0 0 0").ways(), 1);
        due("a craft by its owner", Check.told("street 8;craft 15 7 0 0").ways(), 2);
        MirrorHour x = Check.told("street 8;" + SIX_PLAIN + ";forbid 0;forbid 1");
        due("two forbidden to seven", x.ways(), 7 * 78125);
        x.set(3, 5);
        x.go(2);
        due("what they do now matters not", x.ways(), 7 * 78125);
    }

    private static void waysOfEightWishes() {
        Check.sentence("make all WISHES come true");
        MirrorHour x = ring();
        int rows = 5764801;
        for (int i = 0; i < 8; i++) {
            x.wish(0, i % 6, i);
            rows /= 7;
            due("a wish for house " + i, x.ways(), rows);
        }
        x.drop();
        for (int i = 0; i < 8; i++) {
            x.wish(i, 2, 8 - i);
        }
        due("one house is bound by eight wishes", x.ways(), 823543);
        x.drop();
        for (int i = 0; i < 7; i++) {
            x.wish(i, 2, 8 - i);
        }
        x.wish(7, 3, 1);
        due("the eighth is against the others", x.ways(), 0);
        x = Check.told(ROW, "plain 0 0 0 0;tooled 1 0 0 0;tools 7 1");
        x.wish(0, 0, 7);
        due("to the gap", x.ways(), 128);
        x.wish(0, 0, 8);
        due("over the gap", x.ways(), 0);
        x.drop();
        x.wish(7, 1, 0);
        due("who can", x.ways(), 128);
        x.wish(6, 1, 0);
        due("who can not", x.ways(), 0);
        x.drop();
        x.wish(6, 1, 1);
        due("what comes to one that can not", x.ways(), 0);
    }

    private static void waysFromWhenAsked() {
        Check.sentence("from when WAYS is asked");
        MirrorHour x = Check.told("street 3;across 0 1;across 1 2;across 2 0;tools 1 1;tools 0 1;plain 0 0 0 0;"
                + "tooled 1 0 0 0");
        x.wish(0, 1, 1);
        for (int day = 1; day <= 3; day++) {
            due("ways", x.ways(), 3 * 2);
            x.go(1);
        }
        x.set(1, 0);
        due("whatever is done today", x.ways(), 6);
    }

    // ---- good and harm

    /** House 0 does what is of 1, the others do what is of 0, each by itself for ever. */
    private static MirrorHour harmful() {
        return Check.told(ALONE, "plain 0 0 9 9;plain 0 1 9 9;does 0 1;does 1 0;does 2 0;does 3 0;does 4 0;does 5 0",
                "does 6 0;does 7 0");
    }

    private static void sumDays() {
        Check.sentence("GOOD, HARM of T DAYS (1 .. 99; today first)");
        MirrorHour x = Check.told("street 2;across 0 1;plain 0 0 3 2;does 0 0;does 1 0");
        due("of today", x.sum(1, 0), 6);
        due("harm of today", x.sum(1, 1), 2);
        due("of two days", x.sum(2, 0), 9);
        due("harm of two days", x.sum(2, 1), 2);
        due("of three days", x.sum(3, 0), 9);
        due("of 99 days", x.sum(99, 0), 9);
        for (int wrong : new int[] {MIN, -1, 0, 100, 101, MAX}) {
            due("sum of " + wrong, x.sum(wrong, 0), OUTSIDE);
            due("harm of " + wrong, x.sum(wrong, 1), OUTSIDE);
        }
        for (int wrong : NO_FLAGS) {
            due("sum of what " + wrong, x.sum(1, wrong), OUTSIDE);
        }
        due("nothing changes", x.count(2) + x.house(1, 2), 0);
    }

    private static void sumMost() {
        Check.sentence("of all that is done together: the most");
        MirrorHour x = harmful();
        due("good of 99 days", x.sum(99, 0), 7128);
        due("harm of 99 days", x.sum(99, 1), 7128);
        due("good of 98 days", x.sum(98, 0), 7056);
        due("good of a day", x.sum(1, 0), 72);
        due("harm of a day", x.sum(1, 1), 72);
        due("nothing is done", ring().sum(99, 1), 0);
    }

    private static void sumOfOwners() {
        Check.sentence("HARM only by HOUSES that are not the OWNER");
        MirrorHour x = Check.told(ALONE, "plain 0 0 9 9;plain 0 7 1 8;does 0 0;does 7 1");
        due("by owners: good", x.sum(99, 0), 990);
        due("by owners: harm", x.sum(99, 1), 0);
        due("by owners: no harm is at most 0", x.council(99, 0, 0), 0);
        x.set(0, 1);
        due("by another: harm", x.sum(99, 1), 792);
        x.set(1, 1);
        due("by two others: harm", x.sum(1, 1), 16);
    }

    private static void councilBounds() {
        Check.sentence("by which HARM of T DAYS is H (0 .. 9999) at most");
        MirrorHour x = harmful();
        int[][] due = {{9999, 0, 7128}, {7128, 0, 7128}, {7127, 2, 6246}, {6246, 2, 6246}, {6245, 1, 954},
            {954, 1, 954}, {953, 3, 72}, {72, 3, 72}, {71, NONE, NONE}, {0, NONE, NONE}};
        for (int[] row : due) {
            due("the set by harm " + row[0], x.council(99, row[0], 0), row[1]);
            due("good by harm " + row[0], x.council(99, row[0], 1), row[2]);
        }
        for (int wrong : new int[] {MIN, -1, 10000, 10001, MAX}) {
            due("harm " + wrong, x.council(1, wrong, 0), OUTSIDE);
            due("harm " + wrong + ", good", x.council(1, wrong, 1), OUTSIDE);
        }
        for (int wrong : new int[] {MIN, -1, 0, 100, 101, MAX}) {
            due("days " + wrong, x.council(wrong, 0, 0), OUTSIDE);
        }
        for (int wrong : NO_FLAGS) {
            due("what " + wrong, x.council(1, 0, wrong), OUTSIDE);
        }
    }

    private static void councilLeastSet() {
        Check.sentence("the one with most GOOD; of several the least set (bits)");
        MirrorHour x = Check.told(ALONE, "plain 0 7 1 1;plain 0 7 1 1;plain 0 7 1 1;plain 0 7 1 1;plain 0 7 1 1;"
                + "plain 0 7 1 1", "does 0 0;does 1 1;does 2 2;does 3 3;does 4 4;does 5 5");
        int[] sets = {63, 31, 15, 7, 3, 1, 0};
        for (int i = 0; i < 7; i++) {
            due("by harm " + (6 + i), x.council(2, 6 + i, 0), sets[i]);
            due("good by harm " + (6 + i), x.council(2, 6 + i, 1), 6 + i);
        }
        x = Check.told(ALONE, SIX_PLAIN, "does 0 0;does 1 5");
        due("no good, no harm: the least set", x.council(99, 0, 0), 0);
        due("no good", x.council(99, 0, 1), 0);
        x = Check.told(ALONE, "plain 0 0 0 0;plain 0 0 0 0;plain 0 0 0 0;plain 0 0 0 0;plain 0 0 0 0;plain 0 7 1 1",
                "does 6 5");
        due("the last deed alone", x.council(2, 1, 0), 32);
        due("no deeds: the empty set", new MirrorHour().council(99, 0, 0), 0);
        due("no deeds: no good", new MirrorHour().council(1, 9999, 1), 0);
    }

    private static void councilNone() {
        Check.sentence("COUNCIL; none");
        MirrorHour x = Check.told("street 2;across 0 0;plain 0 1 0 9;does 0 0");
        due("today's harm, a day", x.council(1, 9, 0), 0);
        due("less", x.council(1, 8, 0), NONE);
        due("less, good", x.council(1, 8, 1), NONE);
        due("today's harm, 99 days", x.council(99, 9, 0), 1);
        due("no good by it", x.council(99, 9, 1), 0);
        due("harm of 2 days", x.council(2, 18, 0), 0);
        due("a little less", x.council(2, 17, 0), 1);
    }

    private static void councilInPlace() {
        Check.sentence("(in place of those that are, from tomorrow on)");
        MirrorHour x = Check.told("street 3;across 0 1;across 1 0;plain 0 2 5 5;does 0 0;does 1 0;forbid 0");
        due("today is as it is", x.sum(99, 0), 10);
        due("all may be allowed", x.council(99, 9999, 0), 0);
        due("then good is", x.council(99, 9999, 1), 990);
        due("forbidden, as it is", x.council(99, 989, 0), 1);
        due("then good is less", x.council(99, 989, 1), 10);
        due("forbidden still", x.deed(0, 5), 1);
        Check.tell(x, "allow 0");
        due("allowed: the same", x.council(99, 989, 0), 1);
        due("allowed still", x.deed(0, 5), 0);
        x = Check.told("street 2;across 0 0;across 1 1;plain 0 0 4 4;does 0 0;does 1 0");
        due("its owner goes on", x.council(3, 4, 1), 4 + 4 + 4 + 4);
    }

    // ---- idle, odds

    private static void idleTimes() {
        Check.sentence("in t DAYS: HOUSES that DO otherwise then k DAYS (0 .. 99) later");
        MirrorHour x = ring();
        x.set(0, 5);
        for (int t : new int[] {0, 1, 7, 8, 98, 99}) {
            for (int k : new int[] {0, 1, 7, 8, 98, 99}) {
                int house = Math.floorMod(-t, 8), then = Math.floorMod(-t - k, 8);
                due("idle(" + house + ", " + t + ", " + k + ")", x.idle(house, t, k), 1 << then);
                due("one that does nothing", x.idle((house + 1) % 8, t, k), 0);
            }
        }
        for (int wrong : NO_TIMES) {
            due("in " + wrong, x.idle(0, wrong, 0), OUTSIDE);
            due("later by " + wrong, x.idle(0, 0, wrong), OUTSIDE);
            due("unknown ahead of outside", x.idle(8, wrong, wrong), UNKNOWN);
        }
        for (int wrong : NO_HOUSES_OF_EIGHT) {
            due("no house " + wrong, x.idle(wrong, 0, 0), UNKNOWN);
        }
        due("nothing changes", x.house(0, 2), 5);
    }

    private static void idleOfNothing() {
        Check.sentence("IDLE: HOUSES that DO otherwise than they would");
        MirrorHour x = Check.told("street 8;across 0 0;across 1 0;across 2 0;across 3 0;across 4 0;"
                + "across 5 0;across 6 0;"
                + "across 7 0", "plain 0 0 0 0;plain 0 0 0 0;does 0 0;does 7 1");
        due("itself", x.idle(0, 0, 0), 1);
        due("all that look at it", x.idle(0, 0, 1), 255);
        due("for ever", x.idle(0, 0, 99), 255);
        due("from the last day on", x.idle(0, 99, 1), 255);
        due("one that none looks at", x.idle(7, 0, 0), 128);
        due("gone the day behind", x.idle(7, 0, 1), 0);
        due("one that does nothing", x.idle(1, 0, 0), 0);
        due("one that will do something", x.idle(1, 1, 0), 2);
        due("no deeds", new MirrorHour().idle(1, 99, 99), 0);
        Check.tell(x, "across 7 7;tools 7 15;tooled 15 7 0 0;does 7 2;across 6 7");
        due("who could not do it anyway", x.idle(7, 0, 1), 128);
    }

    private static void odds(MirrorHour x, int house, int t, int p, long above, long below) {
        due("odds(" + house + ", " + t + ", " + p + ", 0)", x.odds(house, t, p, 0), above);
        due("odds(" + house + ", " + t + ", " + p + ", 1)", x.odds(house, t, p, 1), below);
    }

    private static void oddsTimes() {
        Check.sentence("ODDS that a HOUSE DOES something in t DAYS (0 .. 9)");
        MirrorHour x = ring();
        x.set(0, 0);
        long above = 1, below = 1;
        for (int t = 0; t <= 9; t++) {
            above *= 9;
            below *= 10;
            odds(x, Math.floorMod(-t, 8), t, 1, above, below);
            odds(x, Math.floorMod(1 - t, 8), t, 1, 0, 1);
        }
        for (int wrong : new int[] {MIN, -1, 10, 11, 99, MAX}) {
            due("in " + wrong, x.odds(0, wrong, 0, 0), OUTSIDE);
            due("unknown ahead of outside", x.odds(8, wrong, 0, 0), UNKNOWN);
        }
        for (int wrong : NO_HOUSES_OF_EIGHT) {
            due("no house " + wrong, x.odds(wrong, 0, 0, 0), UNKNOWN);
            due("no house ahead of all", x.odds(wrong, 10, 11, 2), UNKNOWN);
        }
        for (int wrong : NO_FLAGS) {
            due("no part " + wrong, x.odds(0, 0, 0, wrong), OUTSIDE);
        }
    }

    private static void oddsTenths() {
        Check.sentence("ill on each DAY by p tenths (0 .. 10), by itself, today, too; in lowest terms");
        MirrorHour x = Check.told("street 2;across 0 0;across 1 0;plain 0 0 0 0;does 0 0");
        long[] above = {1, 9, 4, 7, 3, 1, 2, 3, 1, 1, 0}, below = {1, 10, 5, 10, 5, 2, 5, 10, 5, 10, 1};
        long[] mostAbove = {1, 3486784401L, 1048576, 282475249, 59049, 1, 1024, 59049, 1, 1, 0};
        long[] mostBelow = {1, 10000000000L, 9765625, 10000000000L, 9765625, 1024, 9765625, 10000000000L, 9765625,
            10000000000L, 1};
        for (int p = 0; p <= 10; p++) {
            odds(x, 0, 0, p, above[p], below[p]);
            odds(x, 1, 1, p, above[p] * above[p], below[p] * below[p]);
            odds(x, 0, 9, p, mostAbove[p], mostBelow[p]);
            odds(x, 1, 9, p, mostAbove[p], mostBelow[p]);
        }
        for (int wrong : new int[] {MIN, -1, 11, 12, MAX}) {
            due("by " + wrong, x.odds(0, 0, wrong, 0), OUTSIDE);
        }
    }

    private static void oddsOfNothing() {
        Check.sentence("Parts are told in lowest terms: above (part 0), below (1): of nothing");
        MirrorHour x = Check.told("street 3;across 0 1;plain 0 0 0 0;does 1 0");
        for (int p = 0; p <= 10; p++) {
            odds(x, 2, 0, p, 0, 1);
            odds(x, 0, 0, p, 0, 1);
            odds(x, 0, 2, p, 0, 1);
            odds(x, 1, 9, p, 0, 1);
        }
        odds(x, 0, 1, 0, 1, 1);
        odds(x, 0, 1, 10, 0, 1);
        odds(x, 0, 1, 5, 1, 4);
    }

    // ---- pairs, town

    private static void pairsOfEachTown() {
        Check.sentence("PAIRS: each HOUSE in one of two, but one, if n is odd");
        for (int n = 2; n <= 8; n++) {
            MirrorHour x = Check.told("street " + n);
            due("liking of " + n, x.pair(NONE), 0);
            for (int house = 0; house < n; house++) {
                int other = house % 2 == 0 ? house + 1 : house - 1;
                due("pair(" + house + ") of " + n, x.pair(house), other < n ? other : NONE);
            }
            for (int wrong : new int[] {MIN, -2, n, n + 1, 32, MAX}) {
                due("pair(" + wrong + ") of " + n, x.pair(wrong), UNKNOWN);
            }
            Check.tell(x, "like 0 " + (n - 1) + " 1");
            due("the first and the last", x.pair(0), n - 1);
            due("the last and the first", x.pair(n - 1), 0);
            due("liking", x.pair(NONE), 1);
        }
    }

    private static void pairsAlone() {
        Check.sentence("alone: behind all");
        MirrorHour x = Check.told("street 3;like 0 1 4;like 1 2 4");
        due("0 is not alone, if it need not be", x.pair(0), 1);
        due("2 is", x.pair(2), NONE);
        Check.tell(x, "like 1 2 5");
        due("0 is, if it must", x.pair(0), NONE);
        due("liking", x.pair(NONE), 5);
        Check.tell(x, "street 7;like 1 2 9;like 3 4 9;like 5 6 9");
        due("0 of seven", x.pair(0), NONE);
        due("liking of seven", x.pair(NONE), 27);
        Check.tell(x, "like 0 6 9");
        due("0 with 6: then 5 is alone", x.pair(0), 6);
        due("5 is alone", x.pair(5), NONE);
        Check.tell(x, "like 0 4 9");
        due("0 with 4: then 3 is alone", x.pair(0), 4);
        due("3 is alone", x.pair(3), NONE);
        Check.tell(x, "street 5;like 0 1 9;like 2 3 7;like 2 4 7;like 3 4 7");
        due("2 with 3", x.pair(2), 3);
        due("4 is alone", x.pair(4), NONE);
        Check.tell(x, "like 2 3 6");
        due("2 with 4", x.pair(2), 4);
        due("3 is alone", x.pair(3), NONE);
    }

    private static void pairsMost() {
        Check.sentence("the greatest LIKING of all together");
        MirrorHour x = Check.told("street 8;like 0 7 9;like 1 6 9;like 2 5 9;like 3 4 9");
        due("liking of eight", x.pair(NONE), 36);
        for (int house = 0; house < 8; house++) {
            due("pair(" + house + ")", x.pair(house), 7 - house);
        }
        Check.tell(x, "like 0 1 9;like 2 3 9;like 4 5 9;like 6 7 9");
        due("another way too", x.pair(NONE), 36);
        due("the least with 0", x.pair(0), 1);
        due("then the least with 2", x.pair(2), 3);
        Check.tell(x, "like 4 5 8");
        due("less by one: 2 is with another", x.pair(2), 5);
        due("0 is not", x.pair(0), 1);
        due("liking is the same", x.pair(NONE), 36);
        x = Check.told("street 4;like 0 1 9;like 0 2 5;like 1 3 5");
        due("two of 5 are more than one of 9", x.pair(NONE), 10);
        Check.tell(x, "like 1 3 4");
        due("of 9 and of 5 and 4, the least with 0", x.pair(0), 1);
        Check.tell(x, "like 1 3 3");
        due("one of 9 is more", x.pair(NONE), 9);
    }

    private static void pairsLeast() {
        Check.sentence("of several the PAIRS in which HOUSE 0 is with the least, then the least of "
                + "those left, and so on");
        MirrorHour x = Check.told("street 6;like 0 2 1;like 0 1 1;like 3 4 1;like 2 5 1;like 2 3 1;"
                + "like 4 5 1;like 1 3 1");
        due("liking", x.pair(NONE), 3);
        int[] pairs = {1, 0, 3, 2, 5, 4};
        for (int house = 0; house < 6; house++) {
            due("pair(" + house + ")", x.pair(house), pairs[house]);
        }
        Check.tell(x, "like 4 5 0");
        int[] then = {1, 0, 5, 4, 3, 2};
        for (int house = 0; house < 6; house++) {
            due("pair(" + house + ")", x.pair(house), then[house]);
        }
        x = Check.told("street 6;like 0 5 9;like 1 2 5;like 1 3 4;like 3 4 1");
        int[] left = {5, 2, 1, 4, 3, 0};
        for (int house = 0; house < 6; house++) {
            due("of those left: pair(" + house + ")", x.pair(house), left[house]);
        }
    }

    private static void town(String what, MirrorHour x, int rounds, int longest, int gaps) {
        due(what + ": rounds", x.town(0), rounds);
        due(what + ": longest", x.town(1), longest);
        due(what + ": houses that come to a gap", x.town(2), gaps);
    }

    private static void townRounds() {
        Check.sentence("ROUNDS (HOUSES from which one comes back by who is ACROSS): how many, the "
                + "HOUSES of the longest");
        town("no round", new MirrorHour(), 0, 0, 3);
        town("eight of one", Check.told(ALONE), 8, 1, 0);
        town("one of eight", ring(), 1, 8, 0);
        MirrorHour x = Check.told("street 8;across 0 1;across 1 0;across 2 3;across 3 2;across 4 5;"
                + "across 5 4;across 6 7;"
                + "across 7 6");
        town("four of two", x, 4, 2, 0);
        Check.tell(x, "across 1 2;across 3 0;across 5 6;across 7 4");
        town("two of four", x, 2, 4, 0);
        Check.tell(x, "across 7 5");
        town("the longest comes first", x, 2, 4, 0);
        Check.tell(x, "across 3 2");
        town("houses that come to a round are not on it", x, 2, 3, 0);
        Check.tell(x, "across 7 7");
        town("the longest of two and one", x, 2, 2, 0);
        for (int wrong : new int[] {MIN, -1, 3, 4, MAX}) {
            due("town(" + wrong + ")", x.town(wrong), OUTSIDE);
        }
    }

    private static void townGaps() {
        Check.sentence("HOUSES whose WAY comes to a GAP, by bits");
        MirrorHour x = Check.told(ROW);
        town("a row of 8", x, 0, 0, 255);
        Check.tell(x, "across 7 7");
        town("a row to a round", x, 1, 1, 0);
        Check.tell(x, "gap 3");
        town("a gap within", x, 1, 1, 15);
        Check.tell(x, "gap 0;gap 7");
        town("two gaps more", x, 0, 0, 255);
        Check.tell(x, "across 7 0;across 3 3");
        town("who looks at a gap", x, 1, 1, 241);
        Check.tell(x, "across 0 7");
        town("but not in a round of the first and the last", x, 2, 2, 0);
    }
}
