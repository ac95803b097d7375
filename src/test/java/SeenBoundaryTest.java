/** The sentences of the document on what was seen, kept and counted, as far as they name a boundary. */
final class SeenBoundaryTest {
    private static final int NONE = -1, UNKNOWN = -2, OUTSIDE = -3, NOT = -4, FULL = -5;
    private static final int MIN = Integer.MIN_VALUE, MAX = Integer.MAX_VALUE;
    private static final int ANY = 127, NOTHING = 64;
    private static final String RING = "street 8;across 0 1;across 1 2;across 2 3;across 3 4;across 4 5;across 5 6;"
            + "across 6 7;across 7 0";
    private static final String SIX_PLAIN = "plain 0 0 0 0;plain 0 0 0 0;plain 0 0 0 0;plain 0 0 0 0;plain 0 0 0 0;"
            + "plain 0 0 0 0";

    public static void main(String[] args) {
        seenAtMost();
        seenTimes();
        seenNothing();
        forgotten();
        fitsLeastAndMost();
        fitsOfEight();
        fitsOfNoRow();
        fitsAtGaps();
        fitsOfWhatCanNotCome();
        fitsWhateverIsDoneNow();
        fitsByWhatIsForbidden();
        fitsOfHouses();
        neverKept();
        keptTwice();
        keptAtEnds();
        keptIsApart();
        keptLeavesOtherThings();
        keptBehindTexts();
        noSuchImage();
        counts();
        Check.end();
    }

    private static void due(String call, long got, long want) {
        Check.due(call, got, want);
    }

    private static MirrorHour ring() {
        return Check.told(RING, SIX_PLAIN);
    }

    // ---- seen

    private static void seenAtMost() {
        Check.sentence("SEEN, 8 at most");
        MirrorHour x = ring();
        for (int i = 1; i <= 8; i++) {
            due("seen", x.seen(i - 1, i % 2 == 0 ? NONE : 0, 0), i);
            due("count", x.count(4), i);
        }
        due("one row", x.fits(NONE), 1);
        for (int again = 0; again < 3; again++) {
            due("a ninth", x.seen(0, 1, 0), FULL);
            due("a ninth: nothing", x.seen(0, NONE, 0), FULL);
            due("a ninth that is told already", x.seen(0, 0, 0), FULL);
            due("unknown house ahead of full", x.seen(8, 0, 0), UNKNOWN);
            due("unknown deed ahead of full", x.seen(0, 6, 0), UNKNOWN);
            due("outside ahead of full", x.seen(0, NONE, 100), OUTSIDE);
            due("unknown ahead of outside and full", x.seen(0, -2, -1), UNKNOWN);
            due("count", x.count(4), 8);
            due("one row still", x.fits(NONE), 1);
        }
        due("wishes are told apart", x.count(3), 0);
        due("a wish finds room", x.wish(0, 0, 0), 1);
    }

    private static void seenTimes() {
        Check.sentence("a HOUSE DID a DEED (or nothing) on DAY t (0 .. 99)");
        MirrorHour x = ring();
        for (int wrong : new int[] {MIN, -99, -1, 100, 101, MAX}) {
            due("seen on " + wrong, x.seen(0, 0, wrong), OUTSIDE);
            due("nothing seen on " + wrong, x.seen(0, NONE, wrong), OUTSIDE);
            due("no house ahead of no day", x.seen(-1, 0, wrong), UNKNOWN);
            due("no deed ahead of no day", x.seen(0, 6, wrong), UNKNOWN);
        }
        for (int wrong : new int[] {MIN, -2, -1, 8, 9, MAX}) {
            due("no house " + wrong, x.seen(wrong, 0, 0), UNKNOWN);
            due("no house " + wrong + ", nothing", x.seen(wrong, NONE, 0), UNKNOWN);
        }
        for (int wrong : new int[] {MIN, -3, -2, 6, 7, MAX}) {
            due("no deed " + wrong, x.seen(0, wrong, 0), UNKNOWN);
        }
        due("nothing was seen", x.count(4), 0);
        due("on day 0", x.seen(7, 5, 0), 1);
        due("the house itself", x.fits(7), 32);
        due("on day 99", x.seen(7, 4, 99), 2);
        due("3 steps on", x.fits(2), 16);
        due("on day 98", x.seen(7, 3, 98), 3);
        due("2 steps on", x.fits(1), 8);
        due("the others may do all", x.fits(0), ANY);
        due("rows", x.fits(NONE), 16807);
    }

    private static void seenNothing() {
        Check.sentence("UNKNOWN (DEED NONE: nothing)");
        MirrorHour x = ring();
        due("nothing on day 0", x.seen(0, NONE, 0), 1);
        due("then it did nothing", x.fits(0), NOTHING);
        due("rows", x.fits(NONE), 823543);
        due("nothing on day 99", x.seen(0, NONE, 99), 2);
        due("3 steps on", x.fits(3), NOTHING);
        due("rows of six", x.fits(NONE), 117649);
        due("the same again", x.seen(0, NONE, 99), 3);
        due("rows of six still", x.fits(NONE), 117649);
        due("new: nothing", new MirrorHour().seen(1, NONE, 99), 1);
        due("new: a deed", new MirrorHour().seen(1, 0, 99), UNKNOWN);
    }

    private static void forgotten() {
        Check.sentence("SEEN is nothing: how many there were");
        MirrorHour x = ring();
        due("forget none", x.forget(), 0);
        x.seen(0, 0, 0);
        due("forget 1", x.forget(), 1);
        for (int i = 0; i < 8; i++) {
            x.seen(i, NONE, 0);
        }
        due("forget 8", x.forget(), 8);
        due("count", x.count(4), 0);
        due("all rows", x.fits(NONE), 5764801);
        due("forget none again", x.forget(), 0);
        due("a first again", x.seen(7, 5, 99), 1);
        due("one is known", x.fits(NONE), 823543);
        x.wish(0, 0, 0);
        x.forget();
        due("wishes stay", x.count(3), 1);
        x.seen(0, 0, 0);
        x.drop();
        due("what was seen stays", x.count(4), 1);
    }

    // ---- fits

    private static void fitsLeastAndMost() {
        Check.sentence("rows of what HOUSES DID on DAY 0 (each nothing, or a DEED that it CAN): how many");
        due("no deeds: one row", new MirrorHour().fits(NONE), 1);
        due("no deeds: nothing", new MirrorHour().fits(1), NOTHING);
        MirrorHour x = ring();
        due("most rows", x.fits(NONE), 5764801);
        due("all deeds and nothing", x.fits(7), ANY);
        x = Check.told("street 8;either 0 0 0 0;tooled 15 0 0 0;craft 15 7 0 0");
        due("a craft by its owner", x.fits(NONE), 2);
        due("the owner", x.fits(7), 4 + NOTHING);
        due("another", x.fits(6), NOTHING);
    }

    private static void fitsOfEight() {
        Check.sentence("by which all is so");
        MirrorHour x = ring();
        int rows = 5764801;
        for (int i = 0; i < 8; i++) {
            x.seen(0, i == 6 ? NONE : i % 6, i);
            rows /= 7;
            due("rows of " + i, x.fits(NONE), rows);
            due("house " + i, x.fits(i), i == 6 ? NOTHING : 1 << i % 6);
        }
        x.forget();
        for (int i = 0; i < 7; i++) {
            x.seen(i, 2, 8 - i);
        }
        due("one house is told of seven times", x.fits(NONE), 823543);
        x.seen(7, NONE, 1);
        due("the eighth is against the others", x.fits(NONE), 0);
    }

    private static void fitsOfNoRow() {
        Check.sentence("rows .. by which all is so: none");
        MirrorHour x = ring();
        x.seen(0, 0, 0);
        x.seen(0, NONE, 0);
        due("rows", x.fits(NONE), 0);
        for (int house = 0; house < 8; house++) {
            due("fits(" + house + ")", x.fits(house), 0);
        }
        x.forget();
        x.seen(3, 5, 8);
        x.seen(3, 4, 0);
        due("rows", x.fits(NONE), 0);
        due("another house", x.fits(7), 0);
    }

    private static void fitsAtGaps() {
        Check.sentence("On the next DAY .. at a GAP, nothing");
        MirrorHour x = Check.told("street 3;across 0 1;across 1 2;plain 0 0 0 0;plain 0 0 0 0");
        x.seen(0, 1, 2);
        due("to the gap", x.fits(2), 2);
        due("rows to the gap", x.fits(NONE), 9);
        x.seen(0, NONE, 3);
        x.seen(0, NONE, 99);
        x.seen(2, NONE, 1);
        due("nothing comes over a gap", x.fits(NONE), 9);
        due("all is as it was", x.fits(2), 2);
        x.seen(2, 0, 1);
        due("a deed can not", x.fits(NONE), 0);
        x.forget();
        x.seen(0, 0, 99);
        due("nor from far", x.fits(NONE), 0);
    }

    private static void fitsOfWhatCanNotCome() {
        Check.sentence("a DEED that it CAN");
        MirrorHour x = Check.told("street 3;across 0 1;across 1 2;across 2 2;tools 0 1;tools 2 1;"
                + "tooled 1 0 0 0;plain 0 0 0 0");
        due("rows", x.fits(NONE), 3 * 2 * 3);
        x.seen(1, 0, 0);
        due("what it can not on day 0", x.fits(NONE), 0);
        x.forget();
        x.seen(0, 0, 2);
        due("what one between can not", x.fits(NONE), 0);
        x.forget();
        x.seen(0, NONE, 2);
        due("nothing: what can not come may have been done", x.fits(2), 1 + NOTHING);
        due("rows then", x.fits(NONE), 3 * 2 * 2);
        x.seen(2, 0, 99);
        due("2 goes on by itself", x.fits(2), 1);
        due("rows of the others", x.fits(NONE), 6);
    }

    private static void fitsWhateverIsDoneNow() {
        Check.sentence("DAY 0 was that on which all began");
        MirrorHour x = Check.told("street 2;across 0 1;across 1 0;plain 0 0 0 0");
        x.seen(0, 0, 1);
        due("on day 0", x.fits(1), 1);
        for (int day = 1; day <= 3; day++) {
            x.go(1);
            due("on day " + day, x.fits(1), 1);
            due("on day " + day + ", the other", x.fits(0), 1 + NOTHING);
        }
        x.set(1, NONE);
        due("whatever is done today", x.fits(1), 1);
        due("a day that has not come", x.seen(1, NONE, 99), 2);
        due("counts, too", x.fits(0), NOTHING);
    }

    private static void fitsByWhatIsForbidden() {
        Check.sentence("by who is ACROSS, TOOLS and what is FORBIDDEN now");
        MirrorHour x = Check.told("street 3;across 0 1;across 1 1;plain 0 0 0 0;plain 0 1 0 0;forbid 0");
        due("its owner", x.fits(0), 1 + 2 + NOTHING);
        due("another", x.fits(2), 2 + NOTHING);
        x.seen(0, 0, 1);
        due("nobody can bring it", x.fits(NONE), 0);
        x.forget();
        x.seen(0, 0, 0);
        due("on day 0 it may", x.fits(0), 1);
        Check.tell(x, "allow 0;forbid 1");
        due("allowed now", x.fits(2), 1 + NOTHING);
        x.seen(0, 1, 1);
        due("the first can not", x.fits(NONE), 0);
        x.forget();
        x.seen(1, 1, 99);
        due("its owner by itself", x.fits(1), 2);
    }

    private static void fitsOfHouses() {
        Check.sentence("fits: house NONE; UNKNOWN");
        for (int n = 2; n <= 8; n++) {
            MirrorHour x = Check.told("street " + n + ";plain 0 0 0 0");
            due("rows", x.fits(NONE), 1 << n);
            for (int house = 0; house < n; house++) {
                due("house " + house, x.fits(house), 1 + NOTHING);
            }
            for (int wrong : new int[] {MIN, -2, n, n + 1, 8, 32, MAX}) {
                due("fits(" + wrong + ")", x.fits(wrong), UNKNOWN);
            }
        }
    }

    // ---- keep, back

    private static void neverKept() {
        Check.sentence("NOT: nothing was kept since the last text");
        MirrorHour x = ring();
        x.set(0, 0);
        x.go(3);
        for (int k = 0; k < 2; k++) {
            due("back(" + k + ")", x.back(k), NOT);
        }
        due("days", x.count(2), 3);
        due("does", x.house(5, 2), 0);
        due("keep(1)", x.keep(1), 3);
        due("back(0)", x.back(0), NOT);
        due("back(1)", x.back(1), 3);
        x = ring();
        due("keep(0)", x.keep(0), 0);
        due("back(1) of the other", x.back(1), NOT);
        due("back(0) of the other", x.back(0), 0);
        due("new: back(0)", new MirrorHour().back(0), NOT);
        due("new: back(1)", new MirrorHour().back(1), NOT);
        due("new: keep(0)", new MirrorHour().keep(0), 0);
    }

    private static void keptTwice() {
        Check.sentence("are kept (k 0, 1): DAYS");
        MirrorHour x = ring();
        x.set(0, 0);
        for (int k = 0; k < 2; k++) {
            x.go(10);
            due("keep(" + k + ")", x.keep(k), 10 * (k + 1));
        }
        x.go(5);
        due("keep(0) anew", x.keep(0), 25);
        x.go(5);
        due("back(1)", x.back(1), 20);
        due("does", x.house(4, 2), 0);
        due("back(0)", x.back(0), 25);
        due("does then", x.house(7, 2), 0);
        due("back(0) again", x.back(0), 25);
        due("back(1) again", x.back(1), 20);
        due("keep what is back in the other", x.keep(0), 20);
        due("back(0)", x.back(0), 20);
    }

    private static void keptAtEnds() {
        Check.sentence("What HOUSES DO, DAYS, on how many each DID something are kept");
        MirrorHour x = Check.told("street 8;across 0 0;across 7 7;" + SIX_PLAIN, "does 0 0;does 7 5");
        due("on day 0", x.keep(0), 0);
        for (int days = 99; days <= 9999; days += 99) {
            x.go(99);
        }
        x.set(3, 3);
        due("on the last day", x.keep(1), 9999);
        due("to day 0", x.back(0), 0);
        due("did: the first", x.house(0, 3), 0);
        due("did: the last", x.house(7, 3), 0);
        due("does: another", x.house(3, 2), NONE);
        due("days go again", x.go(1), 1);
        due("to the last day", x.back(1), 9999);
        due("did: the first", x.house(0, 3), 9999);
        due("did: the last", x.house(7, 3), 9999);
        due("does: the first", x.house(0, 2), 0);
        due("does: the last", x.house(7, 2), 5);
        due("does: another", x.house(3, 2), 3);
        due("no day goes", x.go(1), FULL);
    }

    private static void keptIsApart() {
        Check.sentence("They are as they were kept");
        MirrorHour x = Check.told("street 3;across 0 0;across 1 0;plain 0 0 0 0;plain 0 0 0 0;does 0 0");
        x.go(2);
        x.keep(0);
        x.set(0, 1);
        x.set(2, 1);
        x.go(1);
        due("back", x.back(0), 2);
        for (int round = 0; round < 2; round++) {
            due("days", x.count(2), 2);
            due("does 0", x.house(0, 2), 0);
            due("does 1", x.house(1, 2), 0);
            due("does 2", x.house(2, 2), NONE);
            due("did 0", x.house(0, 3), 2);
            due("did 1", x.house(1, 3), 1);
            due("did 2", x.house(2, 3), 0);
            x.set(0, NONE);
            x.set(2, 0);
            x.go(7);
            due("back again", x.back(0), 2);
        }
        x.set(2, 1);
        x.back(0);
        due("what was set is gone", x.house(2, 2), NONE);
    }

    private static void keptLeavesOtherThings() {
        Check.sentence("back: what is not kept is as it is");
        MirrorHour x = ring();
        x.wish(0, 0, 0);
        x.seen(0, 0, 0);
        x.keep(0);
        x.keep(1);
        x.wish(1, 0, 0);
        x.forget();
        Check.write(x, "gap 0");
        due("back", x.back(0), 0);
        due("wishes", x.count(3), 2);
        due("seen", x.count(4), 0);
        due("bytes", x.count(5), 5);
        due("the text", x.fault(), NONE);
        x.go(4);
        x.keep(0);
        due("the other", x.back(1), 0);
        x.erase();
        x.drop();
        due("back", x.back(0), 4);
        due("no wishes", x.count(3), 0);
        due("no bytes", x.count(5), 0);
    }

    private static void keptBehindTexts() {
        Check.sentence("nothing was kept since the last text");
        MirrorHour x = ring();
        x.go(1);
        x.keep(0);
        x.keep(1);
        due("a text at fault", Check.tell(x, "gap 8"), NOT);
        due("back(0) still", x.back(0), 1);
        due("back(1) still", x.back(1), 1);
        x.erase();
        due("behind erase", x.back(0), 1);
        due("a text", Check.tell(x, "gap 7"), 1);
        due("back(0)", x.back(0), NOT);
        due("back(1)", x.back(1), NOT);
        due("keep(1)", x.keep(1), 0);
        due("back(0) still not", x.back(0), NOT);
        due("back(1) now", x.back(1), 0);
    }

    private static void noSuchImage() {
        Check.sentence("keep, back: UNKNOWN: no such k");
        MirrorHour x = ring();
        for (int keeps = 0; keeps < 2; keeps++) {
            for (int wrong : new int[] {MIN, -2, -1, 2, 3, 32, MAX}) {
                due("keep(" + wrong + ")", x.keep(wrong), UNKNOWN);
                due("back(" + wrong + ")", x.back(wrong), UNKNOWN);
            }
            due("nothing was kept by that", x.back(0), keeps == 0 ? NOT : 0);
            due("nor at 1", x.back(1), keeps == 0 ? NOT : 0);
            x.keep(0);
            x.keep(1);
        }
    }

    private static void counts() {
        Check.sentence("count: 0 HOUSES, 1 DEEDS, 2 DAYS, 3 WISHES, 4 SEEN, 5 bytes of THE TEXT; OUTSIDE");
        MirrorHour x = ring();
        x.go(99);
        for (int i = 0; i < 8; i++) {
            x.wish(0, 0, 0);
            if (i > 0) {
                x.seen(0, 0, 0);
            }
        }
        Check.write(x, " ".repeat(200));
        int[] due = {8, 6, 99, 8, 7, 200};
        for (int what = 0; what < 6; what++) {
            due("count(" + what + ")", x.count(what), due[what]);
        }
        for (int wrong : new int[] {MIN, -1, 6, 7, 32, MAX}) {
            due("count(" + wrong + ")", x.count(wrong), OUTSIDE);
        }
    }
}
