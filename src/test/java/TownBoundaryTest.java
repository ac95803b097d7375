/** The sentences of the document on houses, deeds and days that go, as far as they name a boundary. */
final class TownBoundaryTest {
    private static final int NONE = -1, UNKNOWN = -2, OUTSIDE = -3, NOT = -4, FULL = -5;
    private static final int MIN = Integer.MIN_VALUE, MAX = Integer.MAX_VALUE;
    private static final String[] KINDS = {"plain", "tooled", "either", "craft"};

    public static void main(String[] args) {
        atFirst();
        fewestAndMostHouses();
        toolsOfHouses();
        acrossHouses();
        deedsAsTheyCome();
        valuesOfDeeds();
        whatOfHouses();
        whatOfDeeds();
        plain();
        tooled();
        either();
        craft();
        forbidden();
        kindsOverOneAnother();
        setNothing();
        setWhatItCan();
        nextDayAtOnce();
        nextDayIfItCan();
        nextDayAtGaps();
        daysAtOnce();
        lastDay();
        daysOnWhichItDid();
        lastCall();
        objectsApart();
        Check.end();
    }

    private static void due(String call, long got, long want) {
        Check.due(call, got, want);
    }

    private static int bit(boolean is) {
        return is ? 1 : 0;
    }

    // ---- what is told

    private static void atFirst() {
        Check.sentence("A new object: Two HOUSES, GAPS, no DEEDS");
        MirrorHour x = new MirrorHour();
        int[] counts = {2, 0, 0, 0, 0, 0};
        for (int what = 0; what < 6; what++) {
            due("count(" + what + ")", x.count(what), counts[what]);
        }
        int[] values = {NONE, 0, NONE, 0};
        for (int what = 0; what < 4; what++) {
            due("house(0, " + what + ")", x.house(0, what), values[what]);
            due("house(1, " + what + ")", x.house(1, what), values[what]);
            due("house(2, " + what + ")", x.house(2, what), UNKNOWN);
        }
        due("deed(0, 0)", x.deed(0, 0), UNKNOWN);
        due("as(0, 0)", x.as(0, 0), UNKNOWN);
        due("rounds", x.town(0), 0);
        due("the longest of none", x.town(1), 0);
        due("gaps", x.town(2), 3);
        due("liking", x.pair(NONE), 0);
        due("pairs", x.pair(0), 1);
        due("fault()", x.fault(), 0);
        due("nothing is kept", x.back(0), NOT);
        due("nothing is kept at 1", x.back(1), NOT);
        due("set nothing", x.set(1, NONE), NONE);
        due("set a deed", x.set(1, 0), UNKNOWN);
        due("a day goes", x.go(1), 1);
        due("nothing is done", x.house(0, 3), 0);
    }

    private static void fewestAndMostHouses() {
        Check.sentence("HOUSES are 0 .. n less 1 (n 2 .. 8; 2 at first)");
        for (int n = 2; n <= 8; n++) {
            MirrorHour x = Check.told("street " + n, "plain 0 0 0 0");
            due("houses", x.count(0), n);
            for (int house : new int[] {0, n - 1}) {
                due("house", x.house(house, 0), NONE);
                due("set", x.set(house, 0), NONE);
                due("later", x.later(house, 0), 0);
                due("first", x.first(house, 0, 0), house);
                due("lack", x.lack(house, 0, 0), 0);
                due("wish", x.wish(house, 0, 0) > 0 ? 1 : 0, 1);
                due("idle", x.idle(house, 0, 0), 1 << house);
                due("odds", x.odds(house, 0, 0, 0), 1);
                due("seen", x.seen(house, 0, 0) > 0 ? 1 : 0, 1);
                due("fits", x.fits(house), 1);
            }
            due("as", x.as(0, 0), (1 << n) - 1);
            for (int house : new int[] {MIN, -2, -1, n, 8, 9, n + 32, MAX}) {
                due("no house " + house, x.house(house, 0), UNKNOWN);
                due("set " + house, x.set(house, 0), UNKNOWN);
                due("later " + house, x.later(house, 0), UNKNOWN);
                due("first " + house, x.first(house, 0, 0), UNKNOWN);
                due("lack " + house, x.lack(house, 0, 0), UNKNOWN);
                due("wish " + house, x.wish(house, 0, 0), UNKNOWN);
                due("idle " + house, x.idle(house, 0, 0), UNKNOWN);
                due("odds " + house, x.odds(house, 0, 0, 0), UNKNOWN);
                due("seen " + house, x.seen(house, 0, 0), UNKNOWN);
                if (house != NONE) {
                    due("pair " + house, x.pair(house), UNKNOWN);
                    due("fits " + house, x.fits(house), UNKNOWN);
                }
            }
            due("wishes", x.count(3), 2);
            due("seen", x.count(4), 2);
        }
    }

    private static void toolsOfHouses() {
        Check.sentence("TOOLS (a set of 0 .. 3, by bits; none at first)");
        MirrorHour x = Check.told("street 8");
        for (int set = 0; set < 16; set++) {
            due("tools", Check.tell(x, "tools " + set % 8 + " " + set), 1);
            due("tools " + set, x.house(set % 8, 1), set);
            due("tools of the next", x.house((set + 1) % 8, 1), set < 8 ? 0 : set - 7);
        }
    }

    private static void acrossHouses() {
        Check.sentence("each with another HOUSE (or itself) ACROSS, or a GAP (as at first)");
        MirrorHour x = Check.told("street 8");
        for (int house = 0; house < 8; house++) {
            for (int other = 0; other < 8; other++) {
                Check.tell(x, "across " + house + " " + other);
                due("across " + house, x.house(house, 0), other);
            }
        }
        for (int house = 0; house < 8; house++) {
            due("all look at 7", x.house(house, 0), 7);
            Check.tell(x, "gap " + house);
            due("a gap", x.house(house, 0), NONE);
        }
        Check.tell(x, "gap 0");
        due("a gap twice", x.house(0, 0), NONE);
        Check.tell(x, "across 0 1");
        due("not mutual", x.house(1, 0), NONE);
    }

    private static void deedsAsTheyCome() {
        Check.sentence("DEEDS are 0, 1 .. as they come, 6 at most (none at first)");
        MirrorHour x = Check.told("street 8");
        for (int deed = 0; deed < 6; deed++) {
            due("not yet " + deed, x.deed(deed, 0), UNKNOWN);
            due("not yet: set", x.set(0, deed), UNKNOWN);
            due("not yet: first", x.first(0, deed, 0), UNKNOWN);
            due("not yet: lack", x.lack(0, deed, 0), UNKNOWN);
            due("not yet: wish", x.wish(0, deed, 0), UNKNOWN);
            due("not yet: seen", x.seen(0, deed, 0), UNKNOWN);
            due("not yet: as", x.as(deed, 0), UNKNOWN);
            due("a deed more", Check.tell(x, "plain " + deed + " " + deed + " " + deed + " " + deed), 1);
            due("deeds", x.count(1), deed + 1);
            due("owner", x.deed(deed, 2), deed);
            due("set", x.set(deed, deed), NONE);
            due("first", x.first(deed, deed, 0), deed);
            due("fits", x.fits(0), 64 + (2 << deed) - 1);
        }
        due("a seventh", Check.tell(x, "plain 0 0 0 0"), NOT);
        for (int wrong : new int[] {MIN, -2, -1, 6, 7, 32, 64, MAX}) {
            due("no deed " + wrong, x.deed(wrong, 0), UNKNOWN);
            due("as " + wrong, x.as(wrong, 0), UNKNOWN);
            due("first " + wrong, x.first(0, wrong, 0), UNKNOWN);
            due("lack " + wrong, x.lack(0, wrong, 0), UNKNOWN);
            due("wish " + wrong, x.wish(0, wrong, 0), UNKNOWN);
            due("set " + wrong, x.set(0, wrong), wrong == NONE ? 0 : UNKNOWN);
        }
        for (int wrong : new int[] {MIN, -2, 6, 7, 32, 64, MAX}) {
            due("seen " + wrong, x.seen(0, wrong, 0), UNKNOWN);
        }
        due("no deeds by texts that are refused", x.count(1), 6);
    }

    private static void valuesOfDeeds() {
        Check.sentence("S TOOLS 0 .. 15, A OWNER, G GOOD, H HARM");
        int[][] values = {{0, 0, 0, 0}, {15, 7, 9, 9}, {15, 0, 0, 9}, {0, 7, 9, 0}, {8, 1, 1, 8}, {1, 6, 8, 1}};
        for (int kind = 0; kind < 4; kind++) {
            MirrorHour x = Check.told("street 8");
            for (int[] v : values) {
                Check.tell(x, KINDS[kind] + " " + v[0] + " " + v[1] + " " + v[2] + " " + v[3]);
            }
            for (int deed = 0; deed < 6; deed++) {
                due("kind", x.deed(deed, 0), kind);
                for (int what = 0; what < 4; what++) {
                    due("deed(" + deed + ", " + (what + 1) + ")", x.deed(deed, what + 1), values[deed][what]);
                }
                due("FORBIDDEN or not (as at first)", x.deed(deed, 5), 0);
                Check.tell(x, "forbid " + deed);
                for (int other = 0; other < 6; other++) {
                    due("forbidden " + other, x.deed(other, 5), bit(other == deed));
                }
                Check.tell(x, "allow " + deed);
                due("allowed again", x.deed(deed, 5), 0);
            }
        }
    }

    private static void whatOfHouses() {
        Check.sentence("house: what 0 .. 3; UNKNOWN; OUTSIDE");
        MirrorHour x = Check.told("street 3;across 1 2;tools 1 9;plain 0 0 0 0;plain 0 0 0 0;does 1 1;does 2 0");
        x.go(1);
        x.set(1, 1);
        int[] values = {2, 9, 1, 1};
        for (int what = 0; what < 4; what++) {
            due("house(1, " + what + ")", x.house(1, what), values[what]);
        }
        for (int wrong : new int[] {MIN, -1, 4, 5, 32, MAX}) {
            due("outside", x.house(1, wrong), OUTSIDE);
            due("unknown ahead of outside", x.house(3, wrong), UNKNOWN);
            due("unknown ahead of outside, below", x.house(-1, wrong), UNKNOWN);
        }
    }

    private static void whatOfDeeds() {
        Check.sentence("deed: what 0 .. 5; UNKNOWN; OUTSIDE");
        MirrorHour x = Check.told("craft 5 1 7 8;forbid 0");
        int[] values = {3, 5, 1, 7, 8, 1};
        for (int what = 0; what < 6; what++) {
            due("deed(0, " + what + ")", x.deed(0, what), values[what]);
        }
        for (int wrong : new int[] {MIN, -1, 6, 7, 32, MAX}) {
            due("outside", x.deed(0, wrong), OUTSIDE);
            due("unknown ahead of outside", x.deed(1, wrong), UNKNOWN);
            due("unknown ahead of outside, below", x.deed(-1, wrong), UNKNOWN);
        }
    }

    // ---- who can

    /** Which sets of tools, 0 .. 15, let a house do the deed: eight are tried at once, a house each. */
    private static int setsThatCan(String deed) {
        int sets = 0;
        for (int half = 0; half < 2; half++) {
            MirrorHour x = Check.told("street 8;" + deed);
            for (int house = 0; house < 8; house++) {
                Check.tell(x, "tools " + house + " " + (8 * half + house));
            }
            sets |= x.as(0, 0) << 8 * half;
            for (int house = 0; house < 8; house++) {
                due("set(" + house + ", 0)", x.set(house, 0), (x.as(0, 0) >> house & 1) != 0 ? NONE : NOT);
            }
        }
        return sets;
    }

    private static void plain() {
        Check.sentence("PLAIN: each");
        for (int need = 0; need < 16; need++) {
            due("sets that can " + need, setsThatCan("plain " + need + " 7 0 0"), 0xffff);
        }
    }

    private static void tooled() {
        Check.sentence("TOOLED: one that has all its TOOLS");
        for (int need = 0; need < 16; need++) {
            int due = 0;
            for (int set = 0; set < 16; set++) {
                due |= bit((set & need) == need) << set;
            }
            due("sets that can " + need, setsThatCan("tooled " + need + " 7 0 0"), due);
        }
        due("no tools: each", setsThatCan("tooled 0 7 0 0"), 0xffff);
        due("all tools: who has all", setsThatCan("tooled 15 7 0 0"), 0x8000);
    }

    private static void either() {
        Check.sentence("EITHER: one that has any of them");
        for (int need = 0; need < 16; need++) {
            int due = 0;
            for (int set = 0; set < 16; set++) {
                due |= bit((set & need) != 0) << set;
            }
            due("sets that can " + need, setsThatCan("either " + need + " 7 0 0"), due);
        }
        due("no tools: none", setsThatCan("either 0 7 0 0"), 0);
        due("all tools: who has one", setsThatCan("either 15 7 0 0"), 0xfffe);
    }

    private static void craft() {
        Check.sentence("CRAFT: its OWNER, and one that has all its TOOLS");
        for (int need = 0; need < 16; need++) {
            int due = 1 << 0 | 1 << 8;
            for (int set = 0; set < 16; set++) {
                due |= bit((set & need) == need) << set;
            }
            due("sets that can " + need, setsThatCan("craft " + need + " 0 0 0"), due);
        }
        due("all tools: the owner, who has all", setsThatCan("craft 15 7 0 0"), 0x8080);
    }

    private static void forbidden() {
        Check.sentence("if the DEED is FORBIDDEN, none but its OWNER (if that could else)");
        for (int owner = 0; owner < 8; owner++) {
            for (String kind : KINDS) {
                MirrorHour x = Check.told("street 8;tools 0 1;tools 1 2;tools 2 3;tools 7 3;" + kind + " 3 " + owner
                        + " 0 0;" + kind + " 0 " + owner + " 0 0");
                int could = x.as(0, 0), couldNone = x.as(1, 0);
                Check.tell(x, "forbid 0;forbid 1");
                due("owner " + owner + " of " + kind, x.as(0, 0), could & 1 << owner);
                due("owner " + owner + " of " + kind + " without tools", x.as(1, 0), couldNone & 1 << owner);
                if (kind.equals("craft") || kind.equals("plain")) {
                    due("the owner of " + kind + ", always", x.as(0, 0), 1 << owner);
                } else if (kind.equals("either")) {
                    due("the owner of either of no tools, never", x.as(1, 0), 0);
                }
                Check.tell(x, "allow 0;allow 1");
                due("allowed again", x.as(0, 0), could);
            }
        }
        MirrorHour x = Check.told("street 2;plain 0 0 0 0;plain 0 1 0 0;plain 0 1 0 0;forbid 1");
        due("the deed ahead", x.as(0, 0), 3);
        due("the deed", x.as(1, 0), 2);
        due("the deed behind", x.as(2, 0), 3);
    }

    private static void kindsOverOneAnother() {
        Check.sentence("DEED (0); PLAIN (1) is a DEED; TOOLED (2) is a DEED; EITHER (3) is TOOLED; "
                + "CRAFT (4) is TOOLED");
        MirrorHour x = Check.told("street 2;tools 0 2;plain 2 1 0 0;tooled 2 1 0 0;either 2 1 0 0;craft 2 1 0 0");
        int[][] due = {{3, 3, NOT, NOT, NOT}, {1, NOT, 1, NOT, NOT}, {1, NOT, 1, 1, NOT}, {3, NOT, 3, NOT, 3}};
        for (int deed = 0; deed < 4; deed++) {
            for (int kind = 0; kind <= 4; kind++) {
                due("as(" + deed + ", " + kind + ")", x.as(deed, kind), due[deed][kind]);
            }
            for (int wrong : new int[] {MIN, -1, 5, 6, 32, MAX}) {
                due("as(" + deed + ", " + wrong + ")", x.as(deed, wrong), OUTSIDE);
            }
        }
        for (int wrong : new int[] {MIN, -1, 4, 5, 6, MAX}) {
            due("unknown ahead of outside", x.as(wrong, 5), UNKNOWN);
            due("unknown ahead of outside, below", x.as(wrong, -1), UNKNOWN);
            due("unknown ahead of not", x.as(wrong, 1), UNKNOWN);
        }
        Check.tell(x, "tools 0 0");
        due("none can", x.as(1, 2), 0);
        due("none can: none such", x.as(1, 1), NOT);
    }

    // ---- days

    private static void setNothing() {
        Check.sentence("A HOUSE DOES a DEED (NONE: nothing) today: what it did");
        MirrorHour x = Check.told("street 8;plain 0 0 0 0;plain 0 0 0 0;plain 0 0 0 0;plain 0 0 0 0;plain 0 0 0 0;"
                + "plain 0 0 0 0");
        due("nothing in place of nothing", x.set(7, NONE), NONE);
        due("the last deed", x.set(7, 5), NONE);
        due("the first deed", x.set(7, 0), 5);
        due("the same", x.set(7, 0), 0);
        due("nothing", x.set(7, NONE), 0);
        due("nothing again", x.set(7, NONE), NONE);
        for (int wrong : new int[] {MIN, -2, -3, 6, 7, MAX}) {
            due("no deed " + wrong, x.set(7, wrong), UNKNOWN);
        }
        for (int wrong : new int[] {MIN, -2, -1, 8, MAX}) {
            due("no house " + wrong, x.set(wrong, 0), UNKNOWN);
            due("no house " + wrong + ", nothing", x.set(wrong, NONE), UNKNOWN);
        }
        due("others do nothing", x.again(0), 0);
    }

    private static void setWhatItCan() {
        Check.sentence("set: NOT: it can not");
        MirrorHour x = Check.told("street 3;tools 1 7;tools 2 15;tooled 15 0 0 0;either 15 0 0 0;craft 15 0 0 0",
                "either 0 0 0 0;tooled 0 0 0 0;plain 15 2 0 0");
        int[][] able = {{0, 0, 1, 0, 1, 1}, {0, 1, 0, 0, 1, 1}, {1, 1, 1, 0, 1, 1}};
        for (int house = 0; house < 3; house++) {
            for (int deed = 0; deed < 6; deed++) {
                x.set(house, NONE);
                due("set(" + house + ", " + deed + ")", x.set(house, deed), able[house][deed] == 1 ? NONE : NOT);
                due("it does", x.house(house, 2), able[house][deed] == 1 ? deed : NONE);
            }
        }
        Check.tell(x, "forbid 5");
        due("it does it still", x.house(1, 2), 5);
        due("not again", x.set(1, 5), NOT);
        due("behind what is refused it does it still", x.house(1, 2), 5);
        due("its owner may", x.set(2, 5), 5);
        due("nothing may always", x.set(1, NONE), 5);
    }

    private static void nextDayAtOnce() {
        Check.sentence("On the next DAY each HOUSE DOES what the one ACROSS DID, all at once");
        MirrorHour x = Check.told("street 8;across 0 1;across 1 2;across 2 3;across 3 4;across 4 5;"
                + "across 5 6;across 6 7",
                "across 7 0;plain 0 0 0 0;plain 0 0 0 0;plain 0 0 0 0;plain 0 0 0 0;plain 0 0 0 0;plain 0 0 0 0",
                "does 0 0;does 1 1;does 2 2;does 3 3;does 4 4;does 5 5");
        int[] does = {0, 1, 2, 3, 4, 5, NONE, NONE};
        for (int day = 1; day <= 9; day++) {
            due("go", x.go(1), day);
            for (int house = 0; house < 8; house++) {
                due("on day " + day + " house " + house, x.house(house, 2), does[(house + day) % 8]);
            }
        }
        x = Check.told("street 2;across 0 1;across 1 0;plain 0 0 0 0;plain 0 0 0 0;does 0 0;does 1 1");
        x.go(1);
        due("0 and 1 in turn", x.house(0, 2) * 10 + x.house(1, 2), 10);
        x = Check.told("street 2;across 0 0;across 1 0;plain 0 0 0 0;plain 0 0 0 0;does 0 0;does 1 1");
        x.go(99);
        due("itself for ever", x.house(0, 2), 0);
        due("who looks at it", x.house(1, 2), 0);
    }

    private static void nextDayIfItCan() {
        Check.sentence("if it CAN; else .. nothing");
        MirrorHour x = Check.told("street 4;across 0 3;across 1 3;across 2 3;across 3 3;tools 0 15;"
                + "tools 1 14;tools 3 15",
                "tooled 15 0 0 0;either 1 0 0 0;craft 15 2 0 0;plain 0 3 0 0;forbid 3");
        int[][] able = {{1, 0, 0, 1}, {1, 0, 0, 1}, {1, 0, 1, 1}, {0, 0, 0, 1}};
        for (int deed = 0; deed < 4; deed++) {
            x.set(0, NONE);
            x.set(3, deed);
            x.go(1);
            for (int house = 0; house < 4; house++) {
                due("house " + house + " does " + deed, x.house(house, 2), able[deed][house] == 1 ? deed : NONE);
            }
        }
        due("forbidden: its owner goes on", x.house(3, 2), 3);
        Check.tell(x, "tools 3 0");
        x.set(3, 1);
        due("it can not", x.house(3, 2), 3);
        Check.tell(x, "tools 3 1;does 3 1;tools 3 0");
        due("it does what it can not now", x.house(3, 2), 1);
        x.go(1);
        due("others mirror it", x.house(0, 2), 1);
        due("it does so no more itself", x.house(3, 2), NONE);
    }

    private static void nextDayAtGaps() {
        Check.sentence("and at a GAP, nothing");
        MirrorHour x = Check.told("street 3;across 1 0;plain 0 0 0 0;does 0 0;does 2 0");
        x.go(1);
        due("a gap", x.house(0, 2), NONE);
        due("who looks at it does what it did", x.house(1, 2), 0);
        due("a gap that none looks at", x.house(2, 2), NONE);
        x.go(1);
        due("then nothing", x.house(1, 2), NONE);
    }

    private static void daysAtOnce() {
        Check.sentence("n DAYS (1 .. 99) go: how many have gone in all");
        MirrorHour x = new MirrorHour();
        for (int wrong : new int[] {MIN, -99, -1, 0, 100, 101, 9999, MAX}) {
            due("go " + wrong, x.go(wrong), OUTSIDE);
            due("days", x.count(2), 0);
        }
        due("go 1", x.go(1), 1);
        due("go 99", x.go(99), 100);
        due("go 98", x.go(98), 198);
        due("days", x.count(2), 198);
        MirrorHour one = Check.told("street 3;across 0 1;across 1 2;across 2 0;plain 0 0 0 0;does 0 0"), many =
                Check.told("street 3;across 0 1;across 1 2;across 2 0;plain 0 0 0 0;does 0 0");
        for (int day = 1; day <= 99; day++) {
            one.go(1);
        }
        many.go(99);
        for (int house = 0; house < 3; house++) {
            due("does " + house, one.house(house, 2), many.house(house, 2));
            due("did " + house, one.house(house, 3), 33);
            due("did at once " + house, many.house(house, 3), 33);
        }
    }

    private static void lastDay() {
        Check.sentence("go: FULL: above 9999 in all");
        for (int rest = 0; rest <= 2; rest++) {
            MirrorHour x = Check.told("street 3;across 0 1;across 1 0;across 2 2;plain 0 0 0 0;does 0 0;does 2 0");
            for (int days = 99; days <= 9900; days += 99) {
                due("go 99", x.go(99), days);
            }
            due("go to the rest", x.go(99 - rest), 9999 - rest);
            for (int n = rest + 1; n <= 99; n += 32) {
                due("go " + n, x.go(n), FULL);
            }
            due("go 99", x.go(99), FULL);
            due("outside ahead of full", x.go(100), OUTSIDE);
            due("outside ahead of full, most", x.go(MAX), OUTSIDE);
            due("outside ahead of full, none", x.go(0), OUTSIDE);
            due("days", x.count(2), 9999 - rest);
            due("does", x.house(0, 2), rest == 1 ? 0 : NONE);
            due("does", x.house(1, 2), rest == 1 ? NONE : 0);
            due("did", x.house(2, 3), 9999 - rest);
            if (rest > 0) {
                due("the last days", x.go(rest), 9999);
            }
            due("did in all", x.house(2, 3), 9999);
            due("did on every second day", x.house(0, 3), 5000);
            due("and on the others", x.house(1, 3), 4999);
            due("none more", x.go(1), FULL);
            due("foretold none the less", x.later(1, 99), NONE);
            due("foretold", x.later(0, 99), 0);
            due("sums, too", x.sum(99, 0), 0);
            due("keep", x.keep(0), 9999);
            due("back", x.back(0), 9999);
            due("still none more", x.go(1), FULL);
            Check.tell(x, "gap 0");
            due("behind a text days go again", x.go(99), 99);
        }
    }

    private static void daysOnWhichItDid() {
        Check.sentence("on how many DAYS that have gone it DID something");
        MirrorHour x = Check.told("street 3;across 0 0;plain 0 0 0 0;does 0 0;does 1 0");
        due("today has not gone: 0", x.house(0, 3), 0);
        x.set(1, NONE);
        x.set(1, 0);
        due("set is no day", x.house(1, 3), 0);
        x.go(1);
        int[] did = {1, 1, 0};
        for (int house = 0; house < 3; house++) {
            due("did " + house, x.house(house, 3), did[house]);
        }
        x.set(2, 0);
        x.go(2);
        int[] then = {3, 1, 1};
        for (int house = 0; house < 3; house++) {
            due("did " + house, x.house(house, 3), then[house]);
        }
        due("foretold days have not gone", x.later(0, 99), 0);
        due("did", x.house(0, 3), 3);
    }

    // ---- the object

    private static void lastCall() {
        Check.sentence("An object is used for at most 512 calls after it has been made");
        MirrorHour x = new MirrorHour();
        String text = "street 3;across 0 1;across 1 2;across 2 0;plain 0 1 3 2;does 0 0;does 2 0";
        Check.tell(x, text);
        // Told by erase, count, 10 writes and street.
        int calls = 3 + (text.length() + 7) / 8;
        for (int day = 1; calls + 7 <= 512; day++) {
            due("go " + day, x.go(1), day);
            due("later", x.later(day % 3, 3), x.house(day % 3, 2));
            due("keep", x.keep(day % 2), day);
            due("back", x.back(day % 2), day);
            due("sum", x.sum(3, 0), 18);
            due("days", x.count(2), day);
            calls += 7;
        }
        for (; calls < 512; calls++) {
            due("a late call", x.ways(), 8);
        }
    }

    private static void objectsApart() {
        Check.sentence("A new object, beside others");
        MirrorHour x = Check.told("street 8;across 0 0;plain 0 0 0 0;does 0 0;like 0 1 9;tools 1 15;forbid 0");
        x.go(5);
        x.keep(0);
        x.wish(0, 0, 0);
        x.seen(0, 0, 0);
        Check.write(x, "gap 0");
        MirrorHour y = new MirrorHour();
        int[] counts = {2, 0, 0, 0, 0, 0}, old = {8, 1, 5, 1, 1, 5};
        for (int what = 0; what < 6; what++) {
            due("count(" + what + ") of the new one", y.count(what), counts[what]);
        }
        due("nothing is kept in the new one", y.back(0), NOT);
        due("nobody likes in the new one", y.pair(NONE), 0);
        Check.tell(y, "street 3;either 1 1 1 1;tools 0 1;does 0 0");
        y.go(9);
        y.keep(0);
        for (int what = 0; what < 6; what++) {
            due("count(" + what + ") of the old one", x.count(what), old[what]);
        }
        due("the old one's deed", x.deed(0, 0), 0);
        due("the old one's days", x.back(0), 5);
        due("the old one's text", x.fault(), NONE);
        due("the old one likes", x.pair(NONE), 9);
    }
}
