/** Each promise of the document by itself: ordinary inputs, the edges that it names, and wrong inputs. */
final class PromiseTest {
    private static final int NONE = -1, UNKNOWN = -2, OUTSIDE = -3, NOT = -4, FULL = -5;
    private static final int MIN = Integer.MIN_VALUE, MAX = Integer.MAX_VALUE;

    /** Houses 0, 1, 2 are a round; 3 looks at 2, 4 at 3; 5 is a gap. */
    private static final String HOUSES = "street 6;across 0 1;across 1 2;across 2 0;across 3 2;across 4 3;"
            + "tools 0 3;tools 1 1;tools 2 2;tools 3 3";
    /** All can 0; 0, 1 and 3 can 1; 0 to 3 can 2; 0, 3 and 4 can 3. */
    private static final String DEEDS = "plain 0 1 3 2;tooled 1 2 5 1;either 3 0 7 4;craft 3 4 9 6";

    public static void main(String[] args) {
        constants();
        newObject();
        writes();
        erases();
        faultsOfShape();
        faultsOfWords();
        faultsOfNumbers();
        faultsByLinesAhead();
        streets();
        streetLines();
        streetKeepsWhatWasTold();
        houses();
        deeds();
        kinds();
        sets();
        goes();
        laters();
        agains();
        firsts();
        lacks();
        wishes();
        ways();
        sums();
        councils();
        idles();
        odds();
        pairs();
        towns();
        sights();
        fits();
        keeps();
        backs();
        counts();
        Check.end();
    }

    private static void due(String call, long got, long want) {
        Check.due(call, got, want);
    }

    private static MirrorHour town() {
        return Check.told(HOUSES, DEEDS);
    }

    private static void constants() {
        due("NONE", MirrorHour.NONE, -1);
        due("UNKNOWN", MirrorHour.UNKNOWN, -2);
        due("OUTSIDE", MirrorHour.OUTSIDE, -3);
        due("NOT", MirrorHour.NOT, -4);
        due("FULL", MirrorHour.FULL, -5);
    }

    private static void newObject() {
        MirrorHour x = new MirrorHour();
        due("new: houses", x.count(0), 2);
        for (int what = 1; what <= 5; what++) {
            due("new: count " + what, x.count(what), 0);
        }
        for (int house = 0; house < 2; house++) {
            due("new: across", x.house(house, 0), NONE);
            due("new: tools", x.house(house, 1), 0);
            due("new: does", x.house(house, 2), NONE);
            due("new: did", x.house(house, 3), 0);
        }
        due("new: house 2", x.house(2, 0), UNKNOWN);
        due("new: deed 0", x.deed(0, 0), UNKNOWN);
        due("new: liking", x.pair(NONE), 0);
        due("new: fault", x.fault(), 0);
        due("new: back", x.back(0), NOT);
        due("new: town", x.town(2), 3);
    }

    private static void writes() {
        MirrorHour x = new MirrorHour();
        due("write 0", x.write(0, 0), OUTSIDE);
        due("write 9", x.write(0, 9), OUTSIDE);
        due("write less", x.write(0, -1), OUTSIDE);
        due("write least", x.write(0, MIN), OUTSIDE);
        due("write most", x.write(0, MAX), OUTSIDE);
        due("write 1", x.write(Check.packed("idle"), 1), 1);
        due("write 7 more", x.write(Check.packed("dle 0  "), 7), 8);
        due("written text", x.fault(), NONE);
        due("written lines", x.street(), 1);
        for (int i = 1; i <= 24; i++) {
            due("write to " + 8 * i, x.write(-1L, 8), 8 * i);
        }
        due("write 3 to 195", x.write(0, 3), 195);
        due("write 6 over 200", x.write(0, 6), FULL);
        due("count is as it was", x.count(5), 195);
        due("write 5 to 200", x.write(0, 5), 200);
        due("write 1 over 200", x.write(0, 1), FULL);
        due("outside ahead of full", x.write(0, 0), OUTSIDE);
        due("outside ahead of full above", x.write(0, 9), OUTSIDE);
        due("still 200", x.count(5), 200);
        due("byte 255 stands nowhere", x.fault(), 0);
        x.erase();
        x.write(Check.packed("idle 0") | 0xffL << 48 | 0x7fL << 56, 6);
        due("bytes behind n are left", x.fault(), NONE);
        x.write(0xffL, 1);
        due("the byte behind is 255", x.fault(), 6);
    }

    private static void erases() {
        MirrorHour x = new MirrorHour();
        due("erase nothing", x.erase(), 0);
        Check.write(x, "idle 0;idle");
        due("erase 11", x.erase(), 11);
        due("erased", x.count(5), 0);
        due("erase again", x.erase(), 0);
        due("an erased text ends too soon", x.fault(), 0);
        Check.write(x, "gap 1");
        due("a text behind an erased one", x.fault(), NONE);
    }

    private static void fault(MirrorHour x, String text, int place) {
        Check.fault(x, text, place);
    }

    private static void faultsOfShape() {
        MirrorHour x = town();
        fault(x, "", 0);
        fault(x, "   ", 3);
        fault(x, ";", 0);
        fault(x, "  ;", 2);
        fault(x, "idle 0;", 7);
        fault(x, "idle 0 ; ", 9);
        fault(x, "idle 0;;idle 0", 7);
        fault(x, "idle 0 idle 1", 7);
        fault(x, "idle 0 0", 7);
        fault(x, "idle", 4);
        fault(x, "idle ", 5);
        fault(x, "idle;", 4);
        fault(x, "idle idle", 5);
        fault(x, "across 0", 8);
        fault(x, "  idle   0  ;  gap 1   ", NONE);
        fault(x, "idle0;gap1;across0 1;like0 1 5;plain0 0 0 0", NONE);
        fault(x, "idle00;gap01", NONE);
        fault(x, "across01", 8);
        fault(x, "idle\t0", 4);
        fault(x, "idle 0\n", 6);
        fault(x, "idle 0.", 6);
        fault(x, "idle -1", 5);
        fault(x, "idle 0" + (char) 160, 6);
        fault(x, "idle 0" + (char) 0, 6);
        fault(x, "idle 0" + (char) 255, 6);
        fault(x, "idle `", 5);
        fault(x, "idle {", 5);
        fault(x, "idle /", 5);
        fault(x, "idle :", 5);
        fault(x, "idle 0idle 0", 6);
        fault(x, "idle 0x;", 6);
        String nine = "idle 0;idle 0;idle 0;idle 0;idle 0;idle 0;idle 0;idle 0;idle 0;";
        fault(x, nine + "idle 0", NONE);
        fault(x, nine + "idle 0 ", NONE);
        fault(x, nine + "idle 0;", 69);
        fault(x, nine + "idle 0 ;idle 0", 70);
        fault(x, nine + "idle 9;idle 0", 68);
    }

    private static void faultsOfWords() {
        MirrorHour x = town();
        fault(x, "mirror", 0);
        fault(x, " Idle 0", 1);
        fault(x, "iDle 0", 0);
        fault(x, "idl 0", 0);
        fault(x, "idles 0", 0);
        fault(x, "idleidle 0", 0);
        fault(x, "0", 0);
        fault(x, "idle 0; zz 1", 8);
        for (String line : new String[] {"street 3", "across 0 1", "gap 0", "tools 0 1", "plain 0 0 0 0",
                "tooled 0 0 0 0", "either 0 0 0 0", "craft 0 0 0 0", "does 0 0", "idle 0", "like 0 1 0", "forbid 0",
                "allow 0"}) {
            fault(x, line, NONE);
            fault(x, line + " 0", line.length() + 1);
            fault(x, line.substring(0, line.lastIndexOf(' ') + 1), line.lastIndexOf(' ') + 1);
            fault(x, "x" + line, 0);
            fault(x, line.substring(1), 0);
        }
    }

    private static void faultsOfNumbers() {
        MirrorHour x = town();
        fault(x, "street 1", 7);
        fault(x, "street 2", NONE);
        fault(x, "street 8", NONE);
        fault(x, "street 9", 7);
        fault(x, "street 0", 7);
        fault(x, "street 08", NONE);
        fault(x, "street 008", 7);
        fault(x, "street 80", 7);
        fault(x, "street 99999999999999999999", 7);
        fault(x, "street 4294967298", 7);
        fault(x, "across 5 5", NONE);
        fault(x, "across 6 5", 7);
        fault(x, "across 5 6", 9);
        fault(x, "gap 5", NONE);
        fault(x, "gap 6", 4);
        fault(x, "tools 5 15", NONE);
        fault(x, "tools 6 15", 6);
        fault(x, "tools 5 16", 8);
        fault(x, "tools 5 015", 8);
        for (String word : new String[] {"plain", "tooled", "either", "craft"}) {
            int at = word.length() + 1;
            fault(x, word + " 15 5 9 9", NONE);
            fault(x, word + " 16 5 9 9", at);
            fault(x, word + " 15 6 9 9", at + 3);
            fault(x, word + " 15 5 10 9", at + 5);
            fault(x, word + " 15 5 9 10", at + 7);
            fault(x, word + " 15 5 9", at + 6);
        }
        fault(x, "does 5 3", NONE);
        fault(x, "does 6 3", 5);
        fault(x, "does 5 4", 7);
        fault(x, "idle 5", NONE);
        fault(x, "idle 6", 5);
        fault(x, "like 5 4 9", NONE);
        fault(x, "like 6 4 9", 5);
        fault(x, "like 5 6 9", 7);
        fault(x, "like 5 4 10", 9);
        fault(x, "like 4 4 9", 7);
        fault(x, "like 4 04 9", 7);
        fault(x, "forbid 3", NONE);
        fault(x, "forbid 4", 7);
        fault(x, "allow 3", NONE);
        fault(x, "allow 4", 6);
    }

    private static void faultsByLinesAhead() {
        MirrorHour x = new MirrorHour();
        fault(x, "gap 2", 4);
        fault(x, "street 3;gap 2", NONE);
        fault(x, "gap 2;street 3", 4);
        fault(x, "street 8;street 2;gap 2", 22);
        fault(x, "does 0 0", 7);
        fault(x, "plain 0 0 0 0;does 0 0", NONE);
        fault(x, "does 0 0;plain 0 0 0 0", 7);
        fault(x, "plain 0 0 0 0;does 0 1", 21);
        fault(x, "plain 0 0 0 0;street 2;does 0 0", 30);
        fault(x, "plain 0 0 0 0;street 2;forbid 0", 30);
        fault(x, "plain 0 0 0 0;plain 0 0 0 0;forbid 1", NONE);
        String line = "plain 0 0 0 0;";
        fault(x, line + line + line + line + line + "craft 0 0 0 0", NONE);
        fault(x, line + line + line + line + line + line + " either 0 0 0 0", 85);
        fault(x, line + line + line + line + line + line + "street 2;tooled 0 0 0 0", NONE);
        due("faults change nothing", x.count(0) * 10 + x.count(1), 20);
        Check.tell(x, line + line + line + "plain 0 0 0 0");
        fault(x, line + "tooled 0 0 0 0", NONE);
        fault(x, line + line + "craft 0 0 0 0", 28);
        fault(x, line + line + "street 9", 35);
    }

    private static void streets() {
        MirrorHour x = new MirrorHour();
        due("street of no text", x.street(), NOT);
        due("one line", Check.tell(x, "gap 0"), 1);
        due("the text is empty then", x.count(5), 0);
        due("ten lines", Check.tell(x, "idle 0;idle 0;idle 0;idle 0;idle 0;idle 0;idle 0;idle 0;idle 0;idle 0"), 10);
        due("a fault in the last line", Check.tell(x, "across 0 1;across 1 0;gap 2"), NOT);
        due("nothing is done then", x.house(0, 0), NONE);
        due("the text stays then", x.count(5), 27);
        x = town();
        x.set(0, 0);
        x.set(3, 2);
        x.go(5);
        x.wish(0, 0, 0);
        x.seen(0, 0, 0);
        x.keep(0);
        x.keep(1);
        Check.tell(x, "gap 9");
        due("days stay at a fault", x.count(2), 5);
        due("wishes stay at a fault", x.count(3), 1);
        due("seen stays at a fault", x.count(4), 1);
        due("what is kept stays at a fault", x.back(1), 5);
        int does = x.house(1, 2), did = x.house(1, 3);
        due("someone does something", does, 0);
        due("someone did something", did, 1);
        Check.tell(x, "gap 5");
        due("houses do what they did", x.house(1, 2), 0);
        due("no days", x.count(2), 0);
        due("no days on which they did something", x.house(1, 3), 0);
        due("no wishes", x.count(3), 0);
        due("nothing seen", x.count(4), 0);
        due("nothing kept at 0", x.back(0), NOT);
        due("nothing kept at 1", x.back(1), NOT);
    }

    private static void streetLines() {
        MirrorHour x = Check.told("street 3;across 0 1;across 1 1;across 0 2;gap 1;tools 2 9;tools 0 15;tools 0 4");
        due("across told twice", x.house(0, 0), 2);
        due("a gap again", x.house(1, 0), NONE);
        due("tools", x.house(2, 1), 9);
        due("tools are as told last", x.house(0, 1), 4);
        Check.tell(x, "plain 0 0 1 1;forbid 0;allow 0;either 2 1 1 1;forbid 1;forbid 1");
        due("allowed again", x.deed(0, 5), 0);
        due("forbidden twice", x.deed(1, 5), 1);
        Check.tell(x, "tooled 4 1 2 3;does 0 2;does 1 2;does 2 0;idle 2");
        due("does what it can", x.house(0, 2), 2);
        due("does not what it can not", x.house(1, 2), NONE);
        due("idle", x.house(2, 2), NONE);
        Check.tell(x, "does 0 1");
        due("does nothing then", x.house(0, 2), NONE);
        Check.tell(x, "does 1 2;tools 1 4");
        due("tools told behind do not help", x.house(1, 2), NONE);
        Check.tell(x, "tools 2 4;does 2 2;tools 2 0");
        due("tools told ahead help", x.house(2, 2), 2);
        due("tools that are gone take nothing back today", x.later(2, 0), 2);
        Check.tell(x, "forbid 0;does 1 0;does 0 0;allow 0");
        due("forbidden ahead", x.house(1, 2), NONE);
        due("not for its owner", x.house(0, 2), 0);
        Check.tell(x, "does 1 0;forbid 0");
        due("forbidden behind", x.house(1, 2), 0);
        Check.tell(x, "like 0 1 3;like 1 0 7;like 1 2 5");
        due("liking is of two, as told last", x.pair(NONE), 7);
        Check.tell(x, "like 2 1 8");
        due("liking told the other way", x.pair(NONE), 8);
    }

    private static void streetKeepsWhatWasTold() {
        MirrorHour x = Check.told(HOUSES, DEEDS, "like 0 1 9;does 0 3;forbid 1;does 1 0");
        due("deeds stay", x.count(1), 4);
        due("houses stay", x.count(0), 6);
        due("across stays", x.house(4, 0), 3);
        due("tools stay", x.house(2, 1), 2);
        Check.tell(x, "idle 1");
        due("what is done stays", x.house(0, 2), 3);
        due("what is told otherwise does not", x.house(1, 2), NONE);
        due("what is forbidden stays", x.deed(1, 5), 1);
        due("liking stays", x.pair(NONE), 9);
        Check.tell(x, "street 6");
        due("a new street: deeds", x.count(1), 0);
        due("a new street: across", x.house(4, 0), NONE);
        due("a new street: tools", x.house(0, 1), 0);
        due("a new street: does", x.house(0, 2), NONE);
        due("a new street: liking", x.pair(NONE), 0);
        Check.tell(x, "plain 0 0 0 0;plain 0 0 0 0");
        due("a new street: forbidden", x.deed(1, 5), 0);
        Check.tell(x, "does 5 1;street 8;idle 7");
        due("more houses", x.count(0), 8);
        due("the old do nothing", x.house(5, 2), NONE);
        due("the new do nothing", x.house(7, 2), NONE);
        due("the new are gaps", x.house(7, 0), NONE);
    }

    private static void houses() {
        MirrorHour x = town();
        due("set", x.set(0, 3), NONE);
        int[] across = {1, 2, 0, 2, 3, NONE}, tools = {3, 1, 2, 3, 0, 0};
        for (int house = 0; house < 6; house++) {
            due("across " + house, x.house(house, 0), across[house]);
            due("tools " + house, x.house(house, 1), tools[house]);
            due("does " + house, x.house(house, 2), house == 0 ? 3 : NONE);
            due("did " + house, x.house(house, 3), 0);
        }
        x.go(1);
        due("did today that has gone", x.house(0, 3), 1);
        due("what is across 2 can not go on", x.house(2, 2), NONE);
        for (int house : new int[] {-1, 6, MIN, MAX}) {
            due("no house " + house, x.house(house, 0), UNKNOWN);
            due("unknown first", x.house(house, 9), UNKNOWN);
        }
        for (int what : new int[] {-1, 4, MIN, MAX}) {
            due("no such what " + what, x.house(0, what), OUTSIDE);
        }
    }

    private static void deeds() {
        MirrorHour x = Check.told(HOUSES, DEEDS, "forbid 2");
        int[][] told = {{0, 0, 1, 3, 2, 0}, {1, 1, 2, 5, 1, 0}, {2, 3, 0, 7, 4, 1}, {3, 3, 4, 9, 6, 0}};
        for (int deed = 0; deed < 4; deed++) {
            for (int what = 0; what < 6; what++) {
                due("deed(" + deed + ", " + what + ")", x.deed(deed, what), told[deed][what]);
            }
        }
        for (int deed : new int[] {-1, 4, MIN, MAX}) {
            due("no deed " + deed, x.deed(deed, 0), UNKNOWN);
            due("unknown first", x.deed(deed, 6), UNKNOWN);
        }
        for (int what : new int[] {-1, 6, MIN, MAX}) {
            due("no such what " + what, x.deed(0, what), OUTSIDE);
        }
    }

    private static void kinds() {
        MirrorHour x = town();
        int[][] due = {{63, 63, NOT, NOT, NOT}, {11, NOT, 11, NOT, NOT}, {15, NOT, 15, 15, NOT},
            {25, NOT, 25, NOT, 25}};
        for (int deed = 0; deed < 4; deed++) {
            for (int kind = 0; kind < 5; kind++) {
                due("as(" + deed + ", " + kind + ")", x.as(deed, kind), due[deed][kind]);
            }
        }
        for (int wrong : new int[] {-1, 5, MIN, MAX}) {
            due("no deed " + wrong, x.as(wrong, 9), UNKNOWN);
            due("no kind " + wrong, x.as(0, wrong), OUTSIDE);
        }
        due("deed 4", x.as(4, 0), UNKNOWN);
        Check.tell(x, "forbid 0;forbid 1;forbid 2;forbid 3");
        due("forbidden plain: its owner", x.as(0, 1), 2);
        due("forbidden tooled: its owner could not", x.as(1, 2), 0);
        due("forbidden either: its owner", x.as(2, 3), 1);
        due("forbidden craft: its owner", x.as(3, 4), 16);
        Check.tell(x, "tools 2 3;tools 0 0");
        due("forbidden tooled: its owner can now", x.as(1, 0), 4);
        due("forbidden either: its owner can not now", x.as(2, 0), 0);
        Check.tell(x, "allow 1;allow 3;either 0 0 0 0;tooled 0 0 0 0");
        due("all tools", x.as(1, 2), 14);
        due("the owner of a craft needs none", x.as(3, 2), 28);
        due("any of no tools: nobody", x.as(4, 3), 0);
        due("all of no tools: each", x.as(5, 2), 63);
    }

    private static void sets() {
        MirrorHour x = town();
        due("set nothing", x.set(5, NONE), NONE);
        due("set 0", x.set(5, 0), NONE);
        due("it does it", x.house(5, 2), 0);
        due("set what it can not", x.set(5, 1), NOT);
        due("nothing changed", x.house(5, 2), 0);
        due("set nothing again", x.set(5, NONE), 0);
        due("set 3 by a craft's owner", x.set(4, 3), NONE);
        due("set 3 by tools", x.set(3, 3), NONE);
        due("set 3 by neither", x.set(2, 3), NOT);
        due("set another", x.set(3, 1), 3);
        for (int wrong : new int[] {6, -2, MIN, MAX}) {
            due("no house", x.set(wrong, 0), UNKNOWN);
            due("no deed", x.set(0, wrong), UNKNOWN);
        }
        due("no house -1", x.set(-1, NONE), UNKNOWN);
        due("no deed 4", x.set(0, 4), UNKNOWN);
        Check.tell(x, "forbid 0");
        due("forbidden", x.set(5, 0), NOT);
        due("not for its owner", x.set(1, 0), NONE);
    }

    private static void goes() {
        MirrorHour x = town();
        due("a day", x.go(1), 1);
        for (int wrong : new int[] {0, -1, 100, MIN, MAX}) {
            due("go " + wrong, x.go(wrong), OUTSIDE);
        }
        x.set(3, 2);
        x.set(0, 0);
        due("two days", x.go(1), 2);
        int[] does = {NONE, NONE, 0, NONE, NONE, NONE};
        for (int house = 0; house < 6; house++) {
            due("does " + house, x.house(house, 2), does[house]);
        }
        due("five days", x.go(3), 5);
        int[] later = {NONE, NONE, 0, NONE, NONE, NONE}, did = {2, 1, 1, 2, 1, 0};
        for (int house = 0; house < 6; house++) {
            due("does " + house, x.house(house, 2), later[house]);
            due("did " + house, x.house(house, 3), did[house]);
        }
        for (int days = 104; days < 9999; days += 99) {
            due("99 days", x.go(99), days);
        }
        due("9905 days", x.count(2), 9905);
        due("95 more are too many", x.go(95), FULL);
        due("outside ahead of full", x.go(100), OUTSIDE);
        due("94 more are not", x.go(94), 9999);
        due("one more is", x.go(1), FULL);
        due("none more is outside", x.go(0), OUTSIDE);
        due("days are as they were", x.count(2), 9999);
        due("house 5 did nothing ever", x.house(5, 3), 0);
    }

    private static void laters() {
        MirrorHour x = town();
        x.set(0, 0);
        x.set(2, 2);
        x.set(5, 0);
        int[][] does = {{0, NONE, 2, NONE, NONE, 0}, {NONE, 2, 0, 2, NONE, NONE}, {2, 0, NONE, 0, NONE, NONE},
            {0, NONE, 2, NONE, 0, NONE}, {NONE, 2, 0, 2, NONE, NONE}};
        for (int t = 0; t < does.length; t++) {
            for (int house = 0; house < 6; house++) {
                due("later(" + house + ", " + t + ")", x.later(house, t), does[t][house]);
            }
        }
        due("later 99", x.later(0, 99), 0);
        due("later 98", x.later(0, 98), 2);
        for (int wrong : new int[] {-1, 100, MIN, MAX}) {
            due("later in " + wrong, x.later(0, wrong), OUTSIDE);
            due("later of " + wrong, x.later(wrong, 0), UNKNOWN);
            due("unknown first", x.later(wrong, 100), UNKNOWN);
        }
        due("later of 6", x.later(6, 0), UNKNOWN);
        due("nothing changes", x.count(2) * 10 + x.house(2, 2), 2);
    }

    private static void agains() {
        MirrorHour x = town();
        due("nothing is done", x.again(0), 0);
        due("nothing is done the next day", x.again(1), 1);
        x.set(0, 0);
        due("3 follows, then 4, with the round", x.again(0), 1);
        due("a round of 3", x.again(1), 3);
        x.set(1, 0);
        x.set(2, 0);
        due("all the same, until 4 does it too", x.again(0), 2);
        due("each day then", x.again(1), 1);
        x.set(3, 0);
        x.set(4, 0);
        due("at once", x.again(0), 0);
        x.set(5, 0);
        due("5 does it today alone", x.again(0), 1);
        for (int wrong : new int[] {-1, 2, MIN, MAX}) {
            due("again " + wrong, x.again(wrong), OUTSIDE);
        }
        x = Check.told("street 8;across 0 1;across 1 2;across 2 0;across 3 4;across 4 5;across 5 6;"
                + "across 6 7;across 7 3",
                "plain 0 0 0 0;does 0 0;does 3 0");
        due("rounds of 3 and 5: at once", x.again(0), 0);
        due("rounds of 3 and 5: 15", x.again(1), 15);
        x = Check.told("street 8;across 0 1;across 1 2;across 2 3;across 3 4;across 4 5;across 5 6;across 6 7",
                "plain 0 0 0 0;does 7 0");
        due("a row of 8", x.again(0), 8);
        due("nothing for good", x.again(1), 1);
        x = Check.told("street 3;across 1 2;across 2 2;plain 0 0 0 0;plain 0 0 0 0;plain 0 0 0 0;plain 0 0 0 0",
                "plain 0 0 0 0;plain 0 0 0 0;does 0 0;does 2 5");
        due("5 in place of 0 and 0 is another", x.again(0), 1);
    }

    private static void firsts() {
        MirrorHour x = town();
        due("itself today", x.first(4, 3, 0), 4);
        due("itself, if it can", x.first(5, 3, 0), NONE);
        due("a step", x.first(4, 3, 1), 3);
        due("the last can not", x.first(4, 3, 2), NONE);
        due("the first can not", x.first(1, 3, 2), NONE);
        due("one between can not", x.first(0, 1, 3), NONE);
        due("all the round", x.first(0, 2, 99), 0);
        due("a day less", x.first(0, 2, 98), 2);
        due("a gap is an end", x.first(5, 0, 0), 5);
        due("none behind a gap", x.first(5, 0, 1), NONE);
        due("the way goes in", x.first(4, 0, 4), 1);
        for (int wrong : new int[] {-1, 6, MIN, MAX}) {
            due("no house", x.first(wrong, 0, 100), UNKNOWN);
            due("no deed", x.first(0, wrong, -1), UNKNOWN);
        }
        due("no deed 4", x.first(0, 4, 0), UNKNOWN);
        for (int wrong : new int[] {-1, 100, MIN, MAX}) {
            due("no days", x.first(0, 0, wrong), OUTSIDE);
        }
        Check.tell(x, "forbid 0;forbid 3");
        due("its owner may", x.first(1, 0, 0), 1);
        due("others may not", x.first(0, 0, 1), NONE);
        due("others may not, of a craft", x.first(4, 3, 1), NONE);
    }

    private static void lacks() {
        MirrorHour x = town();
        due("plain: none", x.lack(4, 0, 9), 0);
        due("none, it has all", x.lack(0, 3, 0), 0);
        due("one of two", x.lack(1, 3, 0), 1);
        due("two of two", x.lack(5, 3, 0), 2);
        due("a craft's owner lacks none", x.lack(4, 3, 1), 0);
        due("first and last count", x.lack(1, 3, 1), 2);
        due("all the round", x.lack(1, 3, 2), 2);
        due("those that come again count once", x.lack(1, 3, 99), 2);
        due("tooled: the owner needs tools, too", x.lack(2, 1, 0), 1);
        due("tooled: along the way", x.lack(4, 1, 9), 2);
        due("either: one", x.lack(4, 2, 9), 1);
        due("either: some is enough", x.lack(1, 2, 9), 0);
        due("either: a gap with none", x.lack(5, 2, 0), 1);
        due("no such way", x.lack(5, 2, 1), NONE);
        due("no such way of a plain one", x.lack(5, 0, 1), NONE);
        for (int wrong : new int[] {-1, 6, MIN, MAX}) {
            due("no house", x.lack(wrong, 0, 100), UNKNOWN);
            due("no deed", x.lack(0, wrong, -1), UNKNOWN);
        }
        due("no deed 4", x.lack(0, 4, 0), UNKNOWN);
        for (int wrong : new int[] {-1, 100, MIN, MAX}) {
            due("no days", x.lack(0, 0, wrong), OUTSIDE);
        }
        Check.tell(x, "forbid 3;forbid 2;either 0 0 0 0;plain 15 0 0 0");
        due("forbidden or not", x.lack(1, 3, 99), 2);
        due("forbidden or not, either", x.lack(4, 2, 9), 1);
        due("either of no tools", x.lack(4, 4, 9), 0);
        due("plain with tools told", x.lack(4, 5, 9), 0);
    }

    private static void wishes() {
        MirrorHour x = town();
        for (int wrong : new int[] {-1, 6, MIN, MAX}) {
            due("no house", x.wish(wrong, 0, 100), UNKNOWN);
            due("no deed", x.wish(0, wrong, -1), UNKNOWN);
        }
        for (int wrong : new int[] {-1, 100, MIN, MAX}) {
            due("no days", x.wish(0, 0, wrong), OUTSIDE);
        }
        due("drop none", x.drop(), 0);
        for (int i = 1; i <= 8; i++) {
            due("wish " + i, x.wish(5, 1, 99), i);
        }
        due("a ninth", x.wish(0, 0, 0), FULL);
        due("unknown ahead of full", x.wish(6, 0, 0), UNKNOWN);
        due("outside ahead of full", x.wish(0, 0, 100), OUTSIDE);
        due("eight wishes", x.count(3), 8);
        due("drop eight", x.drop(), 8);
        due("no wishes", x.count(3), 0);
        due("the first again", x.wish(0, 0, 0), 1);
        due("one wish", x.drop(), 1);
        due("none again", x.drop(), 0);
    }

    private static void ways() {
        MirrorHour x = town();
        int all = 5 * 4 * 3 * 5 * 3 * 2;
        due("no wishes", x.ways(), all);
        x.wish(4, 0, 0);
        due("one is bound", x.ways(), all / 3);
        x.wish(4, 0, 1);
        due("two are bound", x.ways(), all / 3 / 5);
        x.wish(3, 0, 0);
        due("a wish that is told another way", x.ways(), all / 3 / 5);
        x.wish(3, 2, 0);
        due("one against another", x.ways(), 0);
        due("drop", x.drop(), 4);
        due("no wishes again", x.ways(), all);
        x.wish(0, 2, 99);
        x.wish(0, 2, 98);
        x.wish(0, 2, 97);
        due("the round is bound", x.ways(), all / 60);
        x.wish(0, 3, 1);
        due("what can not come", x.ways(), 0);
        x.drop();
        x.wish(5, 0, 1);
        due("behind a gap", x.ways(), 0);
        x.drop();
        x.set(0, 0);
        x.wish(0, 0, 1);
        due("from today on", x.ways(), all / 4);
        x.go(1);
        due("from today on, a day later too", x.ways(), all / 4);
        MirrorHour y = Check.told("street 8;plain 0 0 0 0;plain 0 0 0 0;plain 0 0 0 0;plain 0 0 0 0;plain 0 0 0 0;"
                + "plain 0 0 0 0");
        due("most rows", y.ways(), 5764801);
        due("no deeds", new MirrorHour().ways(), 1);
    }

    private static void sums() {
        MirrorHour x = town();
        x.set(0, 0);
        x.set(3, 3);
        x.set(5, 0);
        due("good today", x.sum(1, 0), 15);
        due("harm today", x.sum(1, 1), 10);
        due("good of 2 days", x.sum(2, 0), 15 + 12);
        due("harm of 2 days: its owner does none", x.sum(2, 1), 10 + 2);
        due("good of 3 days", x.sum(3, 0), 15 + 12 + 6);
        due("harm of 3 days: its owner does none", x.sum(3, 1), 10 + 2 + 2);
        // From the day behind on, in rounds of 3: 0 and 4, then 2, then 1 and 3.
        due("good of 99 days", x.sum(99, 0), 33 + 32 * 15);
        due("harm of 99 days", x.sum(99, 1), 14 + 32 * 8);
        for (int wrong : new int[] {0, -1, 100, MIN, MAX}) {
            due("no days", x.sum(wrong, 0), OUTSIDE);
        }
        for (int wrong : new int[] {-1, 2, MIN, MAX}) {
            due("no what", x.sum(1, wrong), OUTSIDE);
        }
        due("nothing changes", x.house(0, 2), 0);
        Check.tell(x, "forbid 0");
        due("today is as it is, though forbidden", x.sum(99, 0), 15 + 9);
        due("nothing is done", new MirrorHour().sum(99, 0), 0);
    }

    private static void councils() {
        MirrorHour x = town();
        x.set(0, 0);
        x.set(3, 3);
        due("all allowed", x.council(3, 14, 0), 0);
        due("good of all allowed", x.council(3, 9999, 1), 12 + 12 + 6);
        // Of 3 days harm is 8 today, then 2 by 2 at deed 0, none by 4 at deed 3, then 2 by 3.
        due("harm of all allowed", x.sum(3, 1), 8 + 2 + 2);
        due("harm enough", x.council(3, 12, 0), 0);
        due("harm not enough", x.council(3, 11, 0), 1);
        due("good then", x.council(3, 11, 1), 12 + 9);
        due("today's harm", x.council(3, 8, 0), 1);
        due("today's harm can not be undone", x.council(3, 7, 0), NONE);
        due("no good then", x.council(3, 7, 1), NONE);
        due("of one day no set matters", x.council(1, 8, 0), 0);
        due("good of today", x.council(1, 8, 1), 12);
        for (int wrong : new int[] {0, -1, 100, MIN, MAX}) {
            due("no days", x.council(wrong, 0, 0), OUTSIDE);
        }
        for (int wrong : new int[] {-1, 10000, MIN, MAX}) {
            due("no harm", x.council(1, wrong, 0), OUTSIDE);
        }
        for (int wrong : new int[] {-1, 2, MIN, MAX}) {
            due("no what", x.council(1, 0, wrong), OUTSIDE);
        }
        Check.tell(x, "forbid 0;forbid 3");
        due("in place of those that are", x.council(3, 9999, 0), 0);
        due("good in place of those that are", x.council(3, 9999, 1), 30);
        due("nothing changes", x.deed(0, 5) + x.deed(3, 5), 2);
        MirrorHour y = Check.told("street 4;across 0 0;across 1 1;across 2 2;across 3 3",
                "plain 0 1 4 1;plain 0 0 4 1;plain 0 0 1 2;does 0 0;does 1 1;does 2 2");
        due("all", y.council(9, 36, 0), 0);
        due("the third goes first", y.council(9, 20, 0), 4);
        due("of two alike the least set", y.council(9, 19, 0), 5);
        due("of two alike the least set, less harm", y.council(9, 12, 0), 5);
        due("good of the least set", y.council(9, 12, 1), 36 + 4 + 1);
        due("most goes", y.council(9, 4, 0), 7);
        due("none", y.council(9, 3, 1), NONE);
        due("no deeds", new MirrorHour().council(99, 0, 0), 0);
        due("no deeds, no good", new MirrorHour().council(99, 0, 1), 0);
    }

    private static void idles() {
        MirrorHour x = town();
        x.set(0, 0);
        x.set(2, 2);
        due("itself at once", x.idle(0, 0, 0), 1);
        due("one that does nothing", x.idle(1, 0, 0), 0);
        due("those who look at it", x.idle(2, 0, 1), 2 + 8);
        due("a day later", x.idle(2, 0, 2), 1);
        due("then back", x.idle(2, 0, 3), 4);
        due("and on", x.idle(0, 0, 1), 4);
        due("and on to 1 and 3", x.idle(0, 0, 2), 2 + 8);
        due("and on to 0 and 4", x.idle(0, 0, 3), 1 + 16);
        due("on the day before it does nothing anyway", x.idle(0, 1, 5), 0);
        due("in 2 days it does 2", x.idle(0, 2, 0), 1);
        due("and 4 follows not", x.idle(0, 2, 4), 4);
        due("99 and 99", x.idle(0, 99, 99), 1 + 16);
        due("nothing changes", x.house(0, 2), 0);
        for (int wrong : new int[] {-1, 6, MIN, MAX}) {
            due("no house", x.idle(wrong, -1, 100), UNKNOWN);
        }
        for (int wrong : new int[] {-1, 100, MIN, MAX}) {
            due("no days ahead", x.idle(0, wrong, 0), OUTSIDE);
            due("no days behind", x.idle(0, 0, wrong), OUTSIDE);
        }
    }

    private static void odds(MirrorHour x, int house, int t, int p, long above, long below) {
        due("odds(" + house + ", " + t + ", " + p + ", 0)", x.odds(house, t, p, 0), above);
        due("odds(" + house + ", " + t + ", " + p + ", 1)", x.odds(house, t, p, 1), below);
    }

    private static void odds() {
        MirrorHour x = town();
        x.set(0, 0);
        long[] above = {1, 9, 4, 7, 3, 1, 2, 3, 1, 1, 0}, below = {1, 10, 5, 10, 5, 2, 5, 10, 5, 10, 1};
        for (int p = 0; p <= 10; p++) {
            odds(x, 0, 0, p, above[p], below[p]);
            odds(x, 2, 1, p, above[p] * above[p], below[p] * below[p]);
            odds(x, 1, 0, p, 0, 1);
        }
        odds(x, 0, 9, 1, 3486784401L, 10000000000L);
        odds(x, 0, 9, 9, 1, 10000000000L);
        odds(x, 0, 9, 5, 1, 1024);
        odds(x, 4, 3, 3, 2401, 10000);
        odds(x, 4, 4, 3, 0, 1);
        odds(x, 5, 9, 0, 0, 1);
        for (int wrong : new int[] {-1, 6, MIN, MAX}) {
            due("no house", x.odds(wrong, -1, -1, -1), UNKNOWN);
        }
        for (int wrong : new int[] {-1, 10, MIN, MAX}) {
            due("no days", x.odds(0, wrong, 0, 0), OUTSIDE);
        }
        for (int wrong : new int[] {-1, 11, MIN, MAX}) {
            due("no tenths", x.odds(0, 0, wrong, 0), OUTSIDE);
        }
        for (int wrong : new int[] {-1, 2, MIN, MAX}) {
            due("no part", x.odds(0, 0, 0, wrong), OUTSIDE);
        }
    }

    private static void pairs(MirrorHour x, int liking, int... partners) {
        due("liking of all", x.pair(NONE), liking);
        for (int house = 0; house < partners.length; house++) {
            due("pair(" + house + ")", x.pair(house), partners[house]);
        }
        due("no such house", x.pair(partners.length), UNKNOWN);
    }

    private static void pairs() {
        pairs(Check.told("street 2"), 0, 1, 0);
        pairs(Check.told("street 3"), 0, 1, 0, NONE);
        pairs(Check.told("street 8"), 0, 1, 0, 3, 2, 5, 4, 7, 6);
        pairs(Check.told("street 7"), 0, 1, 0, 3, 2, 5, 4, NONE);
        pairs(Check.told("street 3;like 1 2 4"), 4, NONE, 2, 1);
        pairs(Check.told("street 3;like 1 2 4;like 2 0 4"), 4, 2, NONE, 0);
        pairs(Check.told("street 4;like 0 1 9;like 2 0 5;like 1 3 5"), 10, 2, 3, 0, 1);
        pairs(Check.told("street 4;like 0 1 9;like 2 0 5;like 1 3 4"), 9, 1, 0, 3, 2);
        pairs(Check.told("street 5;like 0 4 9;like 1 4 9;like 0 1 1;like 2 3 2"), 11, 4, NONE, 3, 2, 0);
        pairs(Check.told("street 5;like 0 1 9;like 2 3 5;like 2 4 5;like 3 4 5"), 14, 1, 0, 3, 2, NONE);
        pairs(Check.told("street 6;like 0 5 3;like 1 4 3;like 1 3 3;like 2 3 3;like 2 4 3"), 9, 5, 3, 4, 1, 2, 0);
        MirrorHour x = Check.told("street 2;like 0 1 9");
        for (int wrong : new int[] {-2, 2, MIN, MAX}) {
            due("no house", x.pair(wrong), UNKNOWN);
        }
        due("liking", x.pair(-1), 9);
    }

    private static void towns(MirrorHour x, int rounds, int longest, int stuck) {
        due("rounds", x.town(0), rounds);
        due("longest", x.town(1), longest);
        due("come to a gap", x.town(2), stuck);
    }

    private static void towns() {
        towns(town(), 1, 3, 32);
        towns(new MirrorHour(), 0, 0, 3);
        towns(Check.told("street 8;across 0 1;across 1 2;across 2 3;across 3 4;across 4 5;across 5 6;across 6 7"), 0, 0,
                255);
        towns(Check.told("street 8;across 0 1;across 1 2;across 2 3;across 3 4;across 4 5;across 5 6;across 6 7;"
                + "across 7 0"), 1, 8, 0);
        towns(Check.told("street 8;across 0 1;across 1 0;across 2 2;across 3 4;across 4 5;across 5 3;across 6 7"), 3, 3,
                128 + 64);
        towns(Check.told("street 3;across 0 0;across 1 1;across 2 1"), 2, 1, 0);
        for (int wrong : new int[] {-1, 3, MIN, MAX}) {
            due("no what", town().town(wrong), OUTSIDE);
        }
    }

    private static void sights() {
        MirrorHour x = town();
        for (int wrong : new int[] {-2, 6, MIN, MAX}) {
            due("no house", x.seen(wrong, 0, 100), UNKNOWN);
            due("no deed", x.seen(0, wrong, -1), UNKNOWN);
        }
        due("no house -1", x.seen(-1, 0, 0), UNKNOWN);
        due("no deed 4", x.seen(0, 4, 0), UNKNOWN);
        for (int wrong : new int[] {-1, 100, MIN, MAX}) {
            due("no days", x.seen(0, 0, wrong), OUTSIDE);
        }
        due("forget nothing", x.forget(), 0);
        for (int i = 1; i <= 8; i++) {
            due("seen " + i, x.seen(5, i % 2 == 0 ? NONE : 3, 99), i);
        }
        due("a ninth", x.seen(0, NONE, 0), FULL);
        due("unknown ahead of full", x.seen(6, 0, 0), UNKNOWN);
        due("outside ahead of full", x.seen(0, 0, 100), OUTSIDE);
        due("eight", x.count(4), 8);
        due("wishes are others", x.count(3), 0);
        due("forget eight", x.forget(), 8);
        due("none", x.count(4), 0);
        due("the first again", x.seen(0, NONE, 0), 1);
        due("forget one", x.forget(), 1);
        due("forget none", x.forget(), 0);
    }

    private static void fits() {
        MirrorHour x = town();
        int all = 5 * 4 * 3 * 5 * 3 * 2;
        int[] may = {64 + 15, 64 + 7, 64 + 5, 64 + 15, 64 + 9, 64 + 1};
        due("all rows", x.fits(NONE), all);
        for (int house = 0; house < 6; house++) {
            due("may do at first " + house, x.fits(house), may[house]);
        }
        x.seen(0, 0, 3);
        due("0 did 0", x.fits(0), 1);
        due("rows", x.fits(NONE), all / 5);
        x.seen(4, NONE, 4);
        due("4 saw nothing come from 1", x.fits(1), 64 + 6);
        due("rows of 3 in 4", x.fits(NONE), all / 5 / 4 * 3);
        x.seen(3, NONE, 0);
        due("3 did nothing", x.fits(3), 64);
        due("the others may do what they may", x.fits(4), may[4]);
        x.seen(4, NONE, 1);
        due("what is so anyway", x.fits(NONE), all / 5 / 4 * 3 / 5);
        x.seen(5, NONE, 9);
        due("nothing comes through a gap", x.fits(NONE), all / 5 / 4 * 3 / 5);
        x.seen(5, 0, 1);
        due("something can not", x.fits(NONE), 0);
        due("no rows: nobody may", x.fits(4), 0);
        due("no rows: nobody may, house 0", x.fits(0), 0);
        due("forget", x.forget(), 6);
        x.seen(0, 3, 1);
        due("what can not come", x.fits(NONE), 0);
        x.forget();
        x.seen(0, 0, 0);
        x.seen(0, 2, 0);
        due("two that are not both so", x.fits(NONE), 0);
        x.forget();
        x.seen(0, 2, 0);
        x.seen(0, NONE, 1);
        x.go(9);
        due("day 0 is not today", x.fits(0), 4);
        due("all that 1 can would have come to 0", x.fits(1), 64);
        for (int wrong : new int[] {-2, 6, MIN, MAX}) {
            due("no house", x.fits(wrong), UNKNOWN);
        }
        Check.tell(x, "forbid 0");
        due("what is forbidden now", x.fits(5), 64);
        due("its owner may", x.fits(1), 64 + 7);
    }

    private static void keeps() {
        MirrorHour x = town();
        for (int wrong : new int[] {-1, 2, MIN, MAX}) {
            due("keep " + wrong, x.keep(wrong), UNKNOWN);
            due("back " + wrong, x.back(wrong), UNKNOWN);
        }
        due("keep at 0", x.keep(0), 0);
        due("not at 1", x.back(1), NOT);
        x.go(7);
        due("keep at 7", x.keep(1), 7);
        x.go(1);
        due("keep anew", x.keep(1), 8);
        due("back to 0", x.back(0), 0);
        due("back to 8", x.back(1), 8);
    }

    private static void backs() {
        MirrorHour x = town();
        due("nothing kept", x.back(0), NOT);
        x.set(0, 0);
        x.set(5, 0);
        x.go(4);
        x.wish(0, 0, 0);
        x.seen(0, 0, 0);
        due("keep", x.keep(1), 4);
        due("at 0 nothing is kept", x.back(0), NOT);
        x.set(0, 2);
        x.set(5, 0);
        x.go(10);
        x.wish(0, 0, 0);
        x.forget();
        due("back", x.back(1), 4);
        due("days are as they were", x.count(2), 4);
        due("wishes are as they are", x.count(3), 2);
        due("seen is as it is", x.count(4), 0);
        x.set(2, NONE);
        x.go(3);
        due("back a second time", x.back(1), 4);
        int[] does = {NONE, NONE, 0, NONE, NONE, NONE}, did = {2, 1, 1, 1, 1, 1};
        for (int house = 0; house < 6; house++) {
            due("does as it was kept " + house, x.house(house, 2), does[house]);
            due("did as it was kept " + house, x.house(house, 3), did[house]);
        }
    }

    private static void counts() {
        MirrorHour x = town();
        x.go(12);
        x.wish(0, 0, 0);
        x.wish(0, 0, 0);
        x.wish(0, 0, 0);
        x.seen(0, 0, 0);
        x.seen(0, 0, 0);
        Check.write(x, "idle zero");
        int[] due = {6, 4, 12, 3, 2, 9};
        for (int what = 0; what < 6; what++) {
            due("count(" + what + ")", x.count(what), due[what]);
        }
        for (int wrong : new int[] {-1, 6, MIN, MAX}) {
            due("count(" + wrong + ")", x.count(wrong), OUTSIDE);
        }
    }
}
