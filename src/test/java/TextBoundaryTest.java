/** The sentences of the document on THE TEXT that name a boundary, one after another. */
final class TextBoundaryTest {
    private static final int NONE = -1, UNKNOWN = -2, OUTSIDE = -3, NOT = -4, FULL = -5;
    private static final int MIN = Integer.MIN_VALUE, MAX = Integer.MAX_VALUE;
    private static final String NINE_LINES = "gap 0;gap 0;gap 0;gap 0;gap 0;gap 0;gap 0;gap 0;gap 0;";
    private static final String FIVE_DEEDS = "plain 0 0 0 0;plain 0 0 0 0;plain 0 0 0 0;plain 0 0 0 0;plain 0 0 0 0;";
    private static final String[] KINDS = {"plain", "tooled", "either", "craft"};
    private static final String[] LINES = {"street 2", "across 0 1", "gap 0", "tools 0 1", "plain 0 0 0 0",
        "tooled 0 0 0 0", "either 0 0 0 0", "craft 0 0 0 0", "does 0 0", "idle 0", "like 0 1 0", "forbid 0", "allow 0"};

    public static void main(String[] args) {
        bytesAtOnce();
        placesOfBytes();
        bytesOfLongs();
        bytesInAll();
        erased();
        emptyText();
        fullText();
        numbersOfLines();
        lineSeparators();
        words();
        tooSoon();
        bounds();
        seventhDeed();
        doesIfItCan();
        unlike();
        behindTheLinesAhead();
        letters();
        digits();
        blanks();
        noBlanksNeeded();
        firstFault();
        otherBytes();
        streetTellsAllAnew();
        earlierTexts();
        order();
        behindThem();
        whatTheyDid();
        Check.end();
    }

    private static void due(String call, long got, long want) {
        Check.due(call, got, want);
    }

    private static void fault(MirrorHour x, String text, int place) {
        Check.fault(x, text, place);
    }

    /** Six houses and four deeds, one of each kind. */
    private static MirrorHour town() {
        return Check.told("street 6;plain 0 0 0 0;tooled 1 1 1 1;either 2 2 2 2;craft 3 3 3 3");
    }

    private static String repeated(String line, int times) {
        return (line + ";").repeat(times - 1) + line;
    }

    // ---- write, erase

    private static void bytesAtOnce() {
        Check.sentence("n (1 .. 8) bytes more of THE TEXT");
        for (int n = 1; n <= 8; n++) {
            MirrorHour x = new MirrorHour();
            due("write " + n, x.write(0, n), n);
            due("bytes", x.count(5), n);
            due("write " + n + " more", x.write(0, n), 2 * n);
        }
        MirrorHour x = new MirrorHour();
        for (int n : new int[] {0, 9, -1, -8, 16, 256, 257, 264, MIN, MIN + 1, MIN + 8, MAX}) {
            due("write " + n, x.write(0, n), OUTSIDE);
            due("bytes", x.count(5), 0);
        }
    }

    private static void placesOfBytes() {
        Check.sentence("byte i being bytes >> 8 i & 255");
        String blanks = "        ";
        for (int i = 0; i < 8; i++) {
            for (int n = 1; n <= 8; n++) {
                MirrorHour x = new MirrorHour();
                x.write(Check.packed(blanks.substring(0, i) + '!' + blanks.substring(i + 1)), n);
                due("a fault at byte " + i + " of " + n, x.fault(), i < n ? i : n);
            }
        }
        MirrorHour x = new MirrorHour();
        x.write(Check.packed("forbid 0"), 8);
        due("forbid there is no deed", x.fault(), 7);
        x.erase();
        x.write(Check.packed("gap"), 3);
        x.write(Check.packed(" 1"), 2);
        due("two parts", x.street(), 1);
    }

    private static void bytesOfLongs() {
        Check.sentence("bytes: the greatest and the least long");
        MirrorHour x = new MirrorHour();
        Check.write(x, "gap 0");
        due("write the least", x.write(Long.MIN_VALUE, 8), 13);
        due("its first byte is 0", x.fault(), 5);
        x.erase();
        due("write the greatest", x.write(Long.MAX_VALUE, 8), 8);
        due("its first byte is 255", x.fault(), 0);
        x.erase();
        Check.write(x, "gap 0");
        x.write(0x8020202020202020L, 8);
        due("the last byte is 128", x.fault(), 12);
        x.erase();
        Check.write(x, "gap 0");
        x.write(0x7f20202020202020L, 8);
        due("the last byte is 127", x.fault(), 12);
        x.erase();
        Check.write(x, "gap 0");
        x.write(0x2020202020202020L, 8);
        due("the last byte is 32", x.fault(), NONE);
        x.erase();
        Check.write(x, "gap 0");
        x.write(0xffffffffffffff20L, 1);
        due("of less than nothing, one byte", x.fault(), NONE);
        due("at most one byte", x.count(5), 6);
    }

    private static void bytesInAll() {
        Check.sentence("a row of bytes, 200 at most");
        for (int n = 1; n <= 8; n++) {
            MirrorHour x = new MirrorHour();
            for (int bytes = 8; bytes <= 192; bytes += 8) {
                due("write to " + bytes, x.write(0, 8), bytes);
            }
            int rest = 8 - n;
            if (rest > 0) {
                due("write " + rest, x.write(0, rest), 192 + rest);
            }
            for (int more = n + 1; more <= 8; more++) {
                due("write " + more + " behind " + (200 - n), x.write(0, more), FULL);
                due("bytes", x.count(5), 200 - n);
            }
            due("write the last " + n, x.write(0, n), 200);
            for (int more = 1; more <= 8; more++) {
                due("write " + more + " behind 200", x.write(0, more), FULL);
            }
            due("outside ahead of full", x.write(0, 9), OUTSIDE);
            due("outside ahead of full, below", x.write(0, 0), OUTSIDE);
            due("bytes", x.count(5), 200);
        }
    }

    private static void erased() {
        Check.sentence("THE TEXT is empty: how many bytes it had");
        MirrorHour x = new MirrorHour();
        due("erase none", x.erase(), 0);
        x.write(' ', 1);
        due("erase 1", x.erase(), 1);
        Check.write(x, "gap 0" + " ".repeat(195));
        due("erase 200", x.erase(), 200);
        due("bytes", x.count(5), 0);
        due("erase none again", x.erase(), 0);
        due("empty", x.fault(), 0);
        Check.write(x, "gap");
        due("no byte of what was erased", x.fault(), 3);
        due("write behind a full one", x.write(0, 1), 4);
        x = town();
        x.set(0, 0);
        x.go(2);
        x.keep(1);
        x.erase();
        due("nothing else changes: houses", x.count(0), 6);
        due("days", x.count(2), 2);
        due("kept", x.back(1), 2);
    }

    // ---- the text and its lines

    private static void emptyText() {
        Check.sentence("an empty TEXT ends too soon");
        MirrorHour x = new MirrorHour();
        due("fault()", x.fault(), 0);
        due("street()", x.street(), NOT);
        fault(x, " ", 1);
        fault(x, " ".repeat(199), 199);
        Check.tell(x, "gap 0");
        due("behind a text: fault()", x.fault(), 0);
        due("behind a text: street()", x.street(), NOT);
        due("houses", x.count(0), 2);
    }

    private static void fullText() {
        Check.sentence("a row of bytes, 200 at most: a full one");
        MirrorHour x = new MirrorHour();
        fault(x, "gap 0" + " ".repeat(195), NONE);
        due("street()", x.street(), 1);
        due("bytes", x.count(5), 0);
        fault(x, " ".repeat(200), 200);
        fault(x, "gap" + " ".repeat(197), 200);
        fault(x, "gap" + " ".repeat(196) + "1", NONE);
        fault(x, "gap" + " ".repeat(196) + "2", 199);
        fault(x, "gap" + " ".repeat(195) + "01", NONE);
        fault(x, "gap" + " ".repeat(195) + "02", 198);
        fault(x, "gap 0" + " ".repeat(194) + ";", 200);
        fault(x, "gap 0" + " ".repeat(194) + "x", 199);
        fault(x, " ".repeat(195) + "gap 1", NONE);
        fault(x, "a".repeat(200), 0);
        fault(x, "1".repeat(200), 0);
        fault(x, "gap " + "1".repeat(196), 4);
        fault(x, ";".repeat(200), 0);
        String most = "street 8;" + repeated("plain 15 07 09 09", 6) + ";across 07 00;tools 07 15;";
        fault(x, most + "like 06  07  09" + " ".repeat(200 - most.length() - 15), NONE);
        due("bytes", x.count(5), 200);
        due("ten lines of 200 bytes", x.street(), 10);
        due("deeds", x.count(1), 6);
        due("liking", x.pair(NONE), 9);
    }

    private static void numbersOfLines() {
        Check.sentence("LINES with ; (59) between, 1 to 10");
        MirrorHour x = new MirrorHour();
        for (int lines = 1; lines <= 10; lines++) {
            due(lines + " lines", Check.tell(x, repeated("gap 0", lines)), lines);
        }
        fault(x, NINE_LINES + "gap 0", NONE);
        fault(x, NINE_LINES + " gap 0  ", NONE);
        fault(x, NINE_LINES, 54);
        Check.sentence("behind the 10th no ; can stand");
        fault(x, NINE_LINES + "gap 0;", 59);
        fault(x, NINE_LINES + "gap 0 ;", 60);
        fault(x, NINE_LINES + "gap 0;gap 0", 59);
        fault(x, NINE_LINES + "gap 0;gap 9", 59);
        fault(x, NINE_LINES + "gap 0 gap 0", 60);
        fault(x, NINE_LINES + "gap 9;gap 0", 58);
        due("nothing was done", x.count(2), 0);
    }

    private static void lineSeparators() {
        Check.sentence("LINES with ; (59) between");
        MirrorHour x = new MirrorHour();
        fault(x, "gap 0;gap 1", NONE);
        fault(x, "gap 0:gap 1", 5);
        fault(x, "gap 0<gap 1", 5);
        fault(x, "gap 0,gap 1", 5);
        fault(x, "gap 0 gap 1", 6);
        fault(x, "gap 0;;gap 1", 6);
        fault(x, ";gap 0", 0);
        fault(x, "gap 0;", 6);
        fault(x, "gap;0", 3);
        fault(x, "across 0;1", 8);
    }

    private static void words() {
        Check.sentence("each is one of: street N. across A B. gap A. ..");
        for (String line : LINES) {
            MirrorHour x = town();
            String word = line.substring(0, line.indexOf(' ')), numbers = line.substring(line.indexOf(' '));
            fault(x, line, NONE);
            fault(x, line + ".", line.length());
            fault(x, word.substring(0, word.length() - 1) + numbers, 0);
            fault(x, word.substring(1) + numbers, 0);
            fault(x, word + "a" + numbers, 0);
            fault(x, "a" + word + numbers, 0);
            fault(x, word + word + numbers, 0);
            fault(x, word + " " + word + numbers, word.length() + 1);
            fault(x, word.substring(0, 1).toUpperCase() + word.substring(1) + numbers, 0);
            fault(x, "gap 0;" + word + "s" + numbers, 6);
            fault(x, word.charAt(0) + " " + word.substring(1) + numbers, 0);
        }
    }

    private static void tooSoon() {
        Check.sentence("or at the end, if it comes too soon");
        for (String line : LINES) {
            MirrorHour x = town();
            for (int at = line.indexOf(' '); at >= 0; at = line.indexOf(' ', at + 1)) {
                fault(x, line.substring(0, at), at);
                fault(x, line.substring(0, at) + " ", at + 1);
                fault(x, line.substring(0, at) + " ;", at + 1);
                fault(x, "gap 0;" + line.substring(0, at), at + 6);
                fault(x, line.substring(0, at) + "  gap 0", at + 2);
            }
            fault(x, line + " ", NONE);
            fault(x, line + " 0", line.length() + 1);
            fault(x, line + " gap 0", line.length() + 1);
        }
    }

    private static void bounds() {
        Check.sentence("HOUSES are 0 .. n less 1 (n 2 .. 8)");
        MirrorHour x = town();
        bound(x, "street ", 2, 8, "");
        Check.sentence("a HOUSE, of six");
        bound(x, "across ", 0, 5, " 0");
        bound(x, "across 0 ", 0, 5, "");
        bound(x, "gap ", 0, 5, "");
        bound(x, "tools ", 0, 5, " 0");
        bound(x, "does ", 0, 5, " 0");
        bound(x, "idle ", 0, 5, "");
        bound(x, "like ", 1, 5, " 0 0");
        bound(x, "like 0 ", 1, 5, " 0");
        Check.sentence("LIKING of two HOUSES is 0 .. 9");
        bound(x, "like 0 1 ", 0, 9, "");
        Check.sentence("TOOLS (a set of 0 .. 3, by bits)");
        bound(x, "tools 0 ", 0, 15, "");
        Check.sentence("a DEED, of four");
        bound(x, "does 0 ", 0, 3, "");
        bound(x, "forbid ", 0, 3, "");
        bound(x, "allow ", 0, 3, "");
        for (String kind : KINDS) {
            Check.sentence("S TOOLS 0 .. 15");
            bound(x, kind + " ", 0, 15, " 0 0 0");
            Check.sentence("A OWNER (a HOUSE)");
            bound(x, kind + " 0 ", 0, 5, " 0 0");
            Check.sentence("G GOOD 0 .. 9");
            bound(x, kind + " 0 0 ", 0, 9, " 0");
            Check.sentence("H HARM 0 .. 9");
            bound(x, kind + " 0 0 0 ", 0, 9, "");
        }
    }

    /** All numbers of two digits, and some that are longer. */
    private static void bound(MirrorHour x, String ahead, int least, int most, String behind) {
        for (int number = 0; number <= 99; number++) {
            boolean stands = number >= least && number <= most;
            // For like 0 0 and the like, the second number is at fault.
            boolean isFirstAlike = ahead.equals("like ") && number == 0;
            fault(x, ahead + number + behind, stands ? NONE : ahead.length() + (isFirstAlike ? 2 : 0));
        }
        for (String number : new String[] {"100", "256", "258", "999", "002", "2147483648", "4294967298",
            "18446744073709551618", "-1", "+1"}) {
            fault(x, ahead + number + behind, ahead.length());
        }
    }

    private static void seventhDeed() {
        Check.sentence("a seventh cannot stand there, at its word");
        for (String kind : KINDS) {
            MirrorHour x = new MirrorHour();
            String deed = kind + " 0 0 0 0";
            fault(x, FIVE_DEEDS + deed, NONE);
            fault(x, FIVE_DEEDS + deed + "; " + deed, FIVE_DEEDS.length() + deed.length() + 2);
            fault(x, FIVE_DEEDS + deed + ";" + kind, FIVE_DEEDS.length() + deed.length() + 1);
            fault(x, FIVE_DEEDS + deed + ";" + kind + " 99", FIVE_DEEDS.length() + deed.length() + 1);
            Check.tell(x, repeated(deed, 5));
            due("five", x.count(1), 5);
            fault(x, deed, NONE);
            fault(x, deed + ";" + deed, deed.length() + 1);
            due("a sixth", Check.tell(x, deed), 1);
            due("six", x.count(1), 6);
            fault(x, deed, 0);
            fault(x, "  " + deed, 2);
            fault(x, "gap 0;" + deed, 6);
            fault(x, "street 2;" + deed, NONE);
            fault(x, deed + ";street 2", 0);
            fault(x, "does 0 5;forbid 5;allow 5", NONE);
            fault(x, "forbid 6", 7);
        }
    }

    private static void doesIfItCan() {
        Check.sentence("does: A can do D by TOOLS told in LINES ahead and before, or it does nothing then");
        MirrorHour x = Check.told("street 3;tooled 15 0 0 0;tools 0 15;tools 1 7;does 0 0;does 1 0;"
                + "does 2 0;tools 2 15");
        due("with all tools", x.house(0, 2), 0);
        due("with all but one", x.house(1, 2), NONE);
        due("with tools told behind", x.house(2, 2), NONE);
        Check.tell(x, "does 2 0;tools 1 15");
        due("with tools told in a text before", x.house(2, 2), 0);
        due("who does is not told anew by tools", x.house(1, 2), NONE);
        Check.tell(x, "tools 2 0;does 2 0");
        due("with tools that were taken ahead", x.house(2, 2), NONE);
        Check.tell(x, "tools 0 0");
        due("with tools that are taken behind", x.house(0, 2), 0);
        Check.tell(x, "plain 0 0 0 0;does 0 1;does 0 0");
        due("the last is told, and can not be", x.house(0, 2), NONE);
        Check.tell(x, "does 0 0;does 0 1");
        due("the last is told, and can be", x.house(0, 2), 1);
        Check.tell(x, "forbid 1;does 1 1;does 0 1");
        due("forbidden ahead", x.house(1, 2), NONE);
        due("forbidden ahead, but its owner", x.house(0, 2), 1);
    }

    private static void unlike() {
        Check.sentence("like: A, B unlike (else a FAULT at B)");
        MirrorHour x = new MirrorHour();
        for (int n = 2; n <= 8; n++) {
            Check.tell(x, "street " + n);
            for (int a = 0; a < n; a++) {
                for (int b = 0; b < n; b++) {
                    fault(x, "like " + a + " " + b + " 9", a == b ? 7 : NONE);
                    fault(x, "like 0" + a + " " + b + " 9", a == b ? 8 : NONE);
                }
                fault(x, "like " + a + " " + n + " 9", 7);
                fault(x, "like " + n + " " + a + " 9", 5);
            }
        }
        fault(x, "like 0 0", 7);
        fault(x, "like 0 0 99", 7);
        Check.sentence("with another HOUSE (or itself) ACROSS");
        for (int house = 0; house < 8; house++) {
            fault(x, "across " + house + " " + house, NONE);
            due("itself", Check.tell(x, "across " + house + " " + house), 1);
            due("itself", x.house(house, 0), house);
        }
    }

    private static void behindTheLinesAhead() {
        Check.sentence("HOUSES, DEEDS such as there are behind the LINES ahead");
        MirrorHour x = new MirrorHour();
        fault(x, "gap 2", 4);
        fault(x, "street 3;gap 2", NONE);
        fault(x, "street 3;gap 3", 13);
        fault(x, "gap 2;street 3", 4);
        fault(x, "street 8;street 2;gap 2", 22);
        fault(x, "street 8;street 2;plain 0 2 0 0", 26);
        fault(x, "street 3;plain 0 2 0 0;like 2 1 0;across 2 2;tools 2 0;does 2 0;idle 2", NONE);
        fault(x, "forbid 0", 7);
        fault(x, "plain 0 0 0 0;forbid 0", NONE);
        fault(x, "forbid 0;plain 0 0 0 0", 7);
        fault(x, "plain 0 0 0 0;allow 1", 20);
        fault(x, "plain 0 0 0 0;street 2;allow 0", 29);
        fault(x, "plain 0 0 0 0;street 2;plain 0 0 0 0;does 0 0", NONE);
        fault(x, "plain 0 0 0 0;street 2;plain 0 0 0 0;does 0 1", 44);
        due("a text that was read is not done", x.count(0), 2);
        due("no deeds by reading", x.count(1), 0);
        Check.tell(x, "street 7;plain 0 6 0 0");
        fault(x, "gap 6;forbid 0", NONE);
        fault(x, "gap 7", 4);
        fault(x, "forbid 1", 7);
        fault(x, "street 2;gap 6", 13);
        fault(x, "street 2;forbid 0", 16);
        due("owner", x.deed(0, 2), 6);
    }

    // ---- tokens

    private static void letters() {
        Check.sentence("small letters a .. z");
        MirrorHour x = town();
        fault(x, "zap 0", 0);
        fault(x, "gaz 0", 0);
        fault(x, "gapa 0", 0);
        fault(x, "gapz 0", 0);
        fault(x, "agap 0", 0);
        fault(x, "zgap 0", 0);
        // Other bytes end a word: the word stands, the byte behind it does not.
        fault(x, "gap` 0", 3);
        fault(x, "gap{ 0", 3);
        fault(x, "gapA 0", 3);
        fault(x, "gapZ 0", 3);
        fault(x, "gap_ 0", 3);
        fault(x, "GAP 0", 0);
        fault(x, "gAp 0", 0);
        fault(x, "g ap 0", 0);
        fault(x, "ga\0p 0", 0);
    }

    private static void digits() {
        Check.sentence("numbers of 1 or 2 digits");
        MirrorHour x = town();
        fault(x, "gap 5", NONE);
        fault(x, "gap 05", NONE);
        fault(x, "gap 005", 4);
        fault(x, "gap 000", 4);
        fault(x, "gap 00", NONE);
        fault(x, "gap 0 5", 6);
        fault(x, "tools 09 1", 6);
        fault(x, "tools 00 09", NONE);
        fault(x, "tools 00 010", 9);
        fault(x, "tools 05 15", NONE);
        fault(x, "tools 05 51", 9);
        fault(x, "gap 0/", 5);
        fault(x, "gap 0:", 5);
        fault(x, "gap /0", 4);
        fault(x, "gap :", 4);
        fault(x, "gap 0.0", 5);
        fault(x, "gap -0", 4);
        fault(x, "gap 0a", 5);
        fault(x, "gap a0", 4);
        due("05 is 5", Check.tell(x, "across 05 04;tools 05 09;like 05 04 07"), 3);
        due("across", x.house(5, 0), 4);
        due("tools", x.house(5, 1), 9);
        due("liking", x.pair(NONE), 7);
        due("two digits", Check.tell(x, "tools 0 10;tools 1 11;tools 2 12;tools 3 13;tools 4 14;tools 5 15"), 6);
        for (int house = 0; house < 6; house++) {
            due("tools of " + house, x.house(house, 1), 10 + house);
        }
    }

    private static void blanks() {
        Check.sentence("blanks (32) may stand ahead of, between and behind TOKENS");
        MirrorHour x = town();
        fault(x, " gap 0", NONE);
        fault(x, "gap 0 ", NONE);
        fault(x, "   gap   0   ;   like   0   1   9   ", NONE);
        due("they are done", x.street(), 2);
        due("liking", x.pair(NONE), 9);
        fault(x, "gap 0 ; gap 9", 12);
        fault(x, "   gap   9", 9);
        for (char other : new char[] {0, 9, 10, 13, 31, 33, 160, 255}) {
            fault(x, other + "gap 0", 0);
            fault(x, "gap" + other + "0", 3);
            fault(x, "gap 0" + other, 5);
            fault(x, "gap 0" + other + ";gap 0", 5);
            fault(x, "gap 0;" + other + "gap 0", 6);
            fault(x, "gap " + other + "0", 4);
        }
    }

    private static void noBlanksNeeded() {
        Check.sentence("none is needed but between two words, two numbers");
        MirrorHour x = town();
        fault(x, "gap0;gap1;across0 1;tools0 1;like0 1 9;does0 0;forbid0;allow0;street2;plain0 0 0 0", NONE);
        fault(x, "gap01", NONE);
        fault(x, "across01", 8);
        fault(x, "across0 12", 8);
        fault(x, "across 0 1gap 0", 10);
        fault(x, "gap 0gap 0", 5);
        fault(x, "gapgap 0", 0);
        fault(x, "like 01 4", 9);
        fault(x, "like 0 19", 7);
    }

    private static void firstFault() {
        Check.sentence("A FAULT is at the first TOKEN that cannot stand there");
        MirrorHour x = town();
        fault(x, "gap 6;gap 7", 4);
        fault(x, "across 6 6", 7);
        fault(x, "across 5 66", 9);
        fault(x, "tooled 16 9 99 99", 7);
        fault(x, "tooled 15 9 99 99", 10);
        fault(x, "tooled 15 5 99 99", 12);
        fault(x, "tooled 15 5 09 99", 15);
        fault(x, "gap x;y", 4);
        fault(x, "gap 0;x y", 6);
        fault(x, "mirror 0", 0);
        fault(x, "gap ..", 4);
        fault(x, "gap 0..", 5);
        fault(x, "gap 123456789", 4);
        fault(x, "gap abcdefghi", 4);
        fault(x, "0 gap", 0);
        fault(x, "12", 0);
        Check.sentence("or the length");
        fault(x, "gap", 3);
        fault(x, "gap 0;gap", 9);
        fault(x, "gap 0;gap ", 10);
        fault(x, "gap 0;", 6);
        fault(x, "gap 0; ", 7);
    }

    private static void otherBytes() {
        Check.sentence("any other byte");
        MirrorHour x = town();
        for (char other = 0; other < 256; other++) {
            boolean isBlank = other == ' ', isDigit = other >= '0' && other <= '9';
            boolean isLetter = other >= 'a' && other <= 'z', isEnd = other == ';';
            fault(x, "gap 0" + other, isBlank ? NONE : isDigit ? other <= '5' ? NONE : 4 : isEnd ? 6 : 5);
            fault(x, "gap 0 " + other, isBlank ? NONE : isEnd ? 7 : 6);
            fault(x, "gap" + other, isBlank ? 4 : isDigit ? other <= '5' ? NONE : 3 : isLetter ? 0 : 3);
            fault(x, "gap " + other, isBlank ? 5 : isDigit && other <= '5' ? NONE : 4);
            fault(x, other + " 0", isBlank ? 2 : 0);
            fault(x, other + "gap 0", isBlank ? NONE : 0);
            fault(x, "gap 0;" + other, isBlank ? 7 : 6);
        }
    }

    // ---- what is done

    private static void streetTellsAllAnew() {
        Check.sentence("street: N HOUSES, all as at first, no DEEDS");
        for (int n = 2; n <= 8; n++) {
            MirrorHour x = Check.told("street 8;" + repeated("plain 0 7 9 9", 6) + ";forbid 0;forbid 5",
                    "across 0 1;across 7 0;tools 0 15;tools 7 15;does 7 0;does 1 1;like 0 1 9;like 6 7 9;like 0 7 9");
            due("before", x.town(2) == 255 && x.pair(NONE) == 18 && x.house(7, 2) == 0 ? 1 : 0, 1);
            due("street " + n, Check.tell(x, "street " + n), 1);
            for (int again = 0; again < 2; again++) {
                due("houses", x.count(0), again == 0 ? n : 8);
                due("deeds", x.count(1), 0);
                due("deed 0", x.deed(0, 0), UNKNOWN);
                due("liking", x.pair(NONE), 0);
                due("rounds", x.town(0), 0);
                for (int house = 0; house < 8; house++) {
                    boolean stands = house < (again == 0 ? n : 8);
                    due("across " + house, x.house(house, 0), stands ? NONE : UNKNOWN);
                    due("tools " + house, x.house(house, 1), stands ? 0 : UNKNOWN);
                    due("does " + house, x.house(house, 2), stands ? NONE : UNKNOWN);
                    due("did " + house, x.house(house, 3), stands ? 0 : UNKNOWN);
                }
                Check.tell(x, "street 8");
            }
            Check.tell(x, repeated("plain 0 0 1 1", 6));
            for (int deed = 0; deed < 6; deed++) {
                due("forbidden " + deed, x.deed(deed, 5), 0);
            }
        }
        MirrorHour x = Check.told("tools 0 5;across 0 0;plain 0 0 0 0;does 0 0;forbid 0;street 2;plain 0 1 2 3");
        due("within a text: tools", x.house(0, 1), 0);
        due("within a text: across", x.house(0, 0), NONE);
        due("within a text: does", x.house(0, 2), NONE);
        due("within a text: deeds", x.count(1), 1);
        due("within a text: forbidden", x.deed(0, 5), 0);
        due("within a text: owner", x.deed(0, 2), 1);
        due("lines ahead of street count, too", Check.tell(x, "gap 0;street 2;street 3"), 3);
    }

    private static void earlierTexts() {
        Check.sentence("what earlier texts told stays");
        MirrorHour x = Check.told("street 4;across 0 1;across 3 3;tools 0 15;tools 3 8;like 0 3 9", "plain 1 2 3 4",
                "craft 5 3 9 0;forbid 0", "gap 2");
        due("houses", x.count(0), 4);
        due("across", x.house(0, 0), 1);
        due("itself", x.house(3, 0), 3);
        due("tools", x.house(0, 1), 15);
        due("tools of the last", x.house(3, 1), 8);
        due("liking", x.pair(NONE), 9);
        due("deeds", x.count(1), 2);
        int[][] due = {{0, 1, 2, 3, 4, 1}, {3, 5, 3, 9, 0, 0}};
        for (int deed = 0; deed < 2; deed++) {
            for (int what = 0; what < 6; what++) {
                due("deed(" + deed + ", " + what + ")", x.deed(deed, what), due[deed][what]);
            }
        }
    }

    private static void order() {
        Check.sentence("LINES are done in their order");
        MirrorHour x = Check.told("across 0 1;gap 0;gap 1;across 1 0;tools 0 15;tools 0 0;tools 1 0;tools 1 15;"
                + "like 0 1 9;like 1 0 4");
        due("across, then a gap", x.house(0, 0), NONE);
        due("a gap, then across", x.house(1, 0), 0);
        due("tools, then none", x.house(0, 1), 0);
        due("no tools, then all", x.house(1, 1), 15);
        due("liking as told last", x.pair(NONE), 4);
        Check.tell(x, "plain 0 0 0 1;plain 0 0 0 2;forbid 0;allow 0;allow 1;forbid 1;does 0 0;idle 0;idle 1;does 1 0");
        due("forbidden, then allowed", x.deed(0, 5), 0);
        due("allowed, then forbidden", x.deed(1, 5), 1);
        due("the first deed", x.deed(0, 4), 1);
        due("the second deed", x.deed(1, 4), 2);
        due("does, then idle", x.house(0, 2), NONE);
        due("idle, then does", x.house(1, 2), 0);
        Check.tell(x, "forbid 0;forbid 0;allow 1;allow 1");
        due("forbidden twice", x.deed(0, 5), 1);
        due("allowed twice", x.deed(1, 5), 0);
    }

    private static void behindThem() {
        Check.sentence("Behind them it is DAY 0, no WISHES, nothing SEEN is told, nothing is kept");
        for (String text : new String[] {"gap 2", "street 3"}) {
            MirrorHour x = Check.told("street 3;across 0 0;across 1 1;plain 0 0 0 0;does 0 0;does 2 0");
            x.go(99);
            x.keep(0);
            x.keep(1);
            for (int i = 0; i < 8; i++) {
                x.wish(1, 0, 99);
                x.seen(1, NONE, 99);
            }
            due("before: ways", x.ways(), 4);
            due("before: fits", x.fits(1), 64);
            due("a text at fault", Check.tell(x, text + ";gap 3"), NOT);
            due("it changes no days", x.count(2), 99);
            due("no wishes", x.count(3), 8);
            due("nothing seen", x.count(4), 8);
            due("nothing kept", x.back(0) + x.back(1), 198);
            due("nor on how many days a house did something", x.house(0, 3), 99);
            due("a text", Check.tell(x, text), 1);
            due("day 0", x.count(2), 0);
            due("did", x.house(0, 3), 0);
            due("did, on day 0", x.house(2, 3), 0);
            due("no wishes", x.count(3), 0);
            due("nothing seen", x.count(4), 0);
            due("back 0", x.back(0), NOT);
            due("back 1", x.back(1), NOT);
            due("days are not as they were kept", x.count(2), 0);
            due("ways", x.ways(), text.equals("gap 2") ? 8 : 1);
            due("fits", x.fits(1), text.equals("gap 2") ? 65 : 64);
            due("drop", x.drop(), 0);
            due("forget", x.forget(), 0);
            due("keep", x.keep(1), 0);
            due("back 0 still", x.back(0), NOT);
            due("back 1 now", x.back(1), 0);
        }
    }

    private static void whatTheyDid() {
        Check.sentence("HOUSES do today what they did ahead of THE TEXT, if that is not told otherwise");
        MirrorHour x = Check.told("street 8;across 0 1;across 1 0;across 7 7;plain 0 0 0 0;tooled 1 0 0 0;tools 7 1",
                "does 0 0;does 7 1;does 3 0");
        x.go(1);
        x.set(5, 0);
        Check.tell(x, "gap 2");
        int[] does = {NONE, 0, NONE, NONE, NONE, 0, NONE, 1};
        for (int house = 0; house < 8; house++) {
            due("house " + house, x.house(house, 2), does[house]);
        }
        Check.tell(x, "tools 7 0;forbid 0;gap 7;idle 5;does 6 0");
        due("what it could not now", x.house(7, 2), 1);
        due("what is forbidden now", x.house(1, 2), 0);
        due("idle", x.house(5, 2), NONE);
        due("told, but forbidden", x.house(6, 2), NONE);
        Check.tell(x, "street 8");
        for (int house = 0; house < 8; house++) {
            due("as at first: house " + house, x.house(house, 2), NONE);
        }
    }
}
