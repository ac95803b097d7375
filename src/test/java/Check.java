/** What the tests share: answers compared, and texts written eight bytes at a time. */
final class Check {
    private static int checks = 0;
    private static int wrong = 0;
    private static String sentence = "";

    private Check() {
    }

    /** Tells which sentence of the document the next answers are due by. */
    static void sentence(String words) {
        sentence = "\"" + words + "\": ";
    }

    static void due(String call, long got, long want) {
        checks++;
        if (got != want) {
            wrong++;
            if (wrong <= 50) {
                System.out.println(sentence + call + " answered " + got + ", due is " + want);
            }
        }
    }

    /** Where a text has its fault; behind fault(), and behind street() if it is refused, the text is as it was. */
    static void fault(MirrorHour x, String text, int place) {
        x.erase();
        write(x, text);
        due("fault() of \"" + text + "\"", x.fault(), place);
        due("bytes behind fault()", x.count(5), text.length());
        if (place != MirrorHour.NONE) {
            due("street() of \"" + text + "\"", x.street(), MirrorHour.NOT);
            due("bytes behind a street that is not", x.count(5), text.length());
            due("fault() behind a street that is not", x.fault(), place);
        }
    }

    static int wrongSoFar() {
        return wrong;
    }

    /** Writes a text, whose characters are bytes, behind what is written; stops where a write is refused. */
    static int write(MirrorHour x, String text) {
        int answer = x.count(5);
        for (int at = 0; at < text.length(); at += 8) {
            int n = Math.min(8, text.length() - at);
            answer = x.write(packed(text.substring(at, at + n)), n);
            if (answer < 0) {
                return answer;
            }
        }
        return answer;
    }

    static long packed(String text) {
        long bytes = 0;
        for (int i = text.length() - 1; i >= 0; i--) {
            bytes = bytes << 8 | text.charAt(i) & 255;
        }
        return bytes;
    }

    /** Writes a text and lets its lines be done: how many there were. */
    static int tell(MirrorHour x, String text) {
        x.erase();
        write(x, text);
        return x.street();
    }

    /** An object to which the texts have been told. */
    static MirrorHour told(String... texts) {
        MirrorHour x = new MirrorHour();
        for (String text : texts) {
            if (tell(x, text) < 1) {
                due("street() of \"" + text + "\" with a fault at " + x.fault(), -1, 1);
            }
        }
        return x;
    }

    static void end() {
        System.out.println(checks + " answers looked at, " + wrong + " wrong");
        if (wrong != 0 || checks == 0) {
            System.exit(1);
        }
    }
}
