import java.util.Random;

/** Runs of drawn calls, each answered by the class and by the model; the seeds are fixed. */
final class ModelTest {
    private static final int RUNS = 1500, CALLS = 512;
    private static final int[] FAR = {-1, -2, 10, 16, 63, 64, 99, 100, 101, 255, 9999, 10000, Integer.MIN_VALUE,
        Integer.MAX_VALUE, 1 << 30, -99};
    private static final String[] STRANGE = {"x", ";", " ", "16", "007", "\t", "Idle", "street", "" + (char) 255, "=",
        "0", "99", "plains", "", "`", "{", "/", ":"};

    private final Random random;
    private final MirrorHour x = new MirrorHour();
    private final Model model = new Model();
    private final String name;
    /** Few houses and deeds, so that all rows and all illness can be tried. */
    private final int mostHouses, mostDeeds;
    private int calls = 0;

    private ModelTest(int run) {
        random = new Random(run);
        name = "run " + run + ", call ";
        mostHouses = 2 + run % 7;
        mostDeeds = mostHouses > 6 ? 2 : mostHouses > 4 ? 3 : 6;
    }

    public static void main(String[] args) {
        for (int run = 0; run < RUNS && Check.wrongSoFar() == 0; run++) {
            ModelTest test = new ModelTest(run);
            while (test.calls < CALLS - 30 && Check.wrongSoFar() == 0) {
                test.step();
            }
        }
        Check.end();
    }

    private int draw(int bound) {
        return random.nextInt(bound);
    }

    private boolean chance(int in) {
        return draw(in) == 0;
    }

    private void due(String call, long got, long want) {
        Check.due(name + calls + ", " + call, got, want);
        calls++;
    }

    private int house() {
        return chance(25) ? FAR[draw(FAR.length)] : draw(model.n + (chance(12) ? 1 : 0));
    }

    private int deed() {
        int deeds = model.deeds.size();
        return chance(25) ? FAR[draw(FAR.length)] : deeds == 0 ? draw(2) : draw(deeds + (chance(12) ? 1 : 0));
    }

    private int deedOrNone() {
        return chance(3) ? -1 : deed();
    }

    private int time() {
        return chance(20) ? FAR[draw(FAR.length)] : chance(8) ? 90 + draw(10) : draw(chance(2) ? 4 : 14);
    }

    private int small(int most) {
        return chance(20) ? FAR[draw(FAR.length)] : draw(most + 1);
    }

    private void step() {
        int sort = draw(40);
        if (sort < 6 || calls < 3) {
            tellText();
        } else if (sort < 18) {
            askOrDo(draw(9));
        } else {
            foretell(draw(16));
        }
    }

    private void askOrDo(int sort) {
        int a = house(), b = deed(), k = small(1), what = small(5);
        switch (sort) {
            case 0 -> due("house(" + a + ", " + what + ")", x.house(a, what), model.house(a, what));
            case 1 -> due("deed(" + b + ", " + what + ")", x.deed(b, what), model.deed(b, what));
            case 2 -> due("as(" + b + ", " + what + ")", x.as(b, what), model.as(b, what));
            case 3, 4 -> {
                int d = deedOrNone();
                due("set(" + a + ", " + d + ")", x.set(a, d), model.set(a, d));
            }
            case 5 -> {
                int n = chance(3) ? time() : 1 + draw(3);
                due("go(" + n + ")", x.go(n), model.go(n));
            }
            case 6 -> due("keep(" + k + ")", x.keep(k), model.keep(k));
            case 7 -> due("back(" + k + ")", x.back(k), model.back(k));
            default -> due("count(" + what + ")", x.count(what), model.count(what));
        }
    }

    private void foretell(int sort) {
        int a = house(), b = deed(), t = time(), what = small(1);
        switch (sort) {
            case 0 -> due("later(" + a + ", " + t + ")", x.later(a, t), model.later(a, t));
            case 1 -> due("again(" + what + ")", x.again(what), model.again(what));
            case 2 -> due("first(" + a + ", " + b + ", " + t + ")", x.first(a, b, t), model.first(a, b, t));
            case 3 -> due("lack(" + a + ", " + b + ", " + t + ")", x.lack(a, b, t), model.lack(a, b, t));
            case 4, 5 -> due("wish(" + a + ", " + b + ", " + t + ")", x.wish(a, b, t), model.wish(a, b, t));
            case 6 -> ways();
            case 7 -> due("sum(" + t + ", " + what + ")", x.sum(t, what), model.sum(t, what));
            case 8 -> {
                int harm = chance(9) ? FAR[draw(FAR.length)] : draw(chance(2) ? 60 : 400);
                due("council(" + t + ", " + harm + ", " + what + ")", x.council(t, harm, what),
                        model.council(t, harm, what));
            }
            case 9 -> {
                int k = time();
                due("idle(" + a + ", " + t + ", " + k + ")", x.idle(a, t, k), model.idle(a, t, k));
            }
            case 10 -> odds(a, what);
            case 11 -> {
                int h = chance(3) ? -1 : a;
                due("pair(" + h + ")", x.pair(h), model.pair(h));
            }
            case 12 -> {
                int w = small(2);
                due("town(" + w + ")", x.town(w), model.town(w));
            }
            case 13, 14 -> {
                int d = deedOrNone();
                due("seen(" + a + ", " + d + ", " + t + ")", x.seen(a, d, t), model.seen(a, d, t));
            }
            default -> fits(a);
        }
    }

    private void ways() {
        if (model.rowsInAll() > 3000) {
            return;
        }
        due("ways()", x.ways(), model.ways());
        if (chance(2)) {
            due("drop()", x.drop(), model.drop());
        }
    }

    private void fits(int a) {
        if (model.rowsInAll() > 3000) {
            return;
        }
        due("fits(-1)", x.fits(-1), model.fits(-1));
        due("fits(" + a + ")", x.fits(a), model.fits(a));
        if (chance(2)) {
            due("forget()", x.forget(), model.forget());
        }
    }

    private void odds(int a, int part) {
        int t = model.n > 5 ? small(3) : small(9), p = small(10);
        due("odds(" + a + ", " + t + ", " + p + ", " + part + ")", x.odds(a, t, p, part), model.odds(a, t, p, part));
    }

    // ---- texts

    private void tellText() {
        StringBuilder text = new StringBuilder();
        boolean first = calls < 3;
        int lines = 1 + draw(chance(5) ? 11 : 5);
        int deeds = model.deeds.size(), houses = model.n;
        for (int i = 0; i < lines; i++) {
            if (i > 0) {
                text.append(chance(60) ? strange() : ";");
            }
            if (first && i == 0 || chance(40)) {
                houses = mostHouses;
                deeds = 0;
                text.append("street").append(blanks()).append(houses);
            } else {
                deeds += line(text, houses, deeds);
            }
        }
        if (chance(60)) {
            text.append(strange());
        }
        write(text.toString());
        due("fault() of \"" + model.text + "\"", x.fault(), model.fault());
        if (chance(10)) {
            due("erase()", x.erase(), model.erase());
        } else {
            due("street()", x.street(), model.street());
            if (!model.text.isEmpty() && !chance(6)) {
                due("erase()", x.erase(), model.erase());
            }
        }
    }

    private String strange() {
        return STRANGE[draw(STRANGE.length)];
    }

    private String blanks() {
        return chance(6) ? "  " : chance(40) ? strange() : " ";
    }

    private String number(int bound) {
        if (chance(60)) {
            return strange();
        }
        int number = draw(Math.max(1, bound) + (chance(40) ? 1 : 0));
        return chance(9) && number < 10 ? "0" + number : "" + number;
    }

    /** Puts a line down: how many deeds it tells. */
    private int line(StringBuilder text, int houses, int deeds) {
        int sort = draw(13);
        String[] words = {"plain", "tooled", "either", "craft", "across", "across", "tools", "tools", "does", "like",
            "forbid", "allow", "gap"};
        if (sort < 4 && deeds >= mostDeeds && !chance(20)) {
            sort = 4 + draw(8);
        }
        if (sort == 12 && chance(2)) {
            words[12] = "idle";
        }
        text.append(chance(60) ? strange() : words[sort]);
        int[] bounds = sort < 4 ? new int[] {chance(2) ? 4 : 16, houses, 10, 10} : switch (sort) {
            case 4, 5 -> new int[] {houses, houses};
            case 6, 7 -> new int[] {houses, 16};
            case 8 -> new int[] {houses, deeds};
            case 9 -> new int[] {houses, houses, 10};
            case 10, 11 -> new int[] {deeds};
            default -> new int[] {houses};
        };
        for (int bound : bounds) {
            text.append(blanks()).append(number(bound));
        }
        return sort < 4 ? 1 : 0;
    }

    private void write(String text) {
        for (int at = 0; at < text.length();) {
            int n = chance(4) ? 1 + draw(8) : 8;
            n = Math.min(n, text.length() - at);
            long bytes = Check.packed(text.substring(at, at + n));
            if (n < 8 && chance(2)) {
                bytes |= random.nextLong() << 8 * n;
            }
            int given = chance(80) ? FAR[draw(FAR.length)] : n;
            due("write(" + bytes + ", " + given + ")", x.write(bytes, given), model.write(bytes, given));
            at += n;
        }
    }
}
