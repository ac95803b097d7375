import java.util.function.Supplier;

/**
 * Each call with each argument just inside and just outside its bounds, and far from them: which refusal is the first
 * that fits, and that nothing has changed behind it; nor behind a call that only asks.
 */
final class RefusalTest {
    private static final int NONE = -1, UNKNOWN = -2, OUTSIDE = -3, NOT = -4, FULL = -5;
    private static final int MIN = Integer.MIN_VALUE, MAX = Integer.MAX_VALUE;
    private static final String NINE_LINES = "idle 0;idle 1;idle 0;idle 1;idle 0;idle 1;idle 0;idle 1;idle 0;";

    private interface Call {
        long of(MirrorHour x, int[] arguments);
    }

    /** The refusal that is due; 0: none. */
    private interface Due {
        int of(int[] arguments);
    }

    /** An object in some state, and what of it decides on refusals. */
    private record World(String name, Supplier<MirrorHour> maker, int houses, int deeds, int days, int bytes, int told,
            boolean keeps, boolean faulty) {
        int house(int house) {
            return house >= 0 && house < houses ? 0 : UNKNOWN;
        }

        int deed(int deed) {
            return deed >= 0 && deed < deeds ? 0 : UNKNOWN;
        }

        int houseOrNone(int house) {
            return house == NONE ? 0 : house(house);
        }

        int deedOrNone(int deed) {
            return deed == NONE ? 0 : deed(deed);
        }

        /** In each world there is deed 0, which all can do, and deed 1, a craft, which house 0 alone can do. */
        int able(int house, int deed) {
            return deed == 1 && house != 0 ? NOT : 0;
        }

        /** The craft is a deed, tooled and a craft; the others are deeds and plain. */
        int kind(int deed, int kind) {
            boolean isSuch = deed == 1 ? kind == 0 || kind == 2 || kind == 4 : kind == 0 || kind == 1;
            return isSuch ? 0 : NOT;
        }

        /** Told are as many wishes as things seen. */
        int room() {
            return told == 8 ? FULL : 0;
        }
    }

    private final World world;
    private final View untouched;

    private RefusalTest(World world) {
        this.world = world;
        untouched = new View(world.maker.get());
    }

    public static void main(String[] args) {
        World[] worlds = {new World("new", MirrorHour::new, 2, 0, 0, 0, 0, false, true),
            new World("used", RefusalTest::used, 5, 2, 7, 13, 3, true, false),
            new World("faulty", RefusalTest::faulty, 5, 2, 7, 13, 3, true, true),
            new World("full", RefusalTest::full, 8, 6, 9999, 200, 8, true, false)};
        for (World world : worlds) {
            RefusalTest test = new RefusalTest(world);
            Check.sentence("Refused, and nothing changes, world " + world.name);
            View.alike("nothing", new View(world.maker.get()), test.untouched);
            test.told();
            test.days();
            test.foretold();
            test.longerForetold();
            test.seen();
        }
        Check.end();
    }

    // ---- the worlds

    private static MirrorHour used() {
        MirrorHour x = Check.told("street 5;across 0 1;across 1 2;across 2 0;across 3 3;tools 0 5;tools 3 9;like 0 2 4",
                "plain 0 1 3 2;craft 2 0 9 9;forbid 1;does 0 1;does 2 0;does 3 0");
        x.go(7);
        x.set(0, 1);
        x.keep(0);
        x.set(1, 0);
        tellOf(x, 3);
        Check.write(x, "gap 0;forbid0");
        return x;
    }

    private static MirrorHour faulty() {
        MirrorHour x = used();
        x.erase();
        Check.write(x, "gap 0;forbid2");
        return x;
    }

    private static MirrorHour full() {
        MirrorHour x = Check.told("street 8;across 0 1;across 1 0;across 2 2;across 3 4;plain 0 1 3 2;craft 8 0 9 9;"
                + "plain 0 7 9 1;plain 0 6 1 8", "plain 0 5 2 3;plain 0 4 4 4;does 0 0;does 1 2;does 2 5;like 3 7 9");
        for (int days = 0; days < 9999; days += 99) {
            x.go(99);
        }
        x.set(0, 1);
        x.keep(0);
        x.set(7, 4);
        tellOf(x, 8);
        String text = NINE_LINES + "across 5 6";
        Check.write(x, text + " ".repeat(200 - text.length()));
        return x;
    }

    private static void tellOf(MirrorHour x, int many) {
        for (int i = 0; i < many; i++) {
            x.wish(2, 0, i);
            x.seen(i % 2, NONE, 3 - i % 2);
        }
    }

    // ---- the calls

    private void told() {
        check("erase", true, (x, a) -> x.erase(), a -> 0);
        check("fault", false, (x, a) -> x.fault(), a -> 0);
        check("street", true, (x, a) -> x.street(), a -> world.faulty ? NOT : 0);
        for (long bytes : new long[] {0, -1, Long.MIN_VALUE, Long.MAX_VALUE}) {
            check("write of " + bytes + ",", true, (x, a) -> x.write(bytes, a[0]),
                    a -> first(within(a[0], 1, 8), world.bytes + a[0] > 200 ? FULL : 0), edges(1, 8));
        }
        check("house", false, (x, a) -> x.house(a[0], a[1]), a -> first(world.house(a[0]), within(a[1], 0, 3)),
                houses(), edges(0, 3));
        check("deed", false, (x, a) -> x.deed(a[0], a[1]), a -> first(world.deed(a[0]), within(a[1], 0, 5)), deeds(),
                edges(0, 5));
        check("as", false, (x, a) -> x.as(a[0], a[1]),
                a -> first(world.deed(a[0]), within(a[1], 0, 4), world.kind(a[0], a[1])), deeds(),
                new int[] {MIN, -1, 0, 1, 2, 3, 4, 5, MAX});
    }

    private void days() {
        check("set", true, (x, a) -> x.set(a[0], a[1]),
                a -> first(world.house(a[0]), world.deedOrNone(a[1]), world.able(a[0], a[1])), houses(), deeds());
        check("go", true, (x, a) -> x.go(a[0]), a -> first(within(a[0], 1, 99), world.days + a[0] > 9999 ? FULL : 0),
                edges(1, 99));
    }

    private void foretold() {
        Due houseDeedTime = a -> first(world.house(a[0]), world.deed(a[1]), within(a[2], 0, 99));
        check("later", false, (x, a) -> x.later(a[0], a[1]), a -> first(world.house(a[0]), within(a[1], 0, 99)),
                houses(), edges(0, 99));
        check("again", false, (x, a) -> x.again(a[0]), a -> within(a[0], 0, 1), edges(0, 1));
        check("first", false, (x, a) -> x.first(a[0], a[1], a[2]), houseDeedTime, houses(), deeds(), edges(0, 99));
        check("lack", false, (x, a) -> x.lack(a[0], a[1], a[2]), houseDeedTime, houses(), deeds(), edges(0, 99));
        check("wish", true, (x, a) -> x.wish(a[0], a[1], a[2]), a -> first(houseDeedTime.of(a), world.room()),
                houses(), deeds(), edges(0, 99));
        check("drop", true, (x, a) -> x.drop(), a -> 0);
        check("ways", false, (x, a) -> x.ways(), a -> 0);
        check("pair", false, (x, a) -> x.pair(a[0]), a -> world.houseOrNone(a[0]), houses());
        check("town", false, (x, a) -> x.town(a[0]), a -> within(a[0], 0, 2), edges(0, 2));
    }

    private void longerForetold() {
        check("sum", false, (x, a) -> x.sum(a[0], a[1]), a -> first(within(a[0], 1, 99), within(a[1], 0, 1)),
                edges(1, 99), edges(0, 1));
        check("council", false, (x, a) -> x.council(a[0], a[1], a[2]),
                a -> first(within(a[0], 1, 99), within(a[1], 0, 9999), within(a[2], 0, 1)), edges(1, 99),
                edges(0, 9999), edges(0, 1));
        check("idle", false, (x, a) -> x.idle(a[0], a[1], a[2]),
                a -> first(world.house(a[0]), within(a[1], 0, 99), within(a[2], 0, 99)), houses(), edges(0, 99),
                edges(0, 99));
        check("odds", false, (x, a) -> x.odds(a[0], a[1], a[2], a[3]),
                a -> first(world.house(a[0]), within(a[1], 0, 9), within(a[2], 0, 10), within(a[3], 0, 1)), houses(),
                edges(0, 9), edges(0, 10), edges(0, 1));
    }

    private void seen() {
        check("seen", true, (x, a) -> x.seen(a[0], a[1], a[2]), a -> first(world.house(a[0]), world.deedOrNone(a[1]),
                within(a[2], 0, 99), world.room()), houses(), deeds(), edges(0, 99));
        check("forget", true, (x, a) -> x.forget(), a -> 0);
        check("fits", false, (x, a) -> x.fits(a[0]), a -> world.houseOrNone(a[0]), houses());
        check("keep", true, (x, a) -> x.keep(a[0]), a -> image(a[0]), edges(0, 1));
        check("back", true, (x, a) -> x.back(a[0]), a -> first(image(a[0]), a[0] == 0 && world.keeps ? 0 : NOT),
                edges(0, 1));
        check("count", false, (x, a) -> x.count(a[0]), a -> within(a[0], 0, 5), edges(0, 5));
    }

    // ---- bounds

    private static int first(int... refusals) {
        for (int refusal : refusals) {
            if (refusal != 0) {
                return refusal;
            }
        }
        return 0;
    }

    private static int within(int number, int least, int most) {
        return number >= least && number <= most ? 0 : OUTSIDE;
    }

    private static int image(int k) {
        return k == 0 || k == 1 ? 0 : UNKNOWN;
    }

    private static int[] edges(int least, int most) {
        return new int[] {MIN, least - 1, least, most, most + 1, MAX};
    }

    private int[] houses() {
        return new int[] {MIN, -2, -1, 0, world.houses - 1, world.houses, MAX};
    }

    private int[] deeds() {
        return world.deeds == 0 ? new int[] {MIN, -2, -1, 0, MAX}
                : new int[] {MIN, -2, -1, 0, 1, world.deeds - 1, world.deeds, MAX};
    }

    // ---- all together

    /** Calls with all arguments that can be put together, each on an object of its own. */
    private void check(String name, boolean changes, Call call, Due due, int[]... arguments) {
        int all = 1;
        for (int[] values : arguments) {
            all *= values.length;
        }
        for (int i = 0; i < all; i++) {
            int[] chosen = new int[arguments.length];
            int left = i;
            for (int k = 0; k < chosen.length; k++) {
                chosen[k] = arguments[k][left % arguments[k].length];
                left /= arguments[k].length;
            }
            checkOne(name + java.util.Arrays.toString(chosen), changes, call, due.of(chosen), chosen);
        }
    }

    private void checkOne(String name, boolean changes, Call call, int refusal, int[] chosen) {
        MirrorHour x = world.maker.get();
        long answer = call.of(x, chosen);
        if (refusal != 0) {
            Check.due(name, answer, refusal);
        } else {
            Check.due(name + " is not refused", answer < NONE ? answer : 0, 0);
        }
        if (refusal != 0 || !changes) {
            View.alike(name, new View(x), untouched);
        }
    }
}
