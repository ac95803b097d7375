import java.math.BigInteger;
import java.util.ArrayList;
import java.util.Arrays;
import java.util.HashMap;
import java.util.List;
import java.util.Map;
import java.util.regex.Matcher;
import java.util.regex.Pattern;

/** The document once more, by trying all that may be: slow, and written apart from the class. */
final class Model {
    static final int NONE = -1, UNKNOWN = -2, OUTSIDE = -3, NOT = -4, FULL = -5;
    private static final Pattern TOKEN = Pattern.compile("[a-z]+|[0-9]+|[^ ]", Pattern.DOTALL);
    private static final Map<String, String> FORMS = Map.ofEntries(Map.entry("street", "N"),
            Map.entry("across", "AB"), Map.entry("gap", "A"), Map.entry("tools", "AS"), Map.entry("plain", "SAGH"),
            Map.entry("tooled", "SAGH"), Map.entry("either", "SAGH"), Map.entry("craft", "SAGH"),
            Map.entry("does", "AD"), Map.entry("idle", "A"), Map.entry("like", "ABV"), Map.entry("forbid", "D"),
            Map.entry("allow", "D"));
    private static final List<String> KINDS = List.of("plain", "tooled", "either", "craft");

    private record Deed(String kind, int tools, int owner, int good, int harm) {
    }

    private record Told(int house, int deed, int t) {
    }

    private record Image(int[] does, int[] did, int days) {
        Image copy() {
            return new Image(does.clone(), did.clone(), days);
        }
    }

    private record Line(String word, int[] numbers) {
    }

    String text = "";
    int n;
    int[] across, tools;
    int[][] liking;
    List<Deed> deeds;
    boolean[] forbidden;
    int[] does = none(8), did = new int[8];
    int days = 0;
    List<Told> wishes = new ArrayList<>(), sights = new ArrayList<>();
    Image[] kept = new Image[2];

    Model() {
        newStreet(2);
    }

    private static int[] none(int length) {
        int[] row = new int[length];
        Arrays.fill(row, NONE);
        return row;
    }

    private void newStreet(int houses) {
        n = houses;
        across = none(8);
        tools = new int[8];
        liking = new int[8][8];
        deeds = new ArrayList<>();
        forbidden = new boolean[6];
        does = none(8);
    }

    // ---- the text

    int write(long bytes, int count) {
        if (count < 1 || count > 8) {
            return OUTSIDE;
        }
        if (text.length() + count > 200) {
            return FULL;
        }
        for (int i = 0; i < count; i++) {
            text += (char) ((bytes >>> (8 * i)) & 0xff);
        }
        return text.length();
    }

    int erase() {
        int length = text.length();
        text = "";
        return length;
    }

    int fault() {
        return read(new ArrayList<>());
    }

    private int read(List<Line> lines) {
        List<String> tokens = new ArrayList<>();
        List<Integer> places = new ArrayList<>();
        Matcher matcher = TOKEN.matcher(text);
        while (matcher.find()) {
            tokens.add(matcher.group());
            places.add(matcher.start());
        }
        tokens.add("");
        places.add(text.length());
        int houses = n, known = deeds.size(), i = 0;
        for (int line = 1; ; line++) {
            String word = tokens.get(i);
            String form = FORMS.get(word);
            boolean makes = KINDS.contains(word);
            if (form == null || makes && known >= 6) {
                return places.get(i);
            }
            i++;
            int[] numbers = new int[form.length()];
            for (int k = 0; k < form.length(); k++, i++) {
                String token = tokens.get(i);
                if (!token.matches("[0-9]{1,2}")) {
                    return places.get(i);
                }
                int number = numbers[k] = Integer.parseInt(token);
                boolean stands = switch (form.charAt(k)) {
                    case 'N' -> number >= 2 && number <= 8;
                    case 'A' -> number < houses;
                    case 'B' -> number < houses && !(word.equals("like") && number == numbers[0]);
                    case 'D' -> number < known;
                    case 'S' -> number < 16;
                    default -> number < 10;
                };
                if (!stands) {
                    return places.get(i);
                }
            }
            if (word.equals("street")) {
                houses = numbers[0];
                known = 0;
            }
            if (makes) {
                known++;
            }
            lines.add(new Line(word, numbers));
            if (tokens.get(i).isEmpty()) {
                return NONE;
            }
            if (!tokens.get(i).equals(";") || line == 10) {
                return places.get(i);
            }
            i++;
        }
    }

    int street() {
        List<Line> lines = new ArrayList<>();
        if (read(lines) != NONE) {
            return NOT;
        }
        for (Line line : lines) {
            perform(line.word, line.numbers);
        }
        text = "";
        days = 0;
        did = new int[8];
        wishes.clear();
        sights.clear();
        kept = new Image[2];
        return lines.size();
    }

    private void perform(String word, int[] v) {
        switch (word) {
            case "street" -> newStreet(v[0]);
            case "across" -> across[v[0]] = v[1];
            case "gap" -> across[v[0]] = NONE;
            case "tools" -> tools[v[0]] = v[1];
            case "does" -> does[v[0]] = can(v[0], v[1]) ? v[1] : NONE;
            case "idle" -> does[v[0]] = NONE;
            case "like" -> liking[v[0]][v[1]] = liking[v[1]][v[0]] = v[2];
            case "forbid" -> forbidden[v[0]] = true;
            case "allow" -> forbidden[v[0]] = false;
            default -> deeds.add(new Deed(word, v[0], v[1], v[2], v[3]));
        }
    }

    int house(int house, int what) {
        if (!isHouse(house)) {
            return UNKNOWN;
        }
        if (what < 0 || what > 3) {
            return OUTSIDE;
        }
        return new int[] {across[house], tools[house], does[house], did[house]}[what];
    }

    int deed(int deed, int what) {
        if (!isDeed(deed)) {
            return UNKNOWN;
        }
        if (what < 0 || what > 5) {
            return OUTSIDE;
        }
        Deed d = deeds.get(deed);
        return new int[] {KINDS.indexOf(d.kind), d.tools, d.owner, d.good, d.harm, forbidden[deed] ? 1 : 0}[what];
    }

    int as(int deed, int kind) {
        if (!isDeed(deed)) {
            return UNKNOWN;
        }
        if (kind < 0 || kind > 4) {
            return OUTSIDE;
        }
        Map<String, List<Integer>> over = Map.of("plain", List.of(0, 1), "tooled", List.of(0, 2), "either",
                List.of(0, 2, 3), "craft", List.of(0, 2, 4));
        if (!over.get(deeds.get(deed).kind).contains(kind)) {
            return NOT;
        }
        int bits = 0;
        for (int house = 0; house < n; house++) {
            bits += can(house, deed) ? 1 << house : 0;
        }
        return bits;
    }

    // ---- can, and days

    private boolean isHouse(int house) {
        return house >= 0 && house < n;
    }

    private boolean isDeed(int deed) {
        return deed >= 0 && deed < deeds.size();
    }

    boolean can(int house, int deed) {
        Deed d = deeds.get(deed);
        boolean all = true, any = false;
        for (int tool = 0; tool < 4; tool++) {
            if ((d.tools & 1 << tool) != 0) {
                boolean holds = (tools[house] & 1 << tool) != 0;
                all = all && holds;
                any = any || holds;
            }
        }
        boolean able = switch (d.kind) {
            case "plain" -> true;
            case "tooled" -> all;
            case "either" -> any;
            default -> all || d.owner == house;
        };
        return able && (!forbidden[deed] || d.owner == house);
    }

    private int[] nextDay(int[] row) {
        int[] next = none(8);
        for (int house = 0; house < n; house++) {
            if (across[house] != NONE && row[across[house]] != NONE && can(house, row[across[house]])) {
                next[house] = row[across[house]];
            }
        }
        return next;
    }

    private int[] inDays(int[] row, int t) {
        int[] at = row;
        for (int day = 0; day < t; day++) {
            at = nextDay(at);
        }
        return at;
    }

    int set(int house, int deed) {
        if (!isHouse(house) || deed != NONE && !isDeed(deed)) {
            return UNKNOWN;
        }
        if (deed != NONE && !can(house, deed)) {
            return NOT;
        }
        int was = does[house];
        does = does.clone();
        does[house] = deed;
        return was;
    }

    int go(int count) {
        if (count < 1 || count > 99) {
            return OUTSIDE;
        }
        if (days + count > 9999) {
            return FULL;
        }
        for (int day = 0; day < count; day++) {
            for (int house = 0; house < n; house++) {
                did[house] += does[house] == NONE ? 0 : 1;
            }
            does = nextDay(does);
            days++;
        }
        return days;
    }

    // ---- foretold

    private static boolean outside(int t, int most) {
        return t < 0 || t > most;
    }

    int later(int house, int t) {
        if (!isHouse(house)) {
            return UNKNOWN;
        }
        return outside(t, 99) ? OUTSIDE : inDays(does, t)[house];
    }

    int again(int what) {
        if (outside(what, 1)) {
            return OUTSIDE;
        }
        List<String> rows = new ArrayList<>();
        int[] row = does;
        while (!rows.contains(Arrays.toString(row))) {
            rows.add(Arrays.toString(row));
            row = nextDay(row);
        }
        int ahead = rows.indexOf(Arrays.toString(row));
        return what == 0 ? ahead : rows.size() - ahead;
    }

    /** Only one house can bring a deed there: try each alone. */
    int first(int house, int deed, int t) {
        if (!isHouse(house) || !isDeed(deed)) {
            return UNKNOWN;
        }
        if (outside(t, 99)) {
            return OUTSIDE;
        }
        for (int other = 0; other < n; other++) {
            int[] row = none(8);
            row[other] = deed;
            if (can(other, deed) && inDays(row, t)[house] == deed) {
                return other;
            }
        }
        return NONE;
    }

    int lack(int house, int deed, int t) {
        if (!isHouse(house) || !isDeed(deed)) {
            return UNKNOWN;
        }
        if (outside(t, 99)) {
            return OUTSIDE;
        }
        List<Integer> way = new ArrayList<>(List.of(house));
        for (int at = house, i = 0; i < t; i++) {
            at = across[at];
            if (at == NONE) {
                return NONE;
            }
            way.add(at);
        }
        Deed d = deeds.get(deed);
        return way.stream().distinct().mapToInt(at -> {
            int missing = 0, all = 0;
            for (int tool = 1; tool < 16; tool *= 2) {
                all += d.tools / tool % 2;
                missing += d.tools / tool % 2 == 1 && tools[at] / tool % 2 == 0 ? 1 : 0;
            }
            return switch (d.kind) {
                case "plain" -> 0;
                case "tooled" -> missing;
                case "either" -> all > 0 && missing == all ? 1 : 0;
                default -> d.owner == at ? 0 : missing;
            };
        }).sum();
    }

    int wish(int house, int deed, int t) {
        if (!isHouse(house) || !isDeed(deed)) {
            return UNKNOWN;
        }
        return outside(t, 99) ? OUTSIDE : add(wishes, house, deed, t);
    }

    private static int add(List<Told> told, int house, int deed, int t) {
        if (told.size() == 8) {
            return FULL;
        }
        told.add(new Told(house, deed, t));
        return told.size();
    }

    private static int clear(List<Told> told) {
        int size = told.size();
        told.clear();
        return size;
    }

    int drop() {
        return clear(wishes);
    }

    /** How many rows there are in all: what is tried one by one has to stay small. */
    long rowsInAll() {
        long rows = 1;
        for (int house = 0; house < n; house++) {
            int able = 1;
            for (int deed = 0; deed < deeds.size(); deed++) {
                able += can(house, deed) ? 1 : 0;
            }
            rows *= able;
        }
        return rows;
    }

    /** How many rows bring about all that is told, and what each house does in one of them, by bits. */
    private int[] tryRows(List<Told> told) {
        int[] may = new int[9];
        tryRows(told, none(8), 0, may);
        return may;
    }

    private void tryRows(List<Told> told, int[] row, int house, int[] may) {
        if (house == n) {
            for (Told one : told) {
                if (inDays(row, one.t)[one.house] != one.deed) {
                    return;
                }
            }
            may[8]++;
            for (int other = 0; other < n; other++) {
                may[other] |= 1 << (row[other] == NONE ? 6 : row[other]);
            }
            return;
        }
        for (int deed = NONE; deed < deeds.size(); deed++) {
            if (deed == NONE || can(house, deed)) {
                row[house] = deed;
                tryRows(told, row, house + 1, may);
            }
        }
        row[house] = NONE;
    }

    int ways() {
        return tryRows(wishes)[8];
    }

    private int sumOf(int[] row, int what) {
        int sum = 0;
        for (int house = 0; house < n; house++) {
            if (row[house] != NONE) {
                Deed d = deeds.get(row[house]);
                sum += what == 0 ? d.good : d.owner == house ? 0 : d.harm;
            }
        }
        return sum;
    }

    int sum(int count, int what) {
        if (count < 1 || outside(count, 99) || outside(what, 1)) {
            return OUTSIDE;
        }
        int sum = 0;
        for (int day = 0; day < count; day++) {
            sum += sumOf(inDays(does, day), what);
        }
        return sum;
    }

    int council(int count, int harm, int what) {
        if (count < 1 || outside(count, 99) || outside(harm, 9999) || outside(what, 1)) {
            return OUTSIDE;
        }
        boolean[] told = forbidden;
        int best = NONE, most = NONE;
        for (int set = (1 << deeds.size()) - 1; set >= 0; set--) {
            forbidden = new boolean[6];
            for (int deed = 0; deed < 6; deed++) {
                forbidden[deed] = (set & 1 << deed) != 0;
            }
            int good = 0, done = 0;
            int[] row = does;
            for (int day = 0; day < count; day++) {
                good += sumOf(row, 0);
                done += sumOf(row, 1);
                row = nextDay(row);
            }
            if (done <= harm && good >= most) {
                best = set;
                most = good;
            }
        }
        forbidden = told;
        return what == 0 ? best : most;
    }

    int idle(int house, int t, int k) {
        if (!isHouse(house)) {
            return UNKNOWN;
        }
        if (outside(t, 99) || outside(k, 99)) {
            return OUTSIDE;
        }
        int[] would = inDays(does, t + k), without = inDays(does, t).clone();
        without[house] = NONE;
        without = inDays(without, k);
        int bits = 0;
        for (int other = 0; other < n; other++) {
            bits |= would[other] != without[other] ? 1 << other : 0;
        }
        return bits;
    }

    /** All that illness may bring, row by row: few houses and days only. */
    long odds(int house, int t, int p, int part) {
        if (!isHouse(house)) {
            return UNKNOWN;
        }
        if (outside(t, 9) || outside(p, 10) || outside(part, 1)) {
            return OUTSIDE;
        }
        Map<String, BigInteger> weights = new HashMap<>();
        Map<String, int[]> rows = new HashMap<>();
        fallIll(does, 0, p, BigInteger.ONE, weights, rows);
        for (int day = 0; day < t; day++) {
            Map<String, BigInteger> nextWeights = new HashMap<>();
            Map<String, int[]> nextRows = new HashMap<>();
            for (Map.Entry<String, int[]> entry : rows.entrySet()) {
                fallIll(nextDay(entry.getValue()), 0, p, weights.get(entry.getKey()), nextWeights, nextRows);
            }
            weights = nextWeights;
            rows = nextRows;
        }
        BigInteger above = BigInteger.ZERO, below = BigInteger.ZERO;
        for (Map.Entry<String, int[]> entry : rows.entrySet()) {
            BigInteger weight = weights.get(entry.getKey());
            below = below.add(weight);
            above = entry.getValue()[house] == NONE ? above : above.add(weight);
        }
        return (part == 0 ? above : below).divide(above.gcd(below)).longValueExact();
    }

    private void fallIll(int[] row, int house, int p, BigInteger weight, Map<String, BigInteger> weights,
            Map<String, int[]> rows) {
        if (weight.signum() == 0) {
            return;
        }
        if (house == n) {
            weights.merge(Arrays.toString(row), weight, BigInteger::add);
            rows.put(Arrays.toString(row), row);
            return;
        }
        int[] ill = row.clone();
        ill[house] = NONE;
        fallIll(ill, house + 1, p, weight.multiply(BigInteger.valueOf(p)), weights, rows);
        fallIll(row, house + 1, p, weight.multiply(BigInteger.valueOf(10 - p)), weights, rows);
    }

    int pair(int house) {
        if (house != NONE && !isHouse(house)) {
            return UNKNOWN;
        }
        int[] best = new int[9];
        best[8] = NONE;
        int[] row = new int[8];
        Arrays.fill(row, 9);
        tryPairs(row, n % 2 == 1, 0, best);
        return house == NONE ? best[8] : best[house];
    }

    /** In the order in which the document likes them; 9: not told yet. */
    private void tryPairs(int[] row, boolean mayBeAlone, int liked, int[] best) {
        int house = 0;
        while (house < n && row[house] != 9) {
            house++;
        }
        if (house == n) {
            if (liked > best[8]) {
                System.arraycopy(row, 0, best, 0, 8);
                best[8] = liked;
            }
            return;
        }
        for (int other = house + 1; other < n; other++) {
            if (row[other] == 9) {
                row[house] = other;
                row[other] = house;
                tryPairs(row, mayBeAlone, liked + liking[house][other], best);
                row[other] = 9;
            }
        }
        if (mayBeAlone) {
            row[house] = NONE;
            tryPairs(row, false, liked, best);
        }
        row[house] = 9;
    }

    int town(int what) {
        if (outside(what, 2)) {
            return OUTSIDE;
        }
        List<List<Integer>> rounds = new ArrayList<>();
        int stuck = 0;
        for (int house = 0; house < n; house++) {
            List<Integer> way = new ArrayList<>();
            int at = house;
            while (at != NONE && !way.contains(at)) {
                way.add(at);
                at = across[at];
            }
            stuck |= at == NONE ? 1 << house : 0;
            way.sort(null);
            if (at == house && !rounds.contains(way)) {
                rounds.add(way);
            }
        }
        int longest = rounds.stream().mapToInt(List::size).max().orElse(0);
        return new int[] {rounds.size(), longest, stuck}[what];
    }

    // ---- what was seen

    int seen(int house, int deed, int t) {
        if (!isHouse(house) || deed != NONE && !isDeed(deed)) {
            return UNKNOWN;
        }
        return outside(t, 99) ? OUTSIDE : add(sights, house, deed, t);
    }

    int forget() {
        return clear(sights);
    }

    int fits(int house) {
        if (house != NONE && !isHouse(house)) {
            return UNKNOWN;
        }
        return tryRows(sights)[house == NONE ? 8 : house];
    }

    int keep(int k) {
        if (outside(k, 1)) {
            return UNKNOWN;
        }
        kept[k] = new Image(does, did, days).copy();
        return days;
    }

    int back(int k) {
        if (outside(k, 1)) {
            return UNKNOWN;
        }
        if (kept[k] == null) {
            return NOT;
        }
        Image image = kept[k].copy();
        does = image.does;
        did = image.did;
        days = image.days;
        return days;
    }

    int count(int what) {
        return outside(what, 5) ? OUTSIDE
                : new int[] {n, deeds.size(), days, wishes.size(), sights.size(), text.length()}[what];
    }
}
