/** A town in which each house does today what the one across did yesterday, if it can. */
public final class MirrorHour {
    public static final int NONE = -1, UNKNOWN = -2, OUTSIDE = -3, NOT = -4, FULL = -5;

    private static final int MOST_HOUSES = 8, FEWEST_HOUSES = 2, MOST_DEEDS = 6, MOST_TOLD = 8, MOST_KEPT = 2;
    private static final int MOST_BYTES = 200, MOST_LINES = 10, MOST_NUMBERS = 4, MOST_AT_ONCE = 8;
    private static final int MOST_DAYS = 99, MOST_DAYS_GONE = 9999, MOST_HARM = 9999, MOST_ILL_DAYS = 9;
    private static final int ALL_TOOLS = 15, ALL_DEEDS = 63, NOTHING = 1 << MOST_DEEDS;

    /** The kinds of deeds; the words that tell of them bear the same numbers. */
    private static final int PLAIN = 0, TOOLED = 1, EITHER = 2, CRAFT = 3;

    private static final int STREET = 4, ACROSS = 5, GAP = 6, TOOLS = 7, DOES = 8, IDLE = 9, LIKE = 10, FORBID = 11,
            ALLOW = 12;

    /**
     * All is settled after 8 days at most: by then each way has met every house that it ever meets. From there on it
     * comes again after 15 days at most (rounds of 3 and of 5 houses): 32 days show any return.
     */
    private static final int DAYS_OF_RETURN = 32;

    private final Text text = new Text();
    private final Town town = new Town();
    private final Image now = new Image();
    private final Image[] kept = new Image[MOST_KEPT];
    private final Told wishes = new Told();
    private final Told sights = new Told();

    /** Rows that calls use again, so that no call makes new ones. */
    private final int[] ahead = new int[MOST_HOUSES];
    private final int[] otherwise = new int[MOST_HOUSES];
    private final int[] may = new int[MOST_HOUSES];
    private final int[] states = new int[DAYS_OF_RETURN];
    private final int[] bestLiking = new int[1 << MOST_HOUSES];
    private final Tally allowedDeeds = new Tally();
    private final Tally forbiddenDeeds = new Tally();

    public MirrorHour() {
        for (int k = 0; k < MOST_KEPT; k++) {
            kept[k] = new Image();
        }
    }

    // ---- what is told

    public int write(long bytes, int n) {
        if (!within(n, 1, MOST_AT_ONCE)) {
            return OUTSIDE;
        }
        if (text.length + n > MOST_BYTES) {
            return FULL;
        }
        for (int i = 0; i < n; i++) {
            text.append((int) (bytes >> 8 * i & 255));
        }
        return text.length;
    }

    public int erase() {
        return text.empty();
    }

    public int fault() {
        return text.faultPlace(town.houses, town.deeds);
    }

    public int street() {
        if (text.faultPlace(town.houses, town.deeds) != NONE) {
            return NOT;
        }
        for (int line = 0; line < text.lines; line++) {
            perform(line);
        }
        now.restart();
        wishes.clear();
        sights.clear();
        for (int k = 0; k < MOST_KEPT; k++) {
            kept[k].holds = false;
        }
        text.empty();
        return text.lines;
    }

    public int house(int house, int what) {
        if (!town.hasHouse(house)) {
            return UNKNOWN;
        }
        switch (what) {
            case 0:
                return town.across[house];
            case 1:
                return town.tools[house];
            case 2:
                return now.does[house];
            case 3:
                return now.did[house];
            default:
                return OUTSIDE;
        }
    }

    public int deed(int deed, int what) {
        if (!town.hasDeed(deed)) {
            return UNKNOWN;
        }
        switch (what) {
            case 0:
                return town.kinds[deed];
            case 1:
                return town.needs[deed];
            case 2:
                return town.owners[deed];
            case 3:
                return town.goods[deed];
            case 4:
                return town.harms[deed];
            case 5:
                return has(town.forbidden, deed) ? 1 : 0;
            default:
                return OUTSIDE;
        }
    }

    public int as(int deed, int kind) {
        if (!town.hasDeed(deed)) {
            return UNKNOWN;
        }
        if (!within(kind, 0, 4)) {
            return OUTSIDE;
        }
        return town.isOfKind(deed, kind) ? town.doers(deed) : NOT;
    }

    // ---- days

    public int set(int house, int deed) {
        if (!town.hasHouse(house) || !isDeedOrNone(deed)) {
            return UNKNOWN;
        }
        if (deed != NONE && !town.can(house, deed, town.forbidden)) {
            return NOT;
        }
        int before = now.does[house];
        now.does[house] = deed;
        return before;
    }

    public int go(int n) {
        if (!within(n, 1, MOST_DAYS)) {
            return OUTSIDE;
        }
        if (now.days + n > MOST_DAYS_GONE) {
            return FULL;
        }
        for (int day = 0; day < n; day++) {
            now.noteDoers();
            town.passDay(now.does, town.forbidden);
        }
        now.days += n;
        return now.days;
    }

    // ---- foretold

    public int later(int house, int t) {
        if (!town.hasHouse(house)) {
            return UNKNOWN;
        }
        if (!within(t, 0, MOST_DAYS)) {
            return OUTSIDE;
        }
        foresee(t);
        return ahead[house];
    }

    public int again(int what) {
        if (!within(what, 0, 1)) {
            return OUTSIDE;
        }
        foreseeStates();
        for (int day = 0; day < DAYS_OF_RETURN; day++) {
            for (int next = day + 1; next < DAYS_OF_RETURN; next++) {
                if (states[day] == states[next]) {
                    return what == 0 ? day : next - day;
                }
            }
        }
        return NONE;
    }

    public int first(int house, int deed, int t) {
        int refusal = refusalOf(house, deed, t);
        if (refusal != 0) {
            return refusal;
        }
        return has(town.passing(house, t), deed) ? town.wayEnd(house, t) : NONE;
    }

    public int lack(int house, int deed, int t) {
        int refusal = refusalOf(house, deed, t);
        if (refusal != 0) {
            return refusal;
        }
        int at = house, met = 0, lacking = 0;
        for (int step = 0; step <= t; step++) {
            if (at == NONE) {
                return NONE;
            }
            if (!has(met, at)) {
                lacking += town.lacking(at, deed);
            }
            met |= 1 << at;
            at = town.across[at];
        }
        return lacking;
    }

    public int wish(int house, int deed, int t) {
        int refusal = refusalOf(house, deed, t);
        return refusal != 0 ? refusal : wishes.add(house, deed, t);
    }

    public int drop() {
        return wishes.clear();
    }

    public int ways() {
        return rowsThatFit(wishes);
    }

    public int sum(int days, int what) {
        if (!within(days, 1, MOST_DAYS) || !within(what, 0, 1)) {
            return OUTSIDE;
        }
        tally(allowedDeeds, days, town.forbidden);
        int total = 0;
        for (int deed = 0; deed < town.deeds; deed++) {
            total += what == 0 ? allowedDeeds.good[deed] : allowedDeeds.harm[deed];
        }
        return total;
    }

    public int council(int days, int harm, int what) {
        if (!within(days, 1, MOST_DAYS) || !within(harm, 0, MOST_HARM) || !within(what, 0, 1)) {
            return OUTSIDE;
        }
        // What comes of a deed hangs on no other deed: two courses of days tell of all sets.
        tally(allowedDeeds, days, 0);
        tally(forbiddenDeeds, days, ALL_DEEDS);
        int mostGood = NONE, chosen = NONE;
        for (int set = 0; set < 1 << town.deeds; set++) {
            int good = 0, done = 0;
            for (int deed = 0; deed < town.deeds; deed++) {
                Tally tally = has(set, deed) ? forbiddenDeeds : allowedDeeds;
                good += tally.good[deed];
                done += tally.harm[deed];
            }
            if (done <= harm && good > mostGood) {
                mostGood = good;
                chosen = set;
            }
        }
        return what == 0 ? chosen : mostGood;
    }

    public int idle(int house, int t, int k) {
        if (!town.hasHouse(house)) {
            return UNKNOWN;
        }
        if (!within(t, 0, MOST_DAYS) || !within(k, 0, MOST_DAYS)) {
            return OUTSIDE;
        }
        foresee(t);
        System.arraycopy(ahead, 0, otherwise, 0, MOST_HOUSES);
        otherwise[house] = NONE;
        for (int day = 0; day < k; day++) {
            town.passDay(ahead, town.forbidden);
            town.passDay(otherwise, town.forbidden);
        }
        int unlike = 0;
        for (int other = 0; other < town.houses; other++) {
            if (ahead[other] != otherwise[other]) {
                unlike |= 1 << other;
            }
        }
        return unlike;
    }

    public long odds(int house, int t, int p, int part) {
        if (!town.hasHouse(house)) {
            return UNKNOWN;
        }
        if (!within(t, 0, MOST_ILL_DAYS) || !within(p, 0, 10) || !within(part, 0, 1)) {
            return OUTSIDE;
        }
        foresee(t);
        int above = ahead[house] == NONE ? 0 : 10 - p, below = 10;
        if (above % 2 == 0) {
            above /= 2;
            below /= 2;
        }
        if (above % 5 == 0) {
            above /= 5;
            below /= 5;
        }
        // One house on each day has to be well, today and then: t + 1 of them, each by itself.
        return power(part == 0 ? above : below, t + 1);
    }

    public int pair(int house) {
        if (house != NONE && !town.hasHouse(house)) {
            return UNKNOWN;
        }
        likeBest();
        return house == NONE ? bestLiking[(1 << town.houses) - 1] : bestPartner(house);
    }

    public int town(int what) {
        if (!within(what, 0, 2)) {
            return OUTSIDE;
        }
        int rounds = 0, longest = 0, stuck = 0;
        for (int house = 0; house < town.houses; house++) {
            int round = town.roundOf(house);
            // Each round is counted at its least house.
            if (round != 0 && Integer.numberOfTrailingZeros(round) == house) {
                rounds++;
                longest = Math.max(longest, Integer.bitCount(round));
            }
            if (town.wayEnd(house, town.houses) == NONE) {
                stuck |= 1 << house;
            }
        }
        return what == 0 ? rounds : what == 1 ? longest : stuck;
    }

    // ---- what was seen

    public int seen(int house, int deed, int t) {
        if (!town.hasHouse(house) || !isDeedOrNone(deed)) {
            return UNKNOWN;
        }
        return within(t, 0, MOST_DAYS) ? sights.add(house, deed, t) : OUTSIDE;
    }

    public int forget() {
        return sights.clear();
    }

    public int fits(int house) {
        if (house != NONE && !town.hasHouse(house)) {
            return UNKNOWN;
        }
        int rows = rowsThatFit(sights);
        return house == NONE || rows == 0 ? rows : may[house];
    }

    public int keep(int k) {
        if (!within(k, 0, MOST_KEPT - 1)) {
            return UNKNOWN;
        }
        kept[k].copy(now);
        kept[k].holds = true;
        return now.days;
    }

    public int back(int k) {
        if (!within(k, 0, MOST_KEPT - 1)) {
            return UNKNOWN;
        }
        if (!kept[k].holds) {
            return NOT;
        }
        now.copy(kept[k]);
        return now.days;
    }

    public int count(int what) {
        switch (what) {
            case 0:
                return town.houses;
            case 1:
                return town.deeds;
            case 2:
                return now.days;
            case 3:
                return wishes.size;
            case 4:
                return sights.size;
            case 5:
                return text.length;
            default:
                return OUTSIDE;
        }
    }

    private static boolean within(int number, int least, int most) {
        return number >= least && number <= most;
    }

    private static boolean has(int set, int bit) {
        return (set >> bit & 1) != 0;
    }

    private static long power(long base, int exponent) {
        long product = 1;
        for (int i = 0; i < exponent; i++) {
            product *= base;
        }
        return product;
    }

    private boolean isDeedOrNone(int deed) {
        return deed == NONE || town.hasDeed(deed);
    }

    /** Why a call with a house, a deed and days is refused; 0: it is not. */
    private int refusalOf(int house, int deed, int t) {
        if (!town.hasHouse(house) || !town.hasDeed(deed)) {
            return UNKNOWN;
        }
        return within(t, 0, MOST_DAYS) ? 0 : OUTSIDE;
    }

    private void perform(int line) {
        int a = text.number(line, 0), b = text.number(line, 1), c = text.number(line, 2), d = text.number(line, 3);
        int word = text.words[line];
        switch (word) {
            case STREET:
                town.restart(a);
                now.idleAll();
                break;
            case ACROSS:
                town.across[a] = b;
                break;
            case GAP:
                town.across[a] = NONE;
                break;
            case TOOLS:
                town.tools[a] = b;
                break;
            case DOES:
                now.does[a] = town.can(a, b, town.forbidden) ? b : NONE;
                break;
            case IDLE:
                now.does[a] = NONE;
                break;
            case LIKE:
                town.setLiking(a, b, c);
                break;
            case FORBID:
                town.forbidden |= 1 << a;
                break;
            case ALLOW:
                town.forbidden &= ~(1 << a);
                break;
            default:
                town.addDeed(word, a, b, c, d);
        }
    }

    /** Puts into ahead what the houses do in t days. */
    private void foresee(int t) {
        System.arraycopy(now.does, 0, ahead, 0, MOST_HOUSES);
        for (int day = 0; day < t; day++) {
            town.passDay(ahead, town.forbidden);
        }
    }

    /** Puts what all houses do into one number a day, so that days can be compared. */
    private void foreseeStates() {
        foresee(0);
        for (int day = 0; day < DAYS_OF_RETURN; day++) {
            int state = 0;
            for (int house = 0; house < town.houses; house++) {
                state = state * (MOST_DEEDS + 1) + ahead[house] + 1;
            }
            states[day] = state;
            town.passDay(ahead, town.forbidden);
        }
    }

    /** Counts good and harm of days by deeds, as if other deeds were forbidden from tomorrow on. */
    private void tally(Tally tally, int days, int forbidden) {
        tally.clear();
        foresee(0);
        for (int day = 0; day < days; day++) {
            for (int house = 0; house < town.houses; house++) {
                if (ahead[house] != NONE) {
                    tally.note(town, house, ahead[house]);
                }
            }
            town.passDay(ahead, forbidden);
        }
    }

    /** How many first rows bring about all that is told; may holds then what each house may do in them. */
    private int rowsThatFit(Told told) {
        for (int house = 0; house < town.houses; house++) {
            may[house] = town.abilities(house) | NOTHING;
        }
        for (int i = 0; i < told.size; i++) {
            narrow(told.houses[i], told.deeds[i], told.days[i]);
        }
        int rows = 1;
        for (int house = 0; house < town.houses; house++) {
            rows *= Integer.bitCount(may[house]);
        }
        return rows;
    }

    private void narrow(int house, int deed, int t) {
        int end = town.wayEnd(house, t);
        if (end == NONE) {
            // Nothing comes through a gap: no row fits a deed there, every row fits nothing.
            if (deed != NONE) {
                may[house] = 0;
            }
            return;
        }
        int passing = town.passing(house, t);
        may[end] &= deed == NONE ? ~passing : passing & 1 << deed;
    }

    /** Puts into bestLiking the greatest liking by pairs within each set of houses. */
    private void likeBest() {
        bestLiking[0] = 0;
        for (int set = 1; set < 1 << town.houses; set++) {
            int least = Integer.numberOfTrailingZeros(set), left = set & ~(1 << least);
            int best = Integer.bitCount(set) % 2 == 1 ? bestLiking[left] : NONE;
            for (int other = least + 1; other < town.houses; other++) {
                if (has(left, other)) {
                    best = Math.max(best, likingWith(least, other, left));
                }
            }
            bestLiking[set] = best;
        }
    }

    private int likingWith(int house, int other, int left) {
        return town.liking[house * MOST_HOUSES + other] + bestLiking[left & ~(1 << other)];
    }

    private int bestPartner(int house) {
        int set = (1 << town.houses) - 1;
        for (int least = 0; least < town.houses; least++) {
            if (has(set, least)) {
                int other = leastPartner(least, set);
                if (least == house) {
                    return other;
                }
                if (other == house) {
                    return least;
                }
                set &= ~(1 << least);
                if (other != NONE) {
                    set &= ~(1 << other);
                }
            }
        }
        return NONE;
    }

    /** The least house that the least one of a set can be with at the greatest liking; NONE: it is alone. */
    private int leastPartner(int least, int set) {
        int left = set & ~(1 << least);
        for (int other = least + 1; other < town.houses; other++) {
            if (has(left, other) && likingWith(least, other, left) == bestLiking[set]) {
                return other;
            }
        }
        return NONE;
    }

    /** THE TEXT, and its lines as they were read last. */
    private static final class Text {
        private static final int LETTER = 0, DIGIT = 1, OTHER = 2;

        private final int[] bytes = new int[MOST_BYTES];
        private int length;

        /** The token that was read last: from begin to ahead of end. */
        private int begin, end;

        /** How many there are behind the lines that were read. */
        private int houses, deeds;

        private final int[] words = new int[MOST_LINES];
        private final int[] numbers = new int[MOST_LINES * MOST_NUMBERS];
        private int lines;

        private void append(int value) {
            if (length < MOST_BYTES) {
                bytes[length] = value;
                length++;
            }
        }

        private int empty() {
            int before = length;
            length = 0;
            return before;
        }

        private int number(int line, int i) {
            return numbers[line * MOST_NUMBERS + i];
        }

        /** Reads the lines, of a town with so many houses and deeds: where the first fault is, or NONE. */
        private int faultPlace(int housesBefore, int deedsBefore) {
            houses = housesBefore;
            deeds = deedsBefore;
            lines = 0;
            end = 0;
            while (lines < MOST_LINES) {
                if (!readLine()) {
                    return begin;
                }
                lines++;
                readToken();
                if (begin == length) {
                    return NONE;
                }
                if (bytes[begin] != ';') {
                    return begin;
                }
            }
            return begin;
        }

        /** Reads a line; if it is at fault, the token at fault was read last. */
        private boolean readLine() {
            readToken();
            int word = wordRead();
            if (word == NONE || word <= CRAFT && deeds == MOST_DEEDS) {
                return false;
            }
            words[lines] = word;
            String form = formOf(word);
            for (int i = 0; i < form.length(); i++) {
                readToken();
                int number = numberRead();
                if (!within(number, leastOf(form.charAt(i)), mostOf(form.charAt(i)))) {
                    return false;
                }
                if (word == LIKE && i == 1 && number == number(lines, 0)) {
                    return false;
                }
                numbers[lines * MOST_NUMBERS + i] = number;
            }
            if (word == STREET) {
                houses = number(lines, 0);
                deeds = 0;
            } else if (word <= CRAFT) {
                deeds++;
            }
            return true;
        }

        /** Reads the next token; at the end of the text an empty one, which begins there. */
        private void readToken() {
            begin = end;
            while (begin < length && bytes[begin] == ' ') {
                begin++;
            }
            end = begin;
            if (begin == length) {
                return;
            }
            int sort = sortOf(bytes[begin]);
            end++;
            while (sort != OTHER && end < length && sortOf(bytes[end]) == sort) {
                end++;
            }
        }

        private static int sortOf(int value) {
            if (within(value, 'a', 'z')) {
                return LETTER;
            }
            return within(value, '0', '9') ? DIGIT : OTHER;
        }

        private int wordRead() {
            for (int word = PLAIN; word <= ALLOW; word++) {
                if (spells(spellingOf(word))) {
                    return word;
                }
            }
            return NONE;
        }

        private boolean spells(String spelling) {
            if (end - begin != spelling.length()) {
                return false;
            }
            for (int i = 0; i < spelling.length(); i++) {
                if (bytes[begin + i] != spelling.charAt(i)) {
                    return false;
                }
            }
            return true;
        }

        private int numberRead() {
            if (!within(end - begin, 1, 2) || sortOf(bytes[begin]) != DIGIT) {
                return NONE;
            }
            int number = 0;
            for (int i = begin; i < end; i++) {
                number = number * 10 + bytes[i] - '0';
            }
            return number;
        }

        private static String spellingOf(int word) {
            switch (word) {
                case PLAIN:
                    return "plain";
                case TOOLED:
                    return "tooled";
                case EITHER:
                    return "either";
                case CRAFT:
                    return "craft";
                case STREET:
                    return "street";
                case ACROSS:
                    return "across";
                case GAP:
                    return "gap";
                case TOOLS:
                    return "tools";
                case DOES:
                    return "does";
                case IDLE:
                    return "idle";
                case LIKE:
                    return "like";
                case FORBID:
                    return "forbid";
                default:
                    return "allow";
            }
        }

        /** What numbers stand behind a word: N of houses, A a house, D a deed, S tools, V a value. */
        private static String formOf(int word) {
            switch (word) {
                case STREET:
                    return "N";
                case ACROSS:
                    return "AA";
                case GAP:
                case IDLE:
                    return "A";
                case TOOLS:
                    return "AS";
                case DOES:
                    return "AD";
                case LIKE:
                    return "AAV";
                case FORBID:
                case ALLOW:
                    return "D";
                default:
                    return "SAVV";
            }
        }

        private static int leastOf(char sort) {
            return sort == 'N' ? FEWEST_HOUSES : 0;
        }

        private int mostOf(char sort) {
            switch (sort) {
                case 'N':
                    return MOST_HOUSES;
                case 'A':
                    return houses - 1;
                case 'D':
                    return deeds - 1;
                case 'S':
                    return ALL_TOOLS;
                default:
                    return 9;
            }
        }
    }

    /** The houses and deeds as they were told. */
    private static final class Town {
        private int houses, deeds, forbidden;

        private final int[] across = new int[MOST_HOUSES];
        private final int[] tools = new int[MOST_HOUSES];
        private final int[] liking = new int[MOST_HOUSES * MOST_HOUSES];

        private final int[] kinds = new int[MOST_DEEDS];
        private final int[] needs = new int[MOST_DEEDS];
        private final int[] owners = new int[MOST_DEEDS];
        private final int[] goods = new int[MOST_DEEDS];
        private final int[] harms = new int[MOST_DEEDS];

        private final int[] tomorrow = new int[MOST_HOUSES];

        private Town() {
            restart(FEWEST_HOUSES);
        }

        private void restart(int n) {
            houses = n;
            deeds = 0;
            forbidden = 0;
            for (int house = 0; house < MOST_HOUSES; house++) {
                across[house] = NONE;
                tools[house] = 0;
            }
            for (int i = 0; i < liking.length; i++) {
                liking[i] = 0;
            }
        }

        private void addDeed(int kind, int need, int owner, int good, int harm) {
            if (deeds < MOST_DEEDS) {
                kinds[deeds] = kind;
                needs[deeds] = need;
                owners[deeds] = owner;
                goods[deeds] = good;
                harms[deeds] = harm;
                deeds++;
            }
        }

        private void setLiking(int a, int b, int value) {
            liking[a * MOST_HOUSES + b] = value;
            liking[b * MOST_HOUSES + a] = value;
        }

        private boolean hasHouse(int house) {
            return within(house, 0, houses - 1);
        }

        private boolean hasDeed(int deed) {
            return within(deed, 0, deeds - 1);
        }

        private boolean can(int house, int deed, int banned) {
            if (has(banned, deed) && owners[deed] != house) {
                return false;
            }
            switch (kinds[deed]) {
                case PLAIN:
                    return true;
                case EITHER:
                    return (needs[deed] & tools[house]) != 0;
                case CRAFT:
                    return owners[deed] == house || missing(house, deed) == 0;
                default:
                    return missing(house, deed) == 0;
            }
        }

        /** The tools of a deed that a house has not. */
        private int missing(int house, int deed) {
            return needs[deed] & ~tools[house];
        }

        private int lacking(int house, int deed) {
            switch (kinds[deed]) {
                case PLAIN:
                    return 0;
                case EITHER:
                    return needs[deed] != 0 && missing(house, deed) == needs[deed] ? 1 : 0;
                case CRAFT:
                    return owners[deed] == house ? 0 : Integer.bitCount(missing(house, deed));
                default:
                    return Integer.bitCount(missing(house, deed));
            }
        }

        /** Whether a deed is of a kind as kinds are over one another: 0 any deed, then plain to craft from 1 on. */
        private boolean isOfKind(int deed, int kind) {
            boolean isOver = kind == 0 || kind == TOOLED + 1 && kinds[deed] != PLAIN;
            return isOver || kinds[deed] + 1 == kind;
        }

        /** The houses that can do a deed. */
        private int doers(int deed) {
            int set = 0;
            for (int house = 0; house < houses; house++) {
                if (can(house, deed, forbidden)) {
                    set |= 1 << house;
                }
            }
            return set;
        }

        /** The deeds that a house can do. */
        private int abilities(int house) {
            int set = 0;
            for (int deed = 0; deed < deeds; deed++) {
                if (can(house, deed, forbidden)) {
                    set |= 1 << deed;
                }
            }
            return set;
        }

        private void passDay(int[] does, int banned) {
            for (int house = 0; house < houses; house++) {
                tomorrow[house] = mirrored(does, house, banned);
            }
            System.arraycopy(tomorrow, 0, does, 0, houses);
        }

        private int mirrored(int[] does, int house, int banned) {
            int deed = across[house] == NONE ? NONE : does[across[house]];
            return deed != NONE && can(house, deed, banned) ? deed : NONE;
        }

        /** Where the way of a house ends after some steps; NONE: there is a gap ahead of that. */
        private int wayEnd(int house, int steps) {
            int at = house;
            for (int step = 0; step < steps && at != NONE; step++) {
                at = across[at];
            }
            return at;
        }

        /** The deeds that all houses on a way, its first and its last too, can do; none, if there is no such way. */
        private int passing(int house, int steps) {
            int at = house, set = ALL_DEEDS;
            for (int step = 0; step <= steps; step++) {
                if (at == NONE) {
                    return 0;
                }
                set &= abilities(at);
                at = across[at];
            }
            return set;
        }

        /** The houses of the round that a house is on; none, if it is on none. */
        private int roundOf(int house) {
            int at = house, set = 0;
            for (int step = 0; step < houses && at != NONE; step++) {
                set |= 1 << at;
                at = across[at];
                if (at == house) {
                    return set;
                }
            }
            return 0;
        }
    }

    /** What houses do, and what they did on the days that have gone. */
    private static final class Image {
        private final int[] does = new int[MOST_HOUSES];
        private final int[] did = new int[MOST_HOUSES];
        private int days;
        private boolean holds;

        private Image() {
            idleAll();
        }

        private void idleAll() {
            for (int house = 0; house < MOST_HOUSES; house++) {
                does[house] = NONE;
            }
        }

        private void restart() {
            days = 0;
            for (int house = 0; house < MOST_HOUSES; house++) {
                did[house] = 0;
            }
        }

        private void noteDoers() {
            for (int house = 0; house < MOST_HOUSES; house++) {
                if (does[house] != NONE) {
                    did[house]++;
                }
            }
        }

        private void copy(Image other) {
            days = other.days;
            System.arraycopy(other.does, 0, does, 0, MOST_HOUSES);
            System.arraycopy(other.did, 0, did, 0, MOST_HOUSES);
        }
    }

    /** Rows of a house, a deed (or none) and a day: wishes, or what was seen. */
    private static final class Told {
        private final int[] houses = new int[MOST_TOLD];
        private final int[] deeds = new int[MOST_TOLD];
        private final int[] days = new int[MOST_TOLD];
        private int size;

        private int add(int house, int deed, int day) {
            if (size >= MOST_TOLD) {
                return FULL;
            }
            houses[size] = house;
            deeds[size] = deed;
            days[size] = day;
            size++;
            return size;
        }

        private int clear() {
            int before = size;
            size = 0;
            return before;
        }
    }

    /** Good and harm by deeds. */
    private static final class Tally {
        private final int[] good = new int[MOST_DEEDS];
        private final int[] harm = new int[MOST_DEEDS];

        private void clear() {
            for (int deed = 0; deed < MOST_DEEDS; deed++) {
                good[deed] = 0;
                harm[deed] = 0;
            }
        }

        private void note(Town town, int house, int deed) {
            good[deed] += town.goods[deed];
            if (town.owners[deed] != house) {
                harm[deed] += town.harms[deed];
            }
        }
    }
}
