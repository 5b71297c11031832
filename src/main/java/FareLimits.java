import java.util.Arrays;

/** Seats kept for dearer fares; what each call promises is told in ../shared/DOC.md. */
public final class FareLimits {
    public static final int NONE = -1, BAD = -2, STATE = -3, FULL = -4, OVER = -6;

    private static final long NO = 1L << 63;
    private static final long GREATEST_LONG = ~NO;
    private static final int EMPTY = -5, MISSING = -11, NO_PLACE = -12, BELOW_ZERO = -14, OTHER_KIND = -16;
    private static final int FIRST_FAULT = -100, ROW_ENDS = 100;

    private static final int FARES = 6, MOST_PRICE = 9999;
    private static final int STAGES = 20, PHASES = 4, STAGES_OF_A_PHASE = 5, MOST_ODDS = 100;
    private static final int MOST_SEATS = 30, MOST_HAND = 30, MOST_BOOKED = 40;
    private static final int LEGS = 4, MOST_LENGTH = 9999, MOST_FREE = 99;
    private static final int ROUTES = 12, LETTERS = 3, PRICE_FIGURES = 4, WANTED_FIGURES = 2;
    private static final int TAPE_BYTES = 120, MOST_LETTER = 127, MOST_DAYS = 20;
    private static final int TRAYS = 4, TRAY_PLACES = 20, LISTS = 4, LIST_PLACES = 31;

    private static final int SEATS = 0, CANCEL = 1, NOSHOW = 2, DENIED = 3;
    private static final int[] MOST_OF_A_RULE = {MOST_SEATS, 50, 50, 9999};
    private static final int LENGTH = 0, FREE = 1;
    private static final int REPLAYED = 0, BY_HAND = 1;
    private static final int BEHIND = 4;

    private static final Kind[] KINDS = Kind.values();

    private final Plan plan;
    private final Plan picture;
    private boolean pictured;
    private final Worths worths;
    private final Whole whole;
    private final Chances chances;
    private final Tape tape;
    private final Day day;
    private final StringBuilder page;
    private final Tray[] trays;
    private final long[][] lists;
    private final int[] listSizes;

    public FareLimits() {
        plan = new Plan();
        picture = new Plan();
        worths = new Worths(plan);
        whole = new Whole(plan);
        chances = new Chances(plan);
        tape = new Tape();
        day = new Day(plan, worths);
        page = new StringBuilder();
        trays = new Tray[TRAYS];
        for (int i = 0; i < TRAYS; i++) {
            trays[i] = new Tray();
        }
        lists = new long[LISTS][LIST_PLACES];
        listSizes = new int[LISTS];
        Arrays.fill(listSizes, MISSING);
    }

    // ---- fares and rules

    public int fare(int kind, int price) {
        if (!within(kind, KINDS.length - 1)) {
            return NONE;
        }
        if (price < 1 || price > MOST_PRICE) {
            return BAD;
        }
        if (plan.fareCount >= FARES) {
            return FULL;
        }
        int number = plan.fareCount;
        plan.fares[number].begin(KINDS[kind], price);
        plan.fareCount++;
        worths.forget();
        return number;
    }

    public int of(int fare, int what) {
        if (!plan.hasFare(fare) || !within(what, 1 + PHASES)) {
            return NONE;
        }
        Fare asked = plan.fares[fare];
        if (what == 0) {
            return asked.kind.number;
        }
        return what == 1 ? asked.price : asked.odds[what - 2];
    }

    public int odds(int fare, int phase, int v) {
        if (!plan.hasFare(fare) || !within(phase, PHASES - 1)) {
            return NONE;
        }
        int[] odds = plan.fares[fare].odds;
        if (!within(v, MOST_ODDS) || plan.oddsTogether(phase) - odds[phase] + v > MOST_ODDS) {
            return BAD;
        }
        int before = odds[phase];
        odds[phase] = v;
        worths.forget();
        return before;
    }

    public int drop() {
        if (plan.fareCount < 1) {
            return STATE;
        }
        plan.fareCount--;
        worths.forget();
        return plan.fareCount;
    }

    public int rule(int what, int v) {
        if (!within(what, DENIED)) {
            return NONE;
        }
        if (!within(v, MOST_OF_A_RULE[what])) {
            return BAD;
        }
        int before = plan.rules[what];
        plan.rules[what] = v;
        worths.forget();
        return before;
    }

    public int hand(int fare, int v) {
        if (!plan.hasFare(fare)) {
            return NONE;
        }
        if (!within(v, MOST_HAND)) {
            return BAD;
        }
        int before = plan.fares[fare].hand;
        plan.fares[fare].hand = v;
        return before;
    }

    // ---- worths

    public long shows(int t) {
        return within(t, STAGES) ? Whole.bitsOfDouble(plan.showing(t)) : NO;
    }

    public long net(int fare, int t) {
        return plan.hasFare(fare) && within(t, STAGES)
            ? Whole.bitsOfDouble(plan.netBy(fare, plan.showing(t))) : NO;
    }

    public int netCut(int fare, int t) {
        return plan.hasFare(fare) && within(t, STAGES) ? (int) plan.netBy(fare, plan.showing(t)) : NONE;
    }

    public long worth(int t, int s) {
        return within(t, STAGES) && within(s, plan.rules[SEATS]) ? Whole.bitsOfDouble(worths.row(t)[s]) : NO;
    }

    public int worthShort(int t, int s) {
        return within(t, STAGES) && within(s, plan.rules[SEATS])
            ? Whole.bitsOfFloat((float) worths.row(t)[s]) : NONE;
    }

    public long gross(int t, int s) {
        return within(t, STAGES) && within(s, plan.rules[SEATS]) ? whole.grossOf(t, s) : NO;
    }

    public int taken(int fare, int t, int s) {
        if (!plan.hasFare(fare) || !isStage(t) || s < 1 || s > plan.rules[SEATS]) {
            return NONE;
        }
        return worths.takes(fare, t, s) ? 1 : 0;
    }

    public int kept(int fare, int t) {
        return plan.hasFare(fare) && isStage(t) ? worths.keptFrom(fare, t) : NONE;
    }

    public int limit(int fare, int t) {
        return plan.hasFare(fare) && isStage(t) ? plan.rules[SEATS] - worths.keptFrom(fare, t) : NONE;
    }

    // ---- chances

    public long chance(int t, int b, int k) {
        if (!within(t, STAGES) || !within(b, MOST_BOOKED) || !within(k, MOST_BOOKED)) {
            return NO;
        }
        return Whole.bitsOfDouble(chances.ofShowing(t, b)[k]);
    }

    public long turned(int t, int b) {
        if (!within(t, STAGES) || !within(b, MOST_BOOKED)) {
            return NO;
        }
        chances.ofShowing(t, b);
        return Whole.bitsOfDouble(chances.expectedAbove(plan.rules[SEATS], b));
    }

    public long had(int fare, int t, int b) {
        if (!plan.hasFare(fare) || !within(t, STAGES) || !within(b, MOST_BOOKED)) {
            return NO;
        }
        chances.ofShowing(t, b);
        return Whole.bitsOfDouble(chances.takings(fare, b));
    }

    public int booked(int fare, int t) {
        return plan.hasFare(fare) && within(t, STAGES) ? chances.bestBooked(fare, t) : NONE;
    }

    public long ways(int b, int k, int y) {
        return within(b, MOST_BOOKED) && within(k, b) && within(y, 100) ? whole.waysOf(b, k, y) : NO;
    }

    public long demand(int fare, int t, int k) {
        if (!plan.hasFare(fare) || !within(t, STAGES) || !within(k, STAGES)) {
            return NO;
        }
        return Whole.bitsOfDouble(chances.ofAsking(fare, t)[k]);
    }

    public long spill(int fare, int t, int n) {
        if (!plan.hasFare(fare) || !within(t, STAGES) || !within(n, MOST_SEATS)) {
            return NO;
        }
        chances.ofAsking(fare, t);
        return Whole.bitsOfDouble(chances.expectedAbove(n, t));
    }

    // ---- legs and routes

    public int leg(int leg, int what, int v) {
        if (!within(leg, LEGS - 1) || !within(what, FREE)) {
            return NONE;
        }
        boolean isLength = what == LENGTH;
        if (isLength ? v < 1 || v > MOST_LENGTH : !within(v, MOST_FREE)) {
            return BAD;
        }
        int[] numbers = isLength ? plan.network.lengths : plan.network.frees;
        int before = numbers[leg];
        numbers[leg] = v;
        return before;
    }

    public int feed(int letter) {
        if (letter < 1 || letter > MOST_LETTER) {
            return BAD;
        }
        return tape.takeUp(letter) ? tape.size : FULL;
    }

    public int clear() {
        int before = tape.size;
        tape.wipe();
        return before;
    }

    public int book() {
        int fault = tape.faultAsBook(plan.network);
        tape.wipe();
        if (fault != NONE) {
            return FIRST_FAULT - fault;
        }
        for (int i = 0; i < tape.readCount; i++) {
            plan.network.add(tape.read[i]);
        }
        return tape.readCount;
    }

    public int ends() {
        int place = plan.network.placeOf(tape.asName());
        tape.wipe();
        if (place == NONE) {
            return NONE;
        }
        plan.network.remove(place);
        return plan.network.count;
    }

    public int route(int i, int what) {
        if (!within(i, plan.network.count - 1)) {
            return NONE;
        }
        Route asked = plan.network.routes[i];
        switch (what) {
            case 0: return asked.legs;
            case 1: return asked.price;
            case 2: return asked.wanted;
            case 3: return plan.network.letsIn(asked) ? 1 : 0;
            case 4: return asked.letters();
            default: return what >= 10 && what < 10 + asked.letters() ? asked.letter(what - 10) : NONE;
        }
    }

    public int part(int i, int leg) {
        if (!within(i, plan.network.count - 1) || !within(leg, LEGS - 1)) {
            return NONE;
        }
        return Whole.bitsOfFloat(plan.network.partOf(plan.network.routes[i], leg));
    }

    public int cost(int leg) {
        return within(leg, LEGS - 1) ? Whole.bitsOfFloat(plan.network.costOf(leg)) : NONE;
    }

    public int spell() {
        plan.network.spellOn(page);
        return page.length();
    }

    public int paper(int i) {
        return within(i, page.length() - 1) ? page.charAt(i) : NONE;
    }

    // ---- requests and days

    public int replay(int what) {
        return within(what, BEHIND) ? answerRequests(what, REPLAYED) : NONE;
    }

    public int byHand(int what) {
        return within(what, BEHIND - 1) ? answerRequests(what, BY_HAND) : NONE;
    }

    private int answerRequests(int what, int how) {
        int fault = tape.faultAsRequests(plan.fareCount);
        if (fault != NONE) {
            tape.wipe();
            return FIRST_FAULT - fault;
        }
        day.begin();
        for (int place = 0; place < tape.size; place++) {
            day.ask(tape.fareAsked(place), tape.size - place, place, how);
        }
        tape.wipe();
        switch (what) {
            case 0: return day.prices;
            case 1: return day.count;
            case 2: return day.left;
            case 3: return day.places;
            default: return day.pricesBehind();
        }
    }

    public int drawn(int days, int n, int how, int what) {
        if (!within(how, BY_HAND) || !within(what, 3)) {
            return NONE;
        }
        if (days < 1 || days > MOST_DAYS || !isStage(n)) {
            return BAD;
        }
        int prices = 0;
        int asked = 0;
        int had = 0;
        int soldOut = 0;
        for (int i = 0; i < days; i++) {
            day.draw(n, how);
            prices += day.prices;
            asked += day.asked;
            had += day.count;
            soldOut += day.left == 0 ? 1 : 0;
        }
        switch (what) {
            case 0: return prices;
            case 1: return asked;
            case 2: return had;
            default: return soldOut;
        }
    }

    public int seed(int v) {
        int before = plan.seed;
        plan.seed = v;
        return before;
    }

    // ---- trays and lists

    public int tray(int tray, int kind, int n) {
        if (!within(tray, TRAYS - 1) || !within(kind, KINDS.length - 1)) {
            return NONE;
        }
        if (n > TRAY_PLACES) {
            return BAD;
        }
        if (n < 0) {
            return BELOW_ZERO;
        }
        trays[tray].begin(KINDS[kind], n);
        return 1;
    }

    public int lays(int tray, int i, int fare) {
        if (!within(tray, TRAYS - 1) || fare != NONE && !plan.hasFare(fare)) {
            return NONE;
        }
        Tray asked = trays[tray];
        if (asked.size == MISSING) {
            return MISSING;
        }
        if (!within(i, asked.size - 1)) {
            return NO_PLACE;
        }
        if (fare != NONE && !plan.fares[fare].kind.isOf(asked.kind)) {
            return OTHER_KIND;
        }
        asked.places[i] = fare == NONE ? EMPTY : fare;
        return 1;
    }

    public int laid(int tray, int i) {
        if (!within(tray, TRAYS - 1)) {
            return NONE;
        }
        Tray asked = trays[tray];
        if (asked.size == MISSING) {
            return MISSING;
        }
        return within(i, asked.size - 1) ? asked.places[i] : NO_PLACE;
    }

    public int like(int tray, int other) {
        if (!within(tray, TRAYS - 1) || !within(other, TRAYS - 1)) {
            return NONE;
        }
        if (trays[other].size == MISSING) {
            return MISSING;
        }
        trays[tray].become(trays[other]);
        return trays[tray].size;
    }

    public int list(int list, int n) {
        if (!within(list, LISTS - 1)) {
            return NONE;
        }
        if (n > LIST_PLACES) {
            return BAD;
        }
        if (n < 0) {
            return BELOW_ZERO;
        }
        Arrays.fill(lists[list], 0L);
        listSizes[list] = n;
        return 1;
    }

    public int set(int list, int i, long v) {
        if (!within(list, LISTS - 1)) {
            return NONE;
        }
        if (listSizes[list] == MISSING) {
            return MISSING;
        }
        if (!within(i, listSizes[list] - 1)) {
            return NO_PLACE;
        }
        lists[list][i] = v;
        return 1;
    }

    public long get(int list, int i) {
        return within(list, LISTS - 1) && within(i, listSizes[list] - 1) ? lists[list][i] : NO;
    }

    public int judge(int t, int list, int i) {
        if (!within(t, STAGES) || !within(list, LISTS - 1)) {
            return NONE;
        }
        int size = listSizes[list];
        if (size == MISSING) {
            return MISSING;
        }
        if (!within(i, size)) {
            return NO_PLACE;
        }
        double[] row = worths.row(t);
        for (int s = 0; s <= plan.rules[SEATS]; s++) {
            if (i + s >= size) {
                return ROW_ENDS + s;
            }
            if (lists[list][i + s] != Whole.bitsOfDouble(row[s])) {
                return s;
            }
        }
        return EMPTY;
    }

    // ---- what is told, and the image

    public int told(int what) {
        if (what >= 1 && what <= 4) {
            return plan.rules[what - 1];
        }
        if (what >= 10 && what < 10 + LEGS) {
            return plan.network.lengths[what - 10];
        }
        if (what >= 20 && what < 20 + LEGS) {
            return plan.network.frees[what - 20];
        }
        if (what >= 30 && what < 30 + plan.fareCount) {
            return plan.fares[what - 30].hand;
        }
        switch (what) {
            case 0: return plan.fareCount;
            case 5: return plan.network.count;
            case 6: return tape.size;
            case 7: return page.length();
            case 8: return plan.unlikePrices();
            case 9: return plan.greatestPrice();
            default: return NONE;
        }
    }

    public int image() {
        picture.become(plan);
        pictured = true;
        return plan.fareCount;
    }

    public int undo() {
        if (!pictured) {
            return STATE;
        }
        plan.become(picture);
        worths.forget();
        return plan.fareCount;
    }

    private static boolean within(int v, int most) {
        return v >= 0 && v <= most;
    }

    private static boolean isStage(int t) {
        return t >= 1 && t <= STAGES;
    }

    private static int phaseOf(int t) {
        return (t - 1) / STAGES_OF_A_PHASE;
    }

    /** What a fare may be. KEEP stands in quarters, as no constant may be a double. */
    private enum Kind {
        FARE(0, NONE, 2), OPEN(1, 0, 0), SAVER(2, 0, 4), GROUP(3, 2, 3);

        final int number;
        final int above;
        final int quartersKept;

        Kind(int number, int above, int quartersKept) {
            this.number = number;
            this.above = above;
            this.quartersKept = quartersKept;
        }

        boolean isOf(Kind wanted) {
            int at = number;
            for (int step = 0; step < KINDS.length && at != NONE && at != wanted.number; step++) {
                at = KINDS[at].above;
            }
            return at == wanted.number;
        }
    }

    private static final class Fare {
        Kind kind = Kind.FARE;
        int price;
        int hand;
        final int[] odds = new int[PHASES];

        void begin(Kind newKind, int newPrice) {
            kind = newKind;
            price = newPrice;
            hand = MOST_HAND;
            Arrays.fill(odds, 0);
        }

        void become(Fare other) {
            kind = other.kind;
            price = other.price;
            hand = other.hand;
            System.arraycopy(other.odds, 0, odds, 0, PHASES);
        }
    }

    /** Never changes, so the plan and its image may share it. */
    private static final class Route {
        final int name;
        final int legs;
        final int price;
        final int wanted;

        Route(int name, int legs, int price, int wanted) {
            this.name = name;
            this.legs = legs;
            this.price = price;
            this.wanted = wanted;
        }

        /** A name's letters from the upper byte down: so names as numbers stand as words do in a book. */
        static int withLetter(int name, int k, int letter) {
            return name | letter << 8 * (LETTERS - 1 - k);
        }

        int letter(int k) {
            return name >> 8 * (LETTERS - 1 - k) & 255;
        }

        int letters() {
            int letters = 0;
            for (int k = 0; k < LETTERS; k++) {
                letters += letter(k) == 0 ? 0 : 1;
            }
            return letters;
        }

        boolean goesOver(int leg) {
            return (legs >> leg & 1) == 1;
        }
    }

    /** All that an image takes. */
    private static final class Plan {
        final Fare[] fares = new Fare[FARES];
        int fareCount;
        final int[] rules = {10, 0, 0, 500};
        final Network network = new Network();
        int seed = 1;

        Plan() {
            for (int i = 0; i < FARES; i++) {
                fares[i] = new Fare();
            }
        }

        void become(Plan other) {
            for (int i = 0; i < FARES; i++) {
                fares[i].become(other.fares[i]);
            }
            fareCount = other.fareCount;
            System.arraycopy(other.rules, 0, rules, 0, rules.length);
            network.become(other.network);
            seed = other.seed;
        }

        boolean hasFare(int fare) {
            return fare >= 0 && fare < fareCount;
        }

        int oddsTogether(int phase) {
            int sum = 0;
            for (int f = 0; f < fareCount; f++) {
                sum += fares[f].odds[phase];
            }
            return sum;
        }

        int unlikePrices() {
            int unlike = 0;
            for (int f = 0; f < fareCount; f++) {
                boolean isNew = true;
                for (int g = 0; g < f; g++) {
                    isNew = isNew && fares[g].price != fares[f].price;
                }
                unlike += isNew ? 1 : 0;
            }
            return unlike;
        }

        int greatestPrice() {
            int greatest = 0;
            for (int f = 0; f < fareCount; f++) {
                greatest = Math.max(greatest, fares[f].price);
            }
            return greatest;
        }

        double showing(int t) {
            double stays = 1.0 - rules[CANCEL] / 100.0;
            double shows = 1.0 - rules[NOSHOW] / 100.0;
            for (int i = 0; i < t; i++) {
                shows = shows * stays;
            }
            return shows;
        }

        double netBy(int fare, double shows) {
            double keep = fares[fare].kind.quartersKept / 4.0;
            return (double) fares[fare].price * (shows + (1.0 - shows) * keep);
        }
    }

    /** Legs, and the routes over them in the order of their names. */
    private static final class Network {
        final int[] lengths = {100, 100, 100, 100};
        final int[] frees = {10, 10, 10, 10};
        final Route[] routes = new Route[ROUTES];
        int count;

        void become(Network other) {
            System.arraycopy(other.lengths, 0, lengths, 0, LEGS);
            System.arraycopy(other.frees, 0, frees, 0, LEGS);
            for (int i = 0; i < ROUTES; i++) {
                routes[i] = other.routes[i];
            }
            count = other.count;
        }

        int placeOf(int name) {
            for (int i = 0; i < count; i++) {
                if (routes[i].name == name) {
                    return i;
                }
            }
            return NONE;
        }

        void add(Route added) {
            if (count >= ROUTES) {
                return;
            }
            int place = count;
            for (int i = count; i > 0 && routes[i - 1].name > added.name; i--) {
                routes[i] = routes[i - 1];
                place = i - 1;
            }
            routes[place] = added;
            count++;
        }

        void remove(int place) {
            for (int i = place; i + 1 < count; i++) {
                routes[i] = routes[i + 1];
            }
            count--;
        }

        float partOf(Route asked, int leg) {
            int together = 0;
            for (int i = 0; i < LEGS; i++) {
                together += asked.goesOver(i) ? lengths[i] : 0;
            }
            if (!asked.goesOver(leg) || together == 0) {
                return 0.0f;
            }
            return (float) asked.price * (float) lengths[leg] / (float) together;
        }

        float costOf(int leg) {
            int gone = 0;
            int wanted = 0;
            for (int i = 0; i < count; i++) {
                int next = dearestBut(gone, leg);
                if (next == NONE) {
                    return 0.0f;
                }
                gone = gone | 1 << next;
                wanted += routes[next].wanted;
                if (wanted > frees[leg]) {
                    return partOf(routes[next], leg);
                }
            }
            return 0.0f;
        }

        /** Of routes with like parts the first by name: they stand in that order. */
        private int dearestBut(int gone, int leg) {
            int best = NONE;
            float greatest = 0.0f;
            for (int i = 0; i < count; i++) {
                if ((gone >> i & 1) == 0 && routes[i].goesOver(leg)) {
                    float part = partOf(routes[i], leg);
                    if (best == NONE || part > greatest) {
                        best = i;
                        greatest = part;
                    }
                }
            }
            return best;
        }

        boolean letsIn(Route asked) {
            double costs = 0.0;
            for (int leg = 0; leg < LEGS; leg++) {
                if (asked.goesOver(leg)) {
                    costs = costs + (double) costOf(leg);
                }
            }
            return (double) asked.price >= costs;
        }

        void spellOn(StringBuilder page) {
            page.setLength(0);
            for (int i = 0; i < count; i++) {
                if (i > 0) {
                    page.append(';');
                }
                spellRoute(page, routes[i]);
            }
        }

        private void spellRoute(StringBuilder page, Route spelled) {
            for (int k = 0; k < spelled.letters(); k++) {
                page.append((char) spelled.letter(k));
            }
            page.append('=');
            for (int leg = 0; leg < LEGS; leg++) {
                if (spelled.goesOver(leg)) {
                    page.append(leg);
                }
            }
            page.append(':').append(spelled.price);
            if (spelled.wanted != 0) {
                page.append('*').append(spelled.wanted);
            }
        }
    }

    /**
     * What seats are worth: a row a stage, made once and kept until something changes.
     * Row 0 and place 0 of each row are never written: they stay 0.0.
     */
    private static final class Worths {
        private final Plan plan;
        private final double[][] rows = new double[STAGES + 1][MOST_SEATS + 1];
        private final double[] nets = new double[FARES];
        private int made;

        Worths(Plan plan) {
            this.plan = plan;
        }

        void forget() {
            made = 0;
        }

        double[] row(int t) {
            for (int i = made + 1; i <= t; i++) {
                make(i);
            }
            made = Math.max(made, t);
            return rows[t];
        }

        private void make(int t) {
            double shows = plan.showing(t - 1);
            for (int f = 0; f < plan.fareCount; f++) {
                nets[f] = plan.netBy(f, shows);
            }
            for (int s = 1; s <= plan.rules[SEATS]; s++) {
                rows[t][s] = worthOf(rows[t - 1], s, phaseOf(t));
            }
        }

        private double worthOf(double[] before, int s, int phase) {
            double bid = before[s] - before[s - 1];
            double sum = before[s];
            for (int f = 0; f < plan.fareCount; f++) {
                double gain = nets[f] - bid;
                if (gain > 0.0) {
                    sum = sum + (plan.fares[f].odds[phase] / 100.0) * gain;
                }
            }
            return sum;
        }

        boolean takes(int fare, int t, int s) {
            double[] before = row(t - 1);
            double bid = before[s] - before[s - 1];
            return plan.netBy(fare, plan.showing(t - 1)) - bid > 0.0;
        }

        int keptFrom(int fare, int t) {
            for (int s = plan.rules[SEATS]; s > 0; s--) {
                if (!takes(fare, t, s)) {
                    return s;
                }
            }
            return 0;
        }
    }

    /** Whole numbers that tell OVER where a long ends (none of them is below 0), and bits. */
    private static final class Whole {
        private final Plan plan;
        private final long[] row = new long[MOST_BOOKED + 1];

        Whole(Plan plan) {
            this.plan = plan;
        }

        static long times(long a, long b) {
            if (a < 0 || b < 0 || b != 0 && a > GREATEST_LONG / b) {
                return OVER;
            }
            return a * b;
        }

        static long plus(long a, long b) {
            return a < 0 || b < 0 || a > GREATEST_LONG - b ? OVER : a + b;
        }

        static long power(long base, int exponent) {
            long power = 1;
            for (int i = 0; i < exponent; i++) {
                power = times(power, base);
            }
            return power;
        }

        long grossOf(int t, int s) {
            Arrays.fill(row, 0L);
            long power = 1;
            for (int stage = 1; stage <= t; stage++) {
                for (int i = s; i > 0; i--) {
                    row[i] = nextGross(i, phaseOf(stage), power);
                }
                power = times(power, 100);
            }
            return row[s];
        }

        private long nextGross(int s, int phase, long power) {
            long sum = times(100, row[s]);
            for (int f = 0; f < plan.fareCount; f++) {
                long paid = times(plan.fares[f].price, power);
                if (paid == OVER || row[s] == OVER || row[s - 1] == OVER) {
                    return OVER;
                }
                long extra = paid - (row[s] - row[s - 1]);
                if (extra > 0) {
                    sum = plus(sum, times(plan.fares[f].odds[phase], extra));
                }
            }
            return sum;
        }

        long waysOf(int b, int k, int y) {
            long some = times(setsOf(b, k), power(y, k));
            return times(some, power(100 - y, b - k));
        }

        private long setsOf(int b, int k) {
            Arrays.fill(row, 0L);
            row[0] = 1;
            for (int i = 1; i <= b; i++) {
                for (int j = i; j > 0; j--) {
                    row[j] = row[j] + row[j - 1];
                }
            }
            return row[k];
        }

        /** No double here is NaN, infinite, -0.0, beyond a million, or nearer to 0 than 2 to the power -900. */
        static long bitsOfDouble(double x) {
            if (x == 0.0) {
                return 0L;
            }
            double scaled = x < 0.0 ? -x : x;
            int exponent = 1023;
            for (int i = 0; i < 32 && scaled < 1.0; i++) {
                scaled = scaled * 4294967296.0;
                exponent -= 32;
            }
            for (int i = 0; i < 32 && scaled >= 2.0; i++) {
                scaled = scaled / 2.0;
                exponent++;
            }
            long fraction = (long) ((scaled - 1.0) * 4503599627370496.0);
            return (x < 0.0 ? NO : 0L) | (long) exponent << 52 | fraction;
        }

        /** A float is a double, too: its bits are those of the double, cut. */
        static int bitsOfFloat(float x) {
            long bits = bitsOfDouble((double) x);
            if (bits == 0) {
                return 0;
            }
            int sign = bits < 0 ? 1 << 31 : 0;
            int exponent = (int) (bits >> 52 & 2047) - 1023 + 127;
            return sign | exponent << 23 | (int) (bits >> 29 & 8388607);
        }
    }

    /** A row of chances at a time: that k of so many show, or ask. */
    private static final class Chances {
        private final Plan plan;
        private final double[] row = new double[MOST_BOOKED + 1];

        Chances(Plan plan) {
            this.plan = plan;
        }

        double[] ofShowing(int t, int b) {
            double shows = plan.showing(t);
            begin();
            for (int i = 1; i <= b; i++) {
                oneMore(i, 1.0 - shows, shows);
            }
            return row;
        }

        double[] ofAsking(int fare, int t) {
            begin();
            for (int i = 1; i <= t; i++) {
                double asks = plan.fares[fare].odds[phaseOf(i)] / 100.0;
                oneMore(i, 1.0 - asks, asks);
            }
            return row;
        }

        private void begin() {
            Arrays.fill(row, 0.0);
            row[0] = 1.0;
        }

        /** From the upper end down, as each place needs the one below it as it was. */
        private void oneMore(int b, double misses, double comes) {
            row[b] = row[b - 1] * comes;
            for (int k = b - 1; k > 0; k--) {
                row[k] = row[k] * misses + row[k - 1] * comes;
            }
            row[0] = row[0] * misses;
        }

        double expectedAbove(int most, int b) {
            double sum = 0.0;
            for (int k = most + 1; k <= b; k++) {
                sum = sum + (double) (k - most) * row[k];
            }
            return sum;
        }

        double takings(int fare, int b) {
            int seats = plan.rules[SEATS];
            double sum = 0.0;
            for (int k = 0; k <= b; k++) {
                sum = sum + (double) Math.min(k, seats) * row[k];
            }
            return sum * (double) plan.fares[fare].price - expectedAbove(seats, b) * (double) plan.rules[DENIED];
        }

        int bestBooked(int fare, int t) {
            double shows = plan.showing(t);
            begin();
            int best = 0;
            double greatest = takings(fare, 0);
            for (int b = 1; b <= MOST_BOOKED; b++) {
                oneMore(b, 1.0 - shows, shows);
                double takings = takings(fare, b);
                if (takings > greatest) {
                    best = b;
                    greatest = takings;
                }
            }
            return best;
        }
    }

    /** The bytes fed, and how they are read. No byte is 0, so 0 stands for the end. */
    private static final class Tape {
        private final int[] bytes = new int[TAPE_BYTES];
        int size;
        final Route[] read = new Route[ROUTES];
        int readCount;
        private int at;
        private int name;
        private int legs;
        private int price;
        private int wanted;

        boolean takeUp(int letter) {
            if (size >= TAPE_BYTES) {
                return false;
            }
            bytes[size] = letter;
            size++;
            return true;
        }

        void wipe() {
            size = 0;
        }

        private int byteAt(int place) {
            return place >= 0 && place < size ? bytes[place] : 0;
        }

        /** No fare's number, if nobody asks. */
        int fareAsked(int place) {
            return byteAt(place) - 'a';
        }

        int faultAsRequests(int fareCount) {
            for (int place = 0; place < size; place++) {
                boolean isSign = byteAt(place) == '-' || within(fareAsked(place), fareCount - 1);
                if (place >= STAGES || !isSign) {
                    return place;
                }
            }
            return size == 0 ? 0 : NONE;
        }

        /** 0, which is no name, if the tape cannot be one; other bytes than letters are in no name. */
        int asName() {
            int letters = 0;
            if (size <= LETTERS) {
                for (int k = 0; k < size; k++) {
                    letters = Route.withLetter(letters, k, byteAt(k));
                }
            }
            return letters;
        }

        int faultAsBook(Network network) {
            at = 0;
            readCount = 0;
            for (int i = 0; i < ROUTES + 1; i++) {
                int fault = faultOfPart(network);
                if (fault != NONE) {
                    return fault;
                }
                read[readCount] = new Route(name, legs, price, wanted);
                readCount++;
                if (at == size) {
                    return NONE;
                }
                if (byteAt(at) != ';') {
                    return at;
                }
                at++;
            }
            return at;
        }

        private int faultOfPart(Network network) {
            int fault = faultOfName(network);
            fault = fault == NONE ? faultOfSign('=') : fault;
            fault = fault == NONE ? faultOfLegs() : fault;
            fault = fault == NONE ? faultOfSign(':') : fault;
            fault = fault == NONE ? faultOfPrice() : fault;
            return fault == NONE ? faultOfWanted() : fault;
        }

        private int faultOfSign(int sign) {
            if (byteAt(at) != sign) {
                return at;
            }
            at++;
            return NONE;
        }

        private int faultOfName(Network network) {
            int start = at;
            name = 0;
            for (int k = 0; k < LETTERS && byteAt(at) >= 'a' && byteAt(at) <= 'z'; k++) {
                name = Route.withLetter(name, k, byteAt(at));
                at++;
            }
            boolean hasRoom = network.count + readCount < ROUTES;
            return at == start || !hasRoom || network.placeOf(name) != NONE || isRead(name) ? start : NONE;
        }

        private boolean isRead(int wantedName) {
            for (int i = 0; i < readCount; i++) {
                if (read[i].name == wantedName) {
                    return true;
                }
            }
            return false;
        }

        private int faultOfLegs() {
            legs = 0;
            int least = '0';
            for (int i = 0; i < LEGS && byteAt(at) >= least && byteAt(at) < '0' + LEGS; i++) {
                legs = legs | 1 << byteAt(at) - '0';
                least = byteAt(at) + 1;
                at++;
            }
            return legs == 0 ? at : NONE;
        }

        private int faultOfPrice() {
            int start = at;
            price = numberOf(PRICE_FIGURES);
            return price == 0 ? start : NONE;
        }

        private int faultOfWanted() {
            wanted = 0;
            if (byteAt(at) != '*') {
                return NONE;
            }
            at++;
            int start = at;
            wanted = numberOf(WANTED_FIGURES);
            return at == start ? start : NONE;
        }

        private int numberOf(int mostFigures) {
            int number = 0;
            for (int i = 0; i < mostFigures && byteAt(at) >= '0' && byteAt(at) <= '9'; i++) {
                number = number * 10 + byteAt(at) - '0';
                at++;
            }
            return number;
        }
    }

    /** One day of requests, one after the other. */
    private static final class Day {
        private final Plan plan;
        private final Worths worths;
        private final int[] pricesAsked = new int[STAGES];
        private final int[] pricesHad = new int[STAGES];
        int left;
        int asked;
        int count;
        int prices;
        int places;

        Day(Plan plan, Worths worths) {
            this.plan = plan;
            this.worths = worths;
        }

        void begin() {
            left = plan.rules[SEATS];
            asked = 0;
            count = 0;
            prices = 0;
            places = 0;
        }

        void ask(int fare, int t, int place, int how) {
            if (!plan.hasFare(fare) || asked >= STAGES) {
                return;
            }
            int price = plan.fares[fare].price;
            pricesAsked[asked] = price;
            asked++;
            if (left > 0 && (how == BY_HAND ? handGives(fare) : worths.takes(fare, t, left))) {
                pricesHad[count] = price;
                count++;
                left--;
                prices += price;
                places = places | 1 << place;
            }
        }

        private boolean handGives(int fare) {
            int notAbove = 0;
            for (int i = 0; i < count; i++) {
                notAbove += pricesHad[i] <= plan.fares[fare].price ? 1 : 0;
            }
            return notAbove < plan.fares[fare].hand;
        }

        void draw(int n, int how) {
            begin();
            for (int t = n; t > 0; t--) {
                plan.seed = plan.seed * 1103515245 + 12345;
                ask(fareDrawn((plan.seed >>> 16) % 100, phaseOf(t)), t, n - t, how);
            }
        }

        private int fareDrawn(int d, int phase) {
            int sum = 0;
            for (int f = 0; f < plan.fareCount; f++) {
                sum += plan.fares[f].odds[phase];
                if (sum > d) {
                    return f;
                }
            }
            return NONE;
        }

        /** Had one known of all who ask, one would have had the dearest of them, as far as seats go. */
        int pricesBehind() {
            int sum = 0;
            int gone = 0;
            for (int seat = 0; seat < plan.rules[SEATS] && seat < asked; seat++) {
                int best = NONE;
                for (int i = 0; i < asked; i++) {
                    if ((gone >> i & 1) == 0 && (best == NONE || pricesAsked[i] > pricesAsked[best])) {
                        best = i;
                    }
                }
                if (best != NONE) {
                    sum += pricesAsked[best];
                    gone = gone | 1 << best;
                }
            }
            return sum;
        }
    }

    /** A row of places for fares of one kind, and of those under it. */
    private static final class Tray {
        Kind kind = Kind.FARE;
        int size = MISSING;
        final int[] places = new int[TRAY_PLACES];

        void begin(Kind newKind, int newSize) {
            kind = newKind;
            size = newSize;
            Arrays.fill(places, EMPTY);
        }

        void become(Tray other) {
            kind = other.kind;
            size = other.size;
            System.arraycopy(other.places, 0, places, 0, TRAY_PLACES);
        }
    }
}
