/** Each promise by hand: ordinary calls, the edges that the document names, and wrong ones. */
public final class PromisesTest {
    private static final long NO = Long.MIN_VALUE;
    private static final int LOW = Integer.MIN_VALUE;
    private static final int HIGH = Integer.MAX_VALUE;

    public static void main(String[] args) {
        newObject();
        fare();
        of();
        odds();
        drop();
        rule();
        shows();
        net();
        netCut();
        worth();
        worthBehindCancellations();
        worthShort();
        gross();
        taken();
        keptAndLimit();
        chance();
        turned();
        had();
        booked();
        ways();
        leg();
        feedAndClear();
        book();
        bookFaults();
        bookIsLookedAtAtOnce();
        bookIsFull();
        ends();
        route();
        part();
        cost();
        letIn();
        replay();
        requestsFaults();
        spellAndPaper();
        told();
        demand();
        spill();
        hand();
        byHand();
        drawn();
        seed();
        tray();
        lays();
        laid();
        like();
        list();
        setAndGet();
        judge();
        imageAndUndo();
        refusalsChangeNothing();
        longestUse();
        Due.end("PromisesTest");
    }

    private static long bits(double d) {
        return Double.doubleToLongBits(d);
    }

    private static int bits(float f) {
        return Float.floatToIntBits(f);
    }

    private static String spelled(FareLimits x) {
        StringBuilder text = new StringBuilder();
        int bytes = x.spell();
        for (int i = 0; i < bytes; i++) {
            text.append((char) x.paper(i));
        }
        return text.toString();
    }

    /** Two fares, 300 with odds of 20 and 100 with odds of 50 in the first phase. */
    private static FareLimits twoFares() {
        FareLimits x = new FareLimits();
        x.fare(0, 300);
        x.fare(2, 100);
        x.odds(0, 0, 20);
        x.odds(1, 0, 50);
        return x;
    }

    // promise 1
    private static void newObject() {
        FareLimits x = new FareLimits();
        int[] first = {0, 10, 0, 0, 500, 0, 0, 0, 0, 0};
        for (int i = 0; i < first.length; i++) {
            Due.is("new told(" + i + ")", x.told(i), first[i]);
        }
        for (int leg = 0; leg < 4; leg++) {
            Due.is("new told(10 + leg)", x.told(10 + leg), 100);
            Due.is("new told(20 + leg)", x.told(20 + leg), 10);
            Due.is("new cost", x.cost(leg), 0);
            Due.is("new laid", x.laid(leg, 0), -11);
            Due.is("new get", x.get(leg, 0), NO);
        }
        Due.is("new of", x.of(0, 0), -1);
        Due.is("new route", x.route(0, 0), -1);
        Due.is("new worth", x.worth(20, 10), 0);
        Due.is("new gross", x.gross(20, 10), 0);
        Due.is("new seed", x.seed(5), 1);
        Due.is("new undo", x.undo(), FareLimits.STATE);
        Due.is("NONE", FareLimits.NONE, -1);
        Due.is("BAD", FareLimits.BAD, -2);
        Due.is("STATE", FareLimits.STATE, -3);
        Due.is("FULL", FareLimits.FULL, -4);
        Due.is("OVER", FareLimits.OVER, -6);
    }

    // promise 2
    private static void fare() {
        FareLimits x = new FareLimits();
        Due.is("fare kind -1", x.fare(-1, 5), -1);
        Due.is("fare kind 4", x.fare(4, 0), -1);
        Due.is("fare price 0", x.fare(0, 0), -2);
        Due.is("fare price 10000", x.fare(3, 10000), -2);
        Due.is("fare wild", x.fare(LOW, HIGH), -1);
        Due.is("fare wild price", x.fare(0, LOW), -2);
        for (int i = 0; i < 6; i++) {
            Due.is("fare " + i, x.fare(i % 4, i == 0 ? 1 : 9999), i);
        }
        Due.is("fare full", x.fare(0, 5), -4);
        Due.is("fare full, kind", x.fare(4, 5), -1);
        Due.is("fare full, price", x.fare(0, 0), -2);
        Due.is("fares", x.told(0), 6);
    }

    // promise 3
    private static void of() {
        FareLimits x = new FareLimits();
        x.fare(3, 77);
        x.odds(0, 0, 1);
        x.odds(0, 1, 2);
        x.odds(0, 2, 3);
        x.odds(0, 3, 4);
        int[] want = {3, 77, 1, 2, 3, 4};
        for (int i = 0; i < 6; i++) {
            Due.is("of " + i, x.of(0, i), want[i]);
        }
        Due.is("of what 6", x.of(0, 6), -1);
        Due.is("of what -1", x.of(0, -1), -1);
        Due.is("of fare 1", x.of(1, 0), -1);
        Due.is("of fare -1", x.of(-1, 0), -1);
        Due.is("of wild", x.of(HIGH, LOW), -1);
    }

    // promise 4
    private static void odds() {
        FareLimits x = new FareLimits();
        x.fare(0, 10);
        x.fare(1, 10);
        Due.is("odds at first", x.odds(0, 2, 60), 0);
        Due.is("odds together 101", x.odds(1, 2, 41), -2);
        Due.is("odds together 100", x.odds(1, 2, 40), 0);
        Due.is("odds again", x.odds(1, 2, 39), 40);
        Due.is("odds of itself don't count", x.odds(0, 2, 61), 60);
        Due.is("odds 100 alone", x.odds(0, 1, 100), 0);
        Due.is("odds 101", x.odds(0, 3, 101), -2);
        Due.is("odds -1", x.odds(0, 3, -1), -2);
        Due.is("odds wild", x.odds(0, 3, HIGH), -2);
        Due.is("odds phase 4", x.odds(0, 4, 101), -1);
        Due.is("odds phase -1", x.odds(0, -1, 1), -1);
        Due.is("odds fare 2", x.odds(2, 0, 1), -1);
        x.drop();
        Due.is("odds of who is gone don't count", x.odds(0, 2, 100), 61);
        x.fare(1, 20);
        Due.is("odds of who comes anew", x.of(1, 4), 0);
    }

    // promise 5
    private static void drop() {
        FareLimits x = new FareLimits();
        Due.is("drop none", x.drop(), -3);
        x.fare(0, 10);
        x.fare(1, 20);
        x.hand(1, 3);
        x.odds(1, 0, 9);
        Due.is("drop", x.drop(), 1);
        Due.is("dropped", x.of(1, 0), -1);
        Due.is("kept", x.of(0, 1), 10);
        Due.is("fare anew", x.fare(2, 30), 1);
        Due.is("hand anew", x.told(31), 30);
        Due.is("odds anew", x.of(1, 2), 0);
        Due.is("drop again", x.drop(), 1);
        Due.is("drop the last", x.drop(), 0);
        Due.is("drop none again", x.drop(), -3);
    }

    // promise 6
    private static void rule() {
        FareLimits x = new FareLimits();
        int[] most = {30, 50, 50, 9999};
        int[] first = {10, 0, 0, 500};
        for (int i = 0; i < 4; i++) {
            Due.is("rule first", x.rule(i, most[i]), first[i]);
            Due.is("rule above", x.rule(i, most[i] + 1), -2);
            Due.is("rule below", x.rule(i, -1), -2);
            Due.is("rule then", x.rule(i, 0), most[i]);
            Due.is("rule told", x.told(1 + i), 0);
        }
        Due.is("rule what 4", x.rule(4, -1), -1);
        Due.is("rule what -1", x.rule(-1, 5), -1);
    }

    // promise 7
    private static void shows() {
        FareLimits x = new FareLimits();
        Due.is("shows at first", x.shows(20), bits(1.0));
        x.rule(1, 7);
        x.rule(2, 13);
        double by = 1.0 - (7 / 100.0);
        Due.is("shows 0", x.shows(0), bits(1.0 - (13 / 100.0)));
        Due.is("shows 3", x.shows(3), bits((1.0 - (13 / 100.0)) * by * by * by));
        Due.is("shows -1", x.shows(-1), NO);
        Due.is("shows 21", x.shows(21), NO);
        x.rule(1, 50);
        x.rule(2, 50);
        Due.is("shows least", x.shows(20), bits(1.0 / (1 << 21)));
    }

    // promise 8
    private static void net() {
        FareLimits x = new FareLimits();
        double[] keep = {0.5, 0.0, 1.0, 0.75};
        x.rule(1, 11);
        x.rule(2, 23);
        double shows = (1.0 - 0.23) * (1.0 - 0.11) * (1.0 - 0.11);
        for (int kind = 0; kind < 4; kind++) {
            x.fare(kind, 777);
            Due.is("net " + kind, x.net(kind, 2), bits(777 * (shows + (1.0 - shows) * keep[kind])));
        }
        Due.is("net fare 4", x.net(4, 2), NO);
        Due.is("net fare -1", x.net(-1, 2), NO);
        Due.is("net t -1", x.net(0, -1), NO);
        Due.is("net t 21", x.net(0, 21), NO);
    }

    // promise 9
    private static void netCut() {
        FareLimits x = new FareLimits();
        x.fare(1, 9);
        x.rule(2, 1);
        Due.is("netCut 8.91", x.netCut(0, 0), 8);
        Due.is("netCut fare", x.netCut(1, 0), -1);
        Due.is("netCut t -1", x.netCut(0, -1), -1);
        Due.is("netCut t 21", x.netCut(0, 21), -1);
        x.rule(2, 50);
        x.rule(1, 50);
        Due.is("netCut 0", x.netCut(0, 20), 0);
    }

    // promise 10
    private static void worth() {
        FareLimits x = twoFares();
        Due.is("worth t 0", x.worth(0, 10), 0);
        Due.is("worth s 0", x.worth(20, 0), 0);
        double one = 0.0 + (20 / 100.0) * 300.0 + (50 / 100.0) * 100.0;
        Due.is("worth 1 1", x.worth(1, 1), bits(one));
        double two = one + (20 / 100.0) * (300.0 - (one - 0.0));
        Due.is("worth 2 1: 110 is above 100", x.worth(2, 1), bits(two));
        double both = one + (20 / 100.0) * (300.0 - 0.0) + (50 / 100.0) * (100.0 - 0.0);
        Due.is("worth 2 2", x.worth(2, 2), bits(both));
        Due.is("worth in a phase without odds", x.worth(6, 1), x.worth(5, 1));
        Due.is("worth t 21", x.worth(21, 0), NO);
        Due.is("worth t -1", x.worth(-1, 0), NO);
        Due.is("worth s -1", x.worth(0, -1), NO);
        Due.is("worth s 11", x.worth(0, 11), NO);
        x.rule(0, 30);
        Due.is("worth s 30", x.worth(1, 30), bits(one));
        x.odds(0, 0, 0);
        Due.is("worth after odds", x.worth(1, 30), bits(50.0));
        x.drop();
        Due.is("worth after drop", x.worth(1, 30), 0);
        x.fare(1, 200);
        x.odds(1, 0, 10);
        x.rule(2, 50);
        Due.is("worth after rule", x.worth(1, 30), bits((10 / 100.0) * (200 * (0.5 + 0.5 * 0.0))));
    }

    /** NET and SHOWS with t less 1 to go count, not those with t. */
    private static void worthBehindCancellations() {
        FareLimits x = new FareLimits();
        x.fare(1, 100);
        x.fare(0, 40);
        x.rule(1, 50);
        x.rule(2, 20);
        x.odds(0, 0, 10);
        x.odds(1, 0, 80);
        double first = 1.0 - 20 / 100.0;
        double later = first * (1.0 - 50 / 100.0);
        double open = 100.0 * (first + (1.0 - first) * 0.0);
        double kept = 40.0 * (first + (1.0 - first) * 0.5);
        double one = 0.0 + (10 / 100.0) * open + (80 / 100.0) * kept;
        Due.is("worth 1 1", x.worth(1, 1), bits(one));
        double openGain = 100.0 * (later + (1.0 - later) * 0.0) - (one - 0.0);
        double keptGain = 40.0 * (later + (1.0 - later) * 0.5) - (one - 0.0);
        Due.holds("one gains and one doesn't", openGain > 0.0 && keptGain < 0.0);
        Due.is("worth 2 1", x.worth(2, 1), bits(one + (10 / 100.0) * openGain));
        Due.is("taken 0", x.taken(0, 2, 1), 1);
        Due.is("taken 1", x.taken(1, 2, 1), 0);
        x.odds(1, 0, 0);
        x.odds(0, 0, 55);
        Due.is("40 less than 44 are not taken", x.taken(0, 2, 1), 0);
        x.rule(1, 0);
        Due.is("80 more than 44 are", x.taken(0, 2, 1), 1);
    }

    // promise 11
    private static void worthShort() {
        FareLimits x = twoFares();
        x.rule(2, 3);
        for (int t = 0; t <= 20; t++) {
            Due.is("worthShort " + t, x.worthShort(t, 3), bits((float) Double.longBitsToDouble(x.worth(t, 3))));
        }
        Due.is("worthShort t 21", x.worthShort(21, 0), -1);
        Due.is("worthShort t -1", x.worthShort(-1, 0), -1);
        Due.is("worthShort s 11", x.worthShort(0, 11), -1);
        Due.is("worthShort s -1", x.worthShort(0, -1), -1);
    }

    // promise 12
    private static void gross() {
        FareLimits x = twoFares();
        x.rule(2, 50);
        Due.is("gross 1 1", x.gross(1, 1), 20 * 300 + 50 * 100);
        Due.is("gross 2 1", x.gross(2, 1), 100 * 11000 + 20 * (30000 - 11000));
        Due.is("gross 2 2", x.gross(2, 2), 100 * 11000 + 20 * 30000 + 50 * 10000);
        Due.is("gross t 0", x.gross(0, 10), 0);
        Due.is("gross s 0", x.gross(20, 0), 0);
        Due.is("gross over by its power", x.gross(11, 1), -6);
        Due.is("gross t 21", x.gross(21, 0), NO);
        Due.is("gross t -1", x.gross(-1, 0), NO);
        Due.is("gross s 11", x.gross(0, 11), NO);
        FareLimits y = new FareLimits();
        y.fare(0, 9);
        Due.is("gross without odds", y.gross(10, 10), 0);
        Due.is("gross without odds, power over", y.gross(11, 1), -6);
        y.fare(0, 10);
        Due.is("gross without odds, product over", y.gross(10, 1), -6);
        Due.is("gross without odds, nearer", y.gross(9, 1), 0);
        y.drop();
        y.drop();
        Due.is("gross without fares", y.gross(20, 10), 0);
        y.fare(0, 922);
        y.odds(0, 0, 100);
        Due.is("gross of a certain fare", y.gross(5, 5), 5L * 922 * 10000000000L);
        Due.is("gross, sums near a long", y.gross(9, 5), -6);
    }

    // promise 13
    private static void taken() {
        FareLimits x = twoFares();
        Due.is("taken: 100 below 110", x.taken(1, 2, 1), 0);
        Due.is("taken: 300 above 110", x.taken(0, 2, 1), 1);
        Due.is("taken: with two left", x.taken(1, 2, 2), 1);
        Due.is("taken t 20, all left", x.taken(0, 20, 10), 1);
        Due.is("taken t 0", x.taken(0, 0, 1), -1);
        Due.is("taken t 21", x.taken(0, 21, 1), -1);
        Due.is("taken s 0", x.taken(0, 1, 0), -1);
        Due.is("taken s 11", x.taken(0, 1, 11), -1);
        Due.is("taken fare 2", x.taken(2, 1, 1), -1);
        Due.is("taken fare -1", x.taken(-1, 1, 1), -1);
        x.odds(1, 0, 0);
        x.odds(0, 0, 100);
        x.fare(0, 300);
        Due.is("a gain of 0.0 is not above", x.taken(2, 2, 1), 0);
    }

    // promises 14, 15
    private static void keptAndLimit() {
        FareLimits x = twoFares();
        x.odds(0, 0, 100 - 50);
        for (int t = 1; t <= 20; t++) {
            int kept = 0;
            for (int s = 1; s <= 10; s++) {
                kept = x.taken(1, t, s) == 0 ? s : kept;
            }
            Due.is("kept " + t, x.kept(1, t), kept);
            Due.is("limit " + t, x.limit(1, t), 10 - kept);
        }
        Due.is("kept from the dearest", x.kept(0, 20), 0);
        Due.is("kept t 2", x.kept(1, 2), 1);
        Due.is("limit t 2", x.limit(1, 2), 9);
        x.rule(0, 1);
        Due.is("kept of one seat", x.kept(1, 2), 1);
        Due.is("limit of one seat", x.limit(1, 2), 0);
        x.rule(0, 0);
        Due.is("kept of no seats", x.kept(1, 2), 0);
        Due.is("limit of no seats", x.limit(1, 2), 0);
        int[][] wrong = {{2, 1}, {-1, 1}, {0, 0}, {0, 21}, {LOW, HIGH}};
        for (int[] w : wrong) {
            Due.is("kept wrong", x.kept(w[0], w[1]), -1);
            Due.is("limit wrong", x.limit(w[0], w[1]), -1);
        }
    }

    // promise 16
    private static void chance() {
        FareLimits x = new FareLimits();
        x.rule(2, 30);
        double shows = 1.0 - 30 / 100.0;
        double misses = 1.0 - shows;
        Due.is("chance 0 0", x.chance(0, 0, 0), bits(1.0));
        Due.is("chance 1 0", x.chance(0, 1, 0), bits(1.0 * misses));
        Due.is("chance 1 1", x.chance(0, 1, 1), bits(1.0 * shows));
        Due.is("chance 2 1", x.chance(0, 2, 1), bits(shows * misses + misses * shows));
        Due.is("chance 2 2", x.chance(0, 2, 2), bits(shows * shows));
        Due.is("chance 2 3", x.chance(0, 2, 3), 0);
        Due.is("chance 2 40", x.chance(0, 2, 40), 0);
        Due.is("chance k 41", x.chance(0, 2, 41), NO);
        Due.is("chance k -1", x.chance(0, 2, -1), NO);
        Due.is("chance b 41", x.chance(0, 41, 0), NO);
        Due.is("chance b -1", x.chance(0, -1, 0), NO);
        Due.is("chance t 21", x.chance(21, 0, 0), NO);
        Due.is("chance t -1", x.chance(-1, 0, 0), NO);
        x.rule(1, 50);
        x.rule(2, 50);
        double least = 1.0;
        for (int i = 0; i < 40; i++) {
            least = least / (1 << 21);
        }
        Due.is("the least chance there is", x.chance(20, 40, 40), bits(least));
    }

    // promise 17
    private static void turned() {
        FareLimits x = new FareLimits();
        Due.is("turned none", x.turned(5, 10), 0);
        Due.is("turned surely", x.turned(5, 13), bits(3.0));
        x.rule(0, 1);
        x.rule(2, 20);
        double p = 1.0 - 20 / 100.0;
        double q = 1.0 - p;
        double two = (p * p) * q + (p * q + q * p) * p;
        double three = (p * p) * p;
        Due.is("turned of 3", x.turned(0, 3), bits(0.0 + 1.0 * two + 2.0 * three));
        x.rule(0, 0);
        Due.is("turned from no seats", x.turned(0, 1), bits(p));
        Due.is("turned b 41", x.turned(0, 41), NO);
        Due.is("turned b -1", x.turned(0, -1), NO);
        Due.is("turned t 21", x.turned(21, 0), NO);
        Due.is("turned t -1", x.turned(-1, 0), NO);
    }

    // promise 18
    private static void had() {
        FareLimits x = new FareLimits();
        x.fare(0, 300);
        Due.is("had surely", x.had(0, 0, 4), bits(1200.0));
        Due.is("had, two turned away", x.had(0, 0, 12), bits(3000.0 - 1000.0));
        x.rule(3, 9999);
        Due.is("had below 0", x.had(0, 0, 40), bits(3000.0 - 30.0 * 9999.0));
        Due.is("had of nobody", x.had(0, 0, 0), 0);
        x.rule(0, 1);
        x.rule(2, 20);
        x.rule(3, 70);
        double p = 1.0 - 20 / 100.0;
        double q = 1.0 - p;
        double sum = 0.0 + 0.0 * (q * q) + 1.0 * (p * q + q * p) + 1.0 * (p * p);
        Due.is("had of 2", x.had(0, 0, 2), bits(sum * 300.0 - (0.0 + 1.0 * (p * p)) * 70.0));
        Due.is("had fare 1", x.had(1, 0, 0), NO);
        Due.is("had b 41", x.had(0, 0, 41), NO);
        Due.is("had b -1", x.had(0, 0, -1), NO);
        Due.is("had t 21", x.had(0, 21, 0), NO);
        Due.is("had t -1", x.had(0, -1, 0), NO);
    }

    // promise 19
    private static void booked() {
        FareLimits x = new FareLimits();
        x.fare(0, 300);
        Due.is("booked, all show", x.booked(0, 0), 10);
        x.rule(3, 0);
        Due.is("booked, of several the least", x.booked(0, 20), 10);
        x.rule(0, 0);
        Due.is("booked with no seats", x.booked(0, 20), 0);
        x.rule(0, 30);
        Due.is("booked with 30 seats", x.booked(0, 20), 30);
        x.rule(1, 50);
        Due.is("booked at most", x.booked(0, 5), 40);
        Due.is("booked fare 1", x.booked(1, 0), -1);
        Due.is("booked fare -1", x.booked(-1, 0), -1);
        Due.is("booked t 21", x.booked(0, 21), -1);
        Due.is("booked t -1", x.booked(0, -1), -1);
    }

    // promise 20
    private static void ways() {
        FareLimits x = new FareLimits();
        Due.is("ways 5 2 30", x.ways(5, 2, 30), 10L * 900 * 343000);
        Due.is("ways 0 0 0", x.ways(0, 0, 0), 1);
        Due.is("ways 3 0 0", x.ways(3, 0, 0), 1000000);
        Due.is("ways 3 3 0", x.ways(3, 3, 0), 0);
        Due.is("ways 3 3 100", x.ways(3, 3, 100), 1000000);
        Due.is("ways 9 9 100", x.ways(9, 9, 100), 1000000000000000000L);
        Due.is("ways 10 10 100", x.ways(10, 10, 100), -6);
        Due.is("ways over by a power, though 0 follows", x.ways(40, 0, 0), -6);
        Due.is("ways over by the later power, though 0 is ahead", x.ways(40, 20, 0), -6);
        Due.is("ways over by a product, though 0 follows", x.ways(40, 9, 100), -6);
        Due.is("ways 0 at the end", x.ways(40, 5, 100), 0);
        Due.is("ways 40 20 1", x.ways(40, 20, 1), -6);
        Due.is("ways 40 39 1", x.ways(40, 39, 1), 40 * 99);
        Due.is("ways k above b", x.ways(3, 4, 50), NO);
        Due.is("ways k -1", x.ways(3, -1, 50), NO);
        Due.is("ways b 41", x.ways(41, 0, 50), NO);
        Due.is("ways b -1", x.ways(-1, 0, 50), NO);
        Due.is("ways y 101", x.ways(3, 0, 101), NO);
        Due.is("ways y -1", x.ways(3, 0, -1), NO);
    }

    // promise 21
    private static void leg() {
        FareLimits x = new FareLimits();
        for (int leg = 0; leg < 4; leg++) {
            Due.is("length first", x.leg(leg, 0, 9999), 100);
            Due.is("length then", x.leg(leg, 0, 1), 9999);
            Due.is("free first", x.leg(leg, 1, 99), 10);
            Due.is("free then", x.leg(leg, 1, 0), 99);
        }
        Due.is("length 0", x.leg(0, 0, 0), -2);
        Due.is("length 10000", x.leg(0, 0, 10000), -2);
        Due.is("free -1", x.leg(0, 1, -1), -2);
        Due.is("free 100", x.leg(0, 1, 100), -2);
        Due.is("leg 4", x.leg(4, 0, 0), -1);
        Due.is("leg -1", x.leg(-1, 0, 1), -1);
        Due.is("leg what 2", x.leg(0, 2, 0), -1);
        Due.is("leg what -1", x.leg(0, -1, 1), -1);
        Due.is("length kept", x.told(10), 1);
        Due.is("free kept", x.told(20), 0);
    }

    // promises 22, 23
    private static void feedAndClear() {
        FareLimits x = new FareLimits();
        Due.is("feed 0", x.feed(0), -2);
        Due.is("feed 128", x.feed(128), -2);
        Due.is("feed wild", x.feed(LOW), -2);
        Due.is("clear nothing", x.clear(), 0);
        for (int i = 1; i <= 120; i++) {
            Due.is("feed " + i, x.feed(i), i);
        }
        Due.is("feed full", x.feed(127), -4);
        Due.is("feed full and bad", x.feed(128), -2);
        Due.is("told", x.told(6), 120);
        Due.is("clear", x.clear(), 120);
        Due.is("clear again", x.clear(), 0);
        Due.is("feed 127", x.feed(127), 1);
    }

    // promise 24
    private static void book() {
        FareLimits x = new FareLimits();
        Due.is("book one", Calls.book(x, "m=0:1"), 1);
        Due.is("the tape is empty then", x.told(6), 0);
        Due.is("book three", Calls.book(x, "zz=13:0042*07;a=0123:9999*99;mm=2:5*0"), 3);
        Due.is("routes", x.told(5), 4);
        Due.same("book order", spelled(x), "a=0123:9999*99;m=0:1;mm=2:5;zz=13:42*7");
    }

    private static void bookFaults() {
        String[] texts = {"", "A=0:1", "=0:1", "a", "a0:1", "a=", "a=4:1", "a=:1", "a=0", "a=01", "a=00:1",
            "a=10:1", "a=0123", "a=01233:1", "a=0:", "a=0:x", "a=0:1x", "a=0:12345", "a=0:1*", "a=0:1*x",
            "a=0:1*123", "a=0:1*1*1", "a=0:1;", "a=0:1;;", "a=0:1;B=0:1", "abcd=0:1", "a=0:1*00;", "a==0:1",
            "a=0;1", "a=0:-1", "a=014:1", "a=0:1 ", "a=0:1*12;b=3:22;c=2", "a{=0:1", "`=0:1"};
        int[] places = {0, 0, 0, 1, 1, 2, 2, 2, 3, 4, 3,
            3, 6, 6, 4, 4, 5, 8, 6, 6,
            8, 7, 6, 6, 6, 3, 9, 2,
            3, 4, 4, 5, 19, 1, 0};
        for (int i = 0; i < texts.length; i++) {
            FareLimits x = new FareLimits();
            Due.is("book " + texts[i], Calls.book(x, texts[i]), -100 - places[i]);
            Due.is("no route comes by " + texts[i], x.told(5), 0);
            Due.is("the tape is empty behind " + texts[i], x.told(6), 0);
        }
    }

    private static void bookIsLookedAtAtOnce() {
        FareLimits x = new FareLimits();
        Calls.book(x, "ab=0:1;abc=1:2");
        Due.is("a name there is", Calls.book(x, "q=0:1;ab=0:1"), -106);
        Due.is("a name there is, ahead of the byte behind", Calls.book(x, "q=0:1;ab!"), -106);
        Due.is("a name there is, at the end", Calls.book(x, "q=0:1;abc"), -106);
        Due.is("three letters are taken", Calls.book(x, "abcd=0:1"), -100);
        Due.is("a name that there isn't", Calls.book(x, "abd!"), -103);
        Due.is("a name of the text", Calls.book(x, "q=0:1;r=0:1;q=0:1"), -112);
        Due.is("price 0", Calls.book(x, "q=0:0"), -104);
        Due.is("price 0000", Calls.book(x, "q=0:0000"), -104);
        Due.is("four figures are taken", Calls.book(x, "q=0:00001"), -104);
        Due.is("price 0, ahead of the byte behind", Calls.book(x, "q=0:0!"), -104);
        Due.is("wanted 00 may be", Calls.book(x, "q=0:1*00"), 1);
        Due.is("routes", x.told(5), 3);
    }

    private static void bookIsFull() {
        FareLimits x = new FareLimits();
        Due.is("twelve", Calls.book(x, "a=0:1;b=0:1;c=0:1;d=0:1;e=0:1;f=0:1;g=0:1;h=0:1;i=0:1;j=0:1;k=0:1;l=0:1"), 12);
        Due.is("no room", Calls.book(x, "m=0:1"), -100);
        Due.is("no room, ahead of the byte behind", Calls.book(x, "m!"), -100);
        Calls.ends(x, "a");
        Due.is("no room for the second", Calls.book(x, "m=0:1;n!"), -106);
        Due.is("nothing came", x.told(5), 11);
        Due.is("room for one", Calls.book(x, "m=0:1"), 1);
        FareLimits y = new FareLimits();
        Due.is("thirteen", Calls.book(y, "a=0:1;b=0:1;c=0:1;d=0:1;e=0:1;f=0:1;g=0:1;h=0:1;i=0:1;j=0:1;k=0:1;l=0:1;m"),
            -172);
        Due.is("none of thirteen", y.told(5), 0);
    }

    // promise 25
    private static void ends() {
        FareLimits x = new FareLimits();
        Due.is("ends none", Calls.ends(x, "a"), -1);
        Calls.book(x, "ab=0:1;abc=1:2;b=3:4");
        Due.is("ends a", Calls.ends(x, "a"), -1);
        Due.is("the tape is empty then", x.told(6), 0);
        Due.is("ends nothing", Calls.ends(x, ""), -1);
        Due.is("ends abcd", Calls.ends(x, "abcd"), -1);
        Due.is("ends ab=", Calls.ends(x, "ab="), -1);
        Due.is("ends ab", Calls.ends(x, "ab"), 2);
        Due.is("the tape is empty", x.told(6), 0);
        Due.same("they are left", spelled(x), "abc=1:2;b=3:4");
        Due.is("ends ab again", Calls.ends(x, "ab"), -1);
        Due.is("ends b", Calls.ends(x, "b"), 1);
        Due.is("ends abc", Calls.ends(x, "abc"), 0);
    }

    // promise 26
    private static void route() {
        FareLimits x = new FareLimits();
        Calls.book(x, "xyz=02:70*8;b=3:5");
        int[][] want = {{8, 5, 0, 1, 1}, {5, 70, 8, 1, 3}};
        for (int i = 0; i < 2; i++) {
            for (int what = 0; what < 5; what++) {
                Due.is("route " + i + " " + what, x.route(i, what), want[i][what]);
            }
        }
        Due.is("letter 0", x.route(1, 10), 'x');
        Due.is("letter 1", x.route(1, 11), 'y');
        Due.is("letter 2", x.route(1, 12), 'z');
        Due.is("letter 3", x.route(1, 13), -1);
        Due.is("letter 1 of one", x.route(0, 11), -1);
        Due.is("what 5", x.route(0, 5), -1);
        Due.is("what 9", x.route(0, 9), -1);
        Due.is("what -1", x.route(0, -1), -1);
        Due.is("what wild", x.route(0, LOW), -1);
        Due.is("route 2", x.route(2, 0), -1);
        Due.is("route -1", x.route(-1, 0), -1);
    }

    // promise 27
    private static void part() {
        FareLimits x = new FareLimits();
        Calls.book(x, "a=013:9973");
        x.leg(0, 0, 7919);
        x.leg(1, 0, 9901);
        x.leg(3, 0, 3);
        float together = 7919 + 9901 + 3;
        Due.is("part 0", x.part(0, 0), bits(9973f * 7919f / together));
        Due.is("part 1", x.part(0, 1), bits(9973f * 9901f / together));
        Due.is("part 3", x.part(0, 3), bits(9973f * 3f / together));
        Due.is("not over it", x.part(0, 2), 0);
        Due.is("part route 1", x.part(1, 0), -1);
        Due.is("part route -1", x.part(-1, 0), -1);
        Due.is("part leg 4", x.part(0, 4), -1);
        Due.is("part leg -1", x.part(0, -1), -1);
    }

    // promise 28
    private static void cost() {
        FareLimits x = new FareLimits();
        Calls.book(x, "a=0:50*4;b=0:70*4;c=0:60*4");
        Due.is("cost: 12 above 10", x.cost(0), bits(50f));
        x.leg(0, 1, 8);
        Due.is("cost: 8 isn't above 8", x.cost(0), bits(50f));
        x.leg(0, 1, 7);
        Due.is("cost: 8 above 7", x.cost(0), bits(60f));
        x.leg(0, 1, 12);
        Due.is("cost: none", x.cost(0), 0);
        x.leg(0, 1, 0);
        Due.is("cost: the first", x.cost(0), bits(70f));
        Calls.book(x, "aa=01:140*0");
        Due.is("cost: nobody wants the first by name", x.cost(0), bits(70f));
        Due.is("cost of another leg", x.cost(1), 0);
        Due.is("cost 4", x.cost(4), -1);
        Due.is("cost -1", x.cost(-1), -1);
    }

    /** LET IN, told by route. */
    private static void letIn() {
        FareLimits x = new FareLimits();
        Calls.book(x, "a=0:50*99;b=1:40*99;c=01:90*1;d=01:89*1;e=2:1");
        Due.is("costs", x.cost(0), bits(50f));
        Due.is("costs", x.cost(1), bits(40f));
        Due.is("as much as the costs", x.route(2, 3), 1);
        Due.is("below the costs", x.route(3, 3), 0);
        Due.is("over a leg with no cost", x.route(4, 3), 1);
    }

    // promise 29
    private static void replay() {
        FareLimits x = twoFares();
        x.rule(0, 1);
        Due.is("with 2 to go b isn't taken, with 1 it is", Calls.replay(x, "bb", 0), 100);
        Due.is("how many", Calls.replay(x, "bb", 1), 1);
        Due.is("left", Calls.replay(x, "bb", 2), 0);
        Due.is("which", Calls.replay(x, "bb", 3), 2);
        Due.is("behind", Calls.replay(x, "bb", 4), 100);
        Due.is("behind: the greatest", Calls.replay(x, "bab", 4), 300);
        Due.is("nobody asks", Calls.replay(x, "b-", 1), 0);
        Due.is("nobody asks at all", Calls.replay(x, "--------------------", 2), 1);
        x.rule(0, 2);
        Due.is("with seats for both", Calls.replay(x, "bb", 3), 3);
        Due.is("none is left", Calls.replay(x, "aaa", 3), 3);
        Due.is("behind: as many as seats", Calls.replay(x, "ba-ba", 4), 600);
        Due.is("behind: each once", Calls.replay(x, "bab", 4), 400);
        Due.is("behind: fewer than seats", Calls.replay(x, "-b", 4), 100);
        x.rule(0, 0);
        Due.is("no seats", Calls.replay(x, "aa", 0), 0);
        Due.is("no seats, behind", Calls.replay(x, "aa", 4), 0);
        Calls.tape(x, "ab");
        Due.is("replay what 5", x.replay(5), -1);
        Due.is("replay what -1", x.replay(-1), -1);
        Due.is("the tape stays", x.told(6), 2);
        Due.is("replay", x.replay(1), 0);
        Due.is("the tape is empty then", x.told(6), 0);
    }

    private static void requestsFaults() {
        String[] texts = {"", "abc", "A", "`", "ab-`", "aa--aaaaaaaaaaaaaaaaa", "aaaaaaaaaaaaaaaaaaaac", "a b"};
        int[] places = {0, 2, 0, 0, 3, 20, 20, 1};
        for (int i = 0; i < texts.length; i++) {
            FareLimits x = twoFares();
            for (int what = 0; what < 4; what++) {
                Due.is("replay " + texts[i], Calls.replay(x, texts[i], what), -100 - places[i]);
                Due.is("byHand " + texts[i], Calls.byHand(x, texts[i], what), -100 - places[i]);
            }
            Due.is("the tape is empty behind " + texts[i], x.told(6), 0);
        }
        Due.is("no fares: - alone may be", Calls.replay(new FareLimits(), "--", 2), 10);
        Due.is("no fares: a", Calls.replay(new FareLimits(), "a", 2), -100);
    }

    // promises 30, 31
    private static void spellAndPaper() {
        FareLimits x = new FareLimits();
        Due.is("spell nothing", x.spell(), 0);
        Due.is("paper 0", x.paper(0), -1);
        Calls.book(x, "b=3:0100*05;a=012:7*0");
        Due.is("the paper is as it was", x.told(7), 0);
        Due.is("spell", x.spell(), 17);
        String want = "a=012:7;b=3:100*5";
        for (int i = 0; i < want.length(); i++) {
            Due.is("paper " + i, x.paper(i), want.charAt(i));
        }
        Due.is("paper 17", x.paper(17), -1);
        Due.is("paper -1", x.paper(-1), -1);
        Due.is("paper wild", x.paper(HIGH), -1);
        Calls.ends(x, "a");
        Due.is("the paper is as it was", x.told(7), 17);
        Due.is("spelled anew", x.spell(), 9);
        Due.is("paper 9", x.paper(9), -1);
        FareLimits y = new FareLimits();
        for (int i = 0; i < 12; i++) {
            Calls.book(y, "ab" + (char) ('a' + i) + "=0123:9999*99");
        }
        Due.is("the longest", y.spell(), 12 * 16 + 11);
        Due.is("its last byte", y.paper(202), '9');
    }

    // promise 32
    private static void told() {
        FareLimits x = new FareLimits();
        int[] prices = {5, 9, 5, 7, 9, 5};
        for (int p : prices) {
            x.fare(0, p);
        }
        Due.is("fares", x.told(0), 6);
        Due.is("unlike", x.told(8), 3);
        Due.is("greatest", x.told(9), 9);
        x.leg(2, 0, 31);
        x.leg(3, 1, 32);
        Due.is("length", x.told(12), 31);
        Due.is("free", x.told(23), 32);
        x.hand(5, 4);
        Due.is("hand", x.told(35), 4);
        Due.is("hand at first", x.told(30), 30);
        int[] wrong = {-1, 14, 19, 24, 29, 36, LOW, HIGH};
        for (int w : wrong) {
            Due.is("told " + w, x.told(w), -1);
        }
        x.drop();
        Due.is("hand of who is gone", x.told(35), -1);
        Due.is("tape", x.told(6), 0);
        x.feed(5);
        Due.is("tape", x.told(6), 1);
    }

    // promise 33
    private static void demand() {
        FareLimits x = new FareLimits();
        x.fare(0, 10);
        x.odds(0, 0, 30);
        x.odds(0, 1, 80);
        double o = 30 / 100.0;
        double n = 1.0 - o;
        Due.is("demand 0 0", x.demand(0, 0, 0), bits(1.0));
        Due.is("demand 1 0", x.demand(0, 1, 0), bits(n));
        Due.is("demand 2 1", x.demand(0, 2, 1), bits(o * n + n * o));
        Due.is("demand 2 2", x.demand(0, 2, 2), bits(o * o));
        Due.is("demand 2 3", x.demand(0, 2, 3), 0);
        double none = ((((n * n) * n) * n) * n) * (1.0 - 80 / 100.0);
        Due.is("demand 6 0: another phase", x.demand(0, 6, 0), bits(none));
        Due.is("demand k 21", x.demand(0, 0, 21), NO);
        Due.is("demand k -1", x.demand(0, 0, -1), NO);
        Due.is("demand t 21", x.demand(0, 21, 0), NO);
        Due.is("demand t -1", x.demand(0, -1, 0), NO);
        Due.is("demand fare 1", x.demand(1, 0, 0), NO);
        Due.is("demand fare -1", x.demand(-1, 0, 0), NO);
    }

    // promise 34
    private static void spill() {
        FareLimits x = new FareLimits();
        x.fare(0, 10);
        x.odds(0, 0, 100);
        Due.is("spill of certain ones", x.spill(0, 5, 2), bits(3.0));
        x.odds(0, 0, 30);
        double o = 30 / 100.0;
        double n = 1.0 - o;
        double one = o * n + n * o;
        Due.is("spill 2 0", x.spill(0, 2, 0), bits(0.0 + 1.0 * one + 2.0 * (o * o)));
        Due.is("spill 2 1", x.spill(0, 2, 1), bits(o * o));
        Due.is("spill 2 2", x.spill(0, 2, 2), 0);
        Due.is("spill 20 30", x.spill(0, 20, 30), 0);
        Due.is("spill n 31", x.spill(0, 2, 31), NO);
        Due.is("spill n -1", x.spill(0, 2, -1), NO);
        Due.is("spill t 21", x.spill(0, 21, 0), NO);
        Due.is("spill t -1", x.spill(0, -1, 0), NO);
        Due.is("spill fare 1", x.spill(1, 2, 0), NO);
    }

    // promise 35
    private static void hand() {
        FareLimits x = new FareLimits();
        Due.is("hand of none", x.hand(0, 31), -1);
        x.fare(0, 10);
        Due.is("hand at first", x.hand(0, 0), 30);
        Due.is("hand then", x.hand(0, 30), 0);
        Due.is("hand 31", x.hand(0, 31), -2);
        Due.is("hand -1", x.hand(0, -1), -2);
        Due.is("hand -1st", x.hand(-1, 3), -1);
        Due.is("hand kept", x.told(30), 30);
    }

    // promise 36
    private static void byHand() {
        FareLimits x = new FareLimits();
        x.fare(0, 300);
        x.fare(1, 100);
        x.fare(2, 200);
        x.fare(3, 100);
        x.rule(0, 5);
        x.hand(1, 2);
        x.hand(2, 3);
        Due.is("cheaper ones count, of whatever fare", Calls.byHand(x, "dbbcca", 3), 1 | 2 | 8 | 32);
        Due.is("prices", Calls.byHand(x, "dbbcca", 0), 100 + 100 + 200 + 300);
        Due.is("how many", Calls.byHand(x, "dbbcca", 1), 4);
        Due.is("left", Calls.byHand(x, "dbbcca", 2), 1);
        Due.is("dearer ones don't count", Calls.byHand(x, "aaab", 3), 15);
        Due.is("no seat is left", Calls.byHand(x, "aaaaaa", 3), 31);
        Due.is("- is nobody", Calls.byHand(x, "a--b", 3), 9);
        x.hand(0, 0);
        Due.is("a hand of 0", Calls.byHand(x, "aab", 3), 4);
        Calls.tape(x, "a");
        Due.is("byHand what 4", x.byHand(4), -1);
        Due.is("byHand what -1", x.byHand(-1), -1);
        Due.is("the tape stays", x.told(6), 1);
    }

    // promise 37
    private static void drawn() {
        FareLimits x = new FareLimits();
        x.fare(0, 100);
        for (int phase = 0; phase < 4; phase++) {
            x.odds(0, phase, 100);
        }
        x.rule(0, 4);
        Due.is("prices", x.drawn(3, 20, 0, 0), 1200);
        Due.is("asked", x.drawn(3, 20, 0, 1), 60);
        Due.is("had", x.drawn(3, 20, 1, 2), 12);
        Due.is("sold out", x.drawn(3, 20, 1, 3), 3);
        Due.is("never sold out", x.drawn(20, 3, 0, 3), 0);
        x.hand(0, 2);
        Due.is("by hand, each day anew", x.drawn(3, 20, 1, 2), 6);
        x.rule(0, 0);
        Due.is("without seats all days count", x.drawn(7, 1, 0, 3), 7);
        for (int phase = 0; phase < 4; phase++) {
            x.odds(0, phase, 0);
        }
        Due.is("nobody asks", x.drawn(20, 20, 0, 1), 0);
        x.seed(1);
        x.drawn(2, 3, 0, 0);
        int seed = 1;
        for (int i = 0; i < 6; i++) {
            seed = seed * 1103515245 + 12345;
        }
        Due.is("the seed goes on, though nobody asks", x.seed(9), seed);
        int[][] wrong = {{1, 1, 2, 0, -1}, {1, 1, -1, 0, -1}, {1, 1, 0, 4, -1}, {1, 1, 0, -1, -1}, {0, 1, 0, 0, -2},
            {21, 1, 0, 0, -2}, {1, 0, 0, 0, -2}, {1, 21, 0, 0, -2}, {0, 0, 2, 0, -1}, {LOW, HIGH, 0, 0, -2}};
        for (int[] w : wrong) {
            Due.is("drawn wrong", x.drawn(w[0], w[1], w[2], w[3]), w[4]);
        }
        Due.is("the seed stays", x.seed(1), 9);
        drawnByOdds();
    }

    /** Who asks hangs on the odds added up, of the phase of the stage. */
    private static void drawnByOdds() {
        FareLimits x = new FareLimits();
        x.fare(0, 10);
        x.fare(0, 1000);
        x.rule(0, 30);
        x.odds(0, 0, 37);
        x.odds(1, 0, 30);
        x.odds(1, 1, 80);
        x.seed(-12345);
        int seed = -12345;
        int asked = 0;
        int prices = 0;
        for (int t = 9; t >= 1; t--) {
            seed = seed * 1103515245 + 12345;
            int d = (seed >>> 16) % 100;
            int cheap = t <= 5 ? 37 : 0;
            int both = t <= 5 ? 67 : 80;
            asked += d < both ? 1 : 0;
            prices += d < cheap ? 10 : d < both ? 1000 : 0;
        }
        Due.is("asked by odds", x.drawn(1, 9, 1, 1), asked);
        x.seed(-12345);
        Due.is("prices by odds", x.drawn(1, 9, 1, 0), prices);
    }

    // promise 38
    private static void seed() {
        FareLimits x = new FareLimits();
        Due.is("seed at first", x.seed(LOW), 1);
        Due.is("seed lowest", x.seed(HIGH), LOW);
        Due.is("seed highest", x.seed(0), HIGH);
        Due.is("seed 0", x.seed(0), 0);
    }

    // promise 39
    private static void tray() {
        FareLimits x = new FareLimits();
        Due.is("tray 20", x.tray(0, 0, 20), 1);
        Due.is("tray 0", x.tray(3, 3, 0), 1);
        Due.is("tray 21", x.tray(0, 0, 21), -2);
        Due.is("tray -1", x.tray(0, 0, -1), -14);
        Due.is("tray kind 4", x.tray(0, 4, 21), -1);
        Due.is("tray kind -1", x.tray(0, -1, -1), -1);
        Due.is("tray 4th", x.tray(4, 0, 1), -1);
        Due.is("tray -1st", x.tray(-1, 0, 1), -1);
        Due.is("the row is still there", x.laid(0, 19), -5);
        Due.is("no place in a row of none", x.laid(3, 0), -12);
        x.fare(0, 5);
        x.lays(0, 0, 0);
        x.tray(0, 0, 2);
        Due.is("empty anew", x.laid(0, 0), -5);
    }

    // promise 40
    private static void lays() {
        FareLimits x = new FareLimits();
        for (int kind = 0; kind < 4; kind++) {
            x.fare(kind, 5);
            x.tray(kind, kind, 1);
        }
        boolean[][] may = {{true, true, true, true}, {false, true, false, false}, {false, false, true, true},
            {false, false, false, true}};
        for (int tray = 0; tray < 4; tray++) {
            for (int fare = 0; fare < 4; fare++) {
                Due.is("lays " + fare + " on " + tray, x.lays(tray, 0, fare), may[tray][fare] ? 1 : -16);
            }
        }
        Due.is("nothing may lie anywhere", x.lays(1, 0, -1), 1);
        Due.is("nothing lies there", x.laid(1, 0), -5);
        Due.is("lays place 1", x.lays(1, 1, 0), -12);
        Due.is("lays place -1", x.lays(1, -1, -1), -12);
        Due.is("lays fare 4", x.lays(1, 5, 4), -1);
        Due.is("lays fare -2", x.lays(1, 0, -2), -1);
        Due.is("lays tray 4", x.lays(4, 0, 0), -1);
        FareLimits y = new FareLimits();
        y.fare(0, 5);
        Due.is("lays on what is missing", y.lays(0, 0, 0), -11);
        Due.is("lays on what is missing, no such fare", y.lays(0, 0, 1), -1);
    }

    // promise 41
    private static void laid() {
        FareLimits x = new FareLimits();
        x.fare(0, 5);
        x.fare(1, 5);
        Due.is("laid missing", x.laid(2, -1), -11);
        x.tray(2, 0, 3);
        x.lays(2, 1, 1);
        Due.is("laid", x.laid(2, 1), 1);
        Due.is("laid empty", x.laid(2, 0), -5);
        Due.is("laid place 3", x.laid(2, 3), -12);
        Due.is("laid place -1", x.laid(2, -1), -12);
        Due.is("laid tray 4", x.laid(4, 0), -1);
        Due.is("laid tray -1", x.laid(-1, 0), -1);
        x.drop();
        Due.is("its number still", x.laid(2, 1), 1);
    }

    // promise 42
    private static void like() {
        FareLimits x = new FareLimits();
        x.fare(1, 5);
        x.fare(2, 5);
        x.tray(0, 1, 2);
        x.lays(0, 1, 0);
        Due.is("like", x.like(3, 0), 2);
        Due.is("its places", x.laid(3, 1), 0);
        Due.is("its kind", x.lays(3, 0, 1), -16);
        x.lays(3, 0, 0);
        Due.is("a row of its own", x.laid(0, 0), -5);
        x.tray(0, 0, 5);
        Due.is("as that was then", x.laid(3, 2), -12);
        Due.is("like itself", x.like(3, 3), 2);
        Due.is("still there", x.laid(3, 1), 0);
        Due.is("like a missing one", x.like(3, 1), -11);
        Due.is("not missing for that", x.laid(3, 1), 0);
        Due.is("like 4", x.like(0, 4), -1);
        Due.is("like of 4", x.like(4, 0), -1);
        Due.is("like -1", x.like(-1, 0), -1);
        x.tray(1, 0, 0);
        Due.is("like a row of none", x.like(3, 1), 0);
        Due.is("no place then", x.laid(3, 0), -12);
    }

    // promise 43
    private static void list() {
        FareLimits x = new FareLimits();
        Due.is("list 31", x.list(0, 31), 1);
        x.set(0, 30, 5);
        Due.is("list 32", x.list(0, 32), -2);
        Due.is("list -1", x.list(0, -1), -14);
        Due.is("list 4th", x.list(4, 32), -1);
        Due.is("list -1st", x.list(-1, 1), -1);
        Due.is("it stays", x.get(0, 30), 5);
        Due.is("list anew", x.list(0, 31), 1);
        Due.is("all 0", x.get(0, 30), 0);
        Due.is("list 0", x.list(0, 0), 1);
        Due.is("the last list", x.list(3, 1), 1);
        Due.is("set in the last list", x.set(3, 0, 8), 1);
        Due.is("get of the last list", x.get(3, 0), 8);
        Due.is("judge the last list", x.judge(0, 3, 0), 0);
        Due.is("no place", x.get(0, 0), NO);
    }

    // promises 44, 45
    private static void setAndGet() {
        FareLimits x = new FareLimits();
        Due.is("set in nothing", x.set(1, -1, 5), -11);
        Due.is("get of nothing", x.get(1, 0), NO);
        x.list(1, 3);
        Due.is("set", x.set(1, 2, Long.MAX_VALUE), 1);
        Due.is("get", x.get(1, 2), Long.MAX_VALUE);
        Due.is("set NO", x.set(1, 2, NO), 1);
        Due.is("get NO", x.get(1, 2), NO);
        Due.is("set place 3", x.set(1, 3, 5), -12);
        Due.is("set place -1", x.set(1, -1, 5), -12);
        Due.is("set list 4", x.set(4, 0, 5), -1);
        Due.is("set list -1", x.set(-1, 0, 5), -1);
        Due.is("get place 3", x.get(1, 3), NO);
        Due.is("get place -1", x.get(1, -1), NO);
        Due.is("get list 4", x.get(4, 0), NO);
        Due.is("get list -1", x.get(-1, 0), NO);
    }

    // promise 46
    private static void judge() {
        FareLimits x = twoFares();
        x.rule(0, 3);
        Due.is("judge nothing", x.judge(1, 0, 0), -11);
        x.list(0, 6);
        for (int s = 0; s <= 3; s++) {
            x.set(0, 2 + s, x.worth(4, s));
        }
        Due.is("judge all", x.judge(4, 0, 2), -5);
        Due.is("judge with other t", x.judge(3, 0, 2), 1);
        Due.is("judge from 3", x.judge(4, 0, 3), 0);
        Due.is("judge: the row ends", x.judge(4, 0, 6), 100);
        Due.is("judge: 0 is the worth of 0", x.judge(4, 0, 0), 1);
        x.set(0, 5, 3);
        Due.is("judge: the last", x.judge(4, 0, 2), 3);
        x.set(0, 5, x.worth(4, 3));
        x.rule(0, 5);
        Due.is("judge: the row ends ahead of that", x.judge(4, 0, 2), 104);
        x.set(0, 4, 7);
        Due.is("judge: the first", x.judge(4, 0, 2), 2);
        Due.is("judge i 7", x.judge(4, 0, 7), -12);
        Due.is("judge i -1", x.judge(4, 0, -1), -12);
        Due.is("judge t 21", x.judge(21, 0, 0), -1);
        Due.is("judge t -1", x.judge(-1, 0, 0), -1);
        Due.is("judge list 4", x.judge(4, 4, 0), -1);
        Due.is("judge list -1", x.judge(4, -1, 0), -1);
        Due.is("judge list 1", x.judge(4, 1, 7), -11);
    }

    // promises 47, 48
    private static void imageAndUndo() {
        FareLimits x = twoFares();
        Due.is("undo none", x.undo(), -3);
        Calls.book(x, "a=0:1;b=1:2*3");
        x.hand(1, 7);
        x.leg(1, 0, 11);
        x.leg(2, 1, 22);
        x.seed(99);
        x.tray(0, 0, 1);
        x.list(0, 1);
        Due.is("image", x.image(), 2);
        long worth = x.worth(3, 3);
        x.drop();
        x.drop();
        x.fare(3, 8);
        x.fare(1, 9);
        x.fare(2, 10);
        x.odds(0, 0, 1);
        x.hand(1, 8);
        Due.holds("another worth", x.worth(3, 3) != worth);
        for (int i = 0; i < 4; i++) {
            x.rule(i, 1);
        }
        x.leg(1, 0, 12);
        x.leg(2, 1, 23);
        x.seed(100);
        Calls.book(x, "c=2:3");
        Calls.ends(x, "a");
        Calls.ends(x, "b");
        Due.holds("another worth again", x.worth(3, 1) != worth);
        x.spell();
        x.feed(5);
        x.lays(0, 0, 1);
        x.set(0, 0, 6);
        Due.is("undo", x.undo(), 2);
        int[] want = {2, 10, 0, 0, 500, 2, 1, 5, 2, 300, 100, 11};
        for (int i = 0; i < want.length; i++) {
            Due.is("told behind undo " + i, x.told(i), want[i]);
        }
        Due.is("free", x.told(22), 22);
        Due.is("hand", x.told(31), 7);
        Due.is("odds", x.of(0, 2), 20);
        Due.is("kind", x.of(1, 0), 2);
        Due.is("price", x.of(1, 1), 100);
        Due.is("worth", x.worth(3, 3), worth);
        Due.is("tray stays", x.laid(0, 0), 1);
        Due.is("list stays", x.get(0, 0), 6);
        Due.same("routes", spelled(x), "a=0:1;b=1:2*3");
        Due.is("seed", x.seed(5), 99);
        x.drop();
        x.drop();
        Due.is("undo again", x.undo(), 2);
        Due.is("seed again", x.seed(5), 99);
        x.drop();
        Due.is("image anew", x.image(), 1);
        x.fare(0, 4);
        Due.is("undo anew", x.undo(), 1);
        x.fare(0, 4);
        Due.is("who comes behind undo has no odds", x.of(1, 2), 0);
        Due.is("and hand as at first", x.told(31), 30);
    }

    private static String allOf(FareLimits x) {
        StringBuilder all = new StringBuilder();
        for (int i = 0; i < 40; i++) {
            all.append(x.told(i)).append(' ');
        }
        for (int i = 0; i < 6; i++) {
            for (int what = 0; what < 6; what++) {
                all.append(x.of(i, what)).append(' ');
            }
        }
        for (int i = 0; i < 4; i++) {
            for (int k = 0; k < 4; k++) {
                all.append(x.laid(i, k)).append(' ').append(x.get(i, k)).append(' ');
            }
        }
        for (int i = 0; i < x.told(7); i++) {
            all.append(x.paper(i)).append(' ');
        }
        int seed = x.seed(0);
        x.seed(seed);
        return all.append(seed).toString();
    }

    private static void refusalsChangeNothing() {
        FareLimits x = twoFares();
        for (int i = 0; i < 4; i++) {
            x.fare(i, 20 + i);
        }
        Calls.book(x, "a=0:1;b=1:2*3");
        x.spell();
        x.tray(0, 1, 3);
        x.list(0, 3);
        x.set(0, 1, 44);
        Calls.tape(x, "ab");
        String before = allOf(x);
        long[] refused = {x.fare(0, 5), x.fare(0, 0), x.fare(9, 9), x.odds(0, 0, 99), x.odds(6, 0, 1), x.rule(0, 31),
            x.rule(4, 1), x.leg(0, 0, 0), x.leg(0, 1, 100), x.leg(4, 0, 1), x.feed(0), x.feed(200), x.replay(5),
            x.byHand(4), x.hand(0, 31), x.hand(6, 1), x.drawn(0, 1, 0, 0), x.drawn(1, 1, 2, 0), x.tray(0, 0, 21),
            x.tray(0, 0, -1), x.tray(0, 4, 1), x.lays(0, 0, 0), x.lays(0, 3, 1), x.lays(1, 0, 0), x.lays(0, 0, 6),
            x.like(0, 1), x.like(0, 4), x.list(0, 32), x.list(0, -1), x.set(0, 3, 1), x.set(1, 0, 1), x.undo(),
            x.gross(20, 10), x.ways(40, 0, 0), x.judge(0, 0, 9), x.worth(21, 0), x.booked(9, 0)};
        for (int i = 0; i < refused.length; i++) {
            Due.holds("refused " + i, refused[i] < 0);
        }
        Due.same("what is refused changes nothing", allOf(x), before);
        Due.is("a text with a fault", x.book(), -102);
        Due.is("does nothing but empty the tape", x.told(6), 0);
        Calls.tape(x, "ab");
        Due.same("and nothing else", allOf(x), before);
    }

    private static void longestUse() {
        FareLimits x = twoFares();
        for (int i = 0; i < 500; i++) {
            x.drawn(20, 20, i % 2, 0);
        }
        Due.is("worth behind 500 draws", x.worth(1, 1), bits(0.0 + (20 / 100.0) * 300.0 + (50 / 100.0) * 100.0));
    }
}
