/** The edges of "Terms" 1 to 3, fares, worths and chances, in the document's order, each reckoned anew here. */
public final class WorthsEdgesTest {
    private static final long NO = Long.MIN_VALUE;
    private static final int LOW = Integer.MIN_VALUE;
    private static final int HIGH = Integer.MAX_VALUE;
    private static final int[] ALL_PHASES = {0, 1, 2, 3};

    public static void main(String[] args) {
        sixFares();
        keep();
        seats();
        phases();
        oddsTogether();
        showsByStages();
        worthByStages();
        worthInOrder();
        gains();
        keptAndLimit();
        grossAtTheEdge();
        grossNeeds();
        grossGreatest();
        chances();
        turnedAndHad();
        bookedBest();
        waysAtTheEdge();
        Due.end("WorthsEdgesTest");
    }

    private static long bits(double d) {
        return Double.doubleToLongBits(d);
    }

    private static int bits(float f) {
        return Float.floatToIntBits(f);
    }

    // ---- 1

    /** "FARES 0 .. 5, as they come (letters a .. f, too)" */
    private static void sixFares() {
        FareLimits x = new FareLimits();
        for (int i = 0; i < 6; i++) {
            Due.is("a fare that hasn't come", x.of(i, 0), -1);
            Due.is("fare " + i, x.fare(3 - i % 4, 9999 - i), i);
            Due.is("kind " + i, x.of(i, 0), 3 - i % 4);
            Due.is("price " + i, x.of(i, 1), 9999 - i);
            for (int phase = 0; phase < 4; phase++) {
                Due.is("odds at first", x.of(i, 2 + phase), 0);
            }
        }
        Due.is("the seventh", x.fare(0, 1), -4);
        Due.is("no seventh", x.of(6, 0), -1);
        Due.is("letters a to f", Calls.replay(x, "fedcba", 4), 9999 * 6 - 15);
        Due.is("no letter g", Calls.replay(x, "g", 4), -100);
        Due.is("five are left", x.drop(), 5);
        Due.is("the last number comes again", x.fare(1, 4), 5);
        Due.is("full again", x.fare(1, 4), -4);
    }

    /** "KEEP of a FARE 0.5, OPEN 0.0, SAVER 1.0, GROUP 0.75" */
    private static void keep() {
        double[] net = {75.0, 50.0, 100.0, 87.5};
        FareLimits x = new FareLimits();
        x.rule(2, 50);
        for (int kind = 0; kind < 4; kind++) {
            x.fare(kind, 100);
            Due.is("half of them come, kind " + kind, x.net(kind, 0), bits(net[kind]));
            Due.is("cut, kind " + kind, x.netCut(kind, 0), (int) net[kind]);
        }
        FareLimits y = Sample.with(1, 9999);
        Due.is("the greatest net", y.netCut(0, 20), 9999);
        y.rule(1, 50);
        y.rule(2, 50);
        Due.is("the least net", y.net(0, 20), bits(9999.0 / (1 << 21)));
        Due.is("the least net, cut", y.netCut(0, 20), 0);
    }

    private static void seats() {
        FareLimits x = Sample.with(0, 100, 10);
        Due.is("10 at first", x.worth(1, 10), bits(10.0));
        Due.is("not 11", x.worth(1, 11), NO);
        Due.is("become 30", x.rule(0, 30), 10);
        Due.is("worth of 30", x.worth(20, 30), bits(50.0));
        Due.is("not 31", x.worth(1, 31), NO);
        Due.is("not 31", x.worthShort(1, 31), -1);
        Due.is("not 31", x.gross(1, 31), NO);
        Due.is("not 31", x.taken(0, 1, 31), -1);
        Due.is("become 0", x.rule(0, 0), 30);
        Due.is("worth of none", x.worth(20, 0), 0);
        Due.is("worth of 1", x.worth(20, 1), NO);
        Due.is("gross of 1", x.gross(20, 1), NO);
        Due.is("taken with 1", x.taken(0, 1, 1), -1);
        Due.is("taken with none", x.taken(0, 1, 0), -1);
        Due.is("become 1", x.rule(0, 1), 0);
        Due.is("taken with 1", x.taken(0, 1, 1), 1);
        Due.is("taken with 2", x.taken(0, 1, 2), -1);
    }

    /** "t is of PHASE (t less 1) over 5 (cut: 0 .. 3)": what has odds in one phase alone counts there alone. */
    private static void phases() {
        for (int phase : ALL_PHASES) {
            FareLimits x = Sample.with(2, 100);
            x.rule(0, 30);
            x.odds(0, phase, 10);
            Due.is("of", x.of(0, 2 + phase), 10);
            double none = 1.0;
            for (int t = 1; t <= 20; t++) {
                int stages = Math.max(0, Math.min(5, t - 5 * phase));
                none = stages > 0 && t <= 5 * phase + 5 ? none * (1.0 - 10 / 100.0) : none;
                Due.is("worth " + phase + " " + t, x.worth(t, 30), bits(10.0 * stages));
                Due.is("demand " + phase + " " + t, x.demand(0, t, 0), bits(none));
                Due.is("demand of all " + phase + " " + t, x.demand(0, t, t) == 0 ? 1 : 0,
                    phase == 0 && t <= 5 ? 0 : 1);
                long gross = 1000L * stages;
                for (int i = 1; i < t && t <= 8; i++) {
                    gross *= 100;
                }
                if (t <= 8) {
                    Due.is("gross " + phase + " " + t, x.gross(t, 30), gross);
                }
            }
            x.odds(0, phase, 100);
            for (int n = 1; n <= 20; n++) {
                Due.is("drawn " + phase + " " + n, x.drawn(3, n, 0, 1), 3 * Math.max(0, Math.min(5, n - 5 * phase)));
            }
        }
    }

    /** "ODDS: 0 .. 100; of all FARES together 100 at most", in each phase by itself. */
    private static void oddsTogether() {
        FareLimits x = new FareLimits();
        for (int i = 0; i < 6; i++) {
            x.fare(0, 10);
        }
        for (int phase : ALL_PHASES) {
            for (int i = 0; i < 5; i++) {
                Due.is("odds", x.odds(i, phase, 17), 0);
            }
            Due.is("101 together", x.odds(5, phase, 16), -2);
            Due.is("100 together", x.odds(5, phase, 15), 0);
            Due.is("101 by the first", x.odds(0, phase, 18), -2);
            Due.is("what was refused didn't come", x.of(0, 2 + phase), 17);
            Due.is("the same again", x.odds(0, phase, 17), 17);
            Due.is("less", x.odds(0, phase, 0), 17);
            Due.is("room for 17", x.odds(5, phase, 33), -2);
            Due.is("room for 17", x.odds(5, phase, 32), 15);
            Due.is("far too many wrap no sum", x.odds(5, phase, HIGH), -2);
            Due.is("far too few wrap no sum", x.odds(5, phase, LOW), -2);
        }
        x.drop();
        Due.is("what is gone leaves room", x.odds(0, 3, 32), 0);
        Due.is("and no more than that", x.odds(0, 3, 33), -2);
    }

    /** "1.0 less (NOSHOW over 100.0), then t times: that times (1.0 less (CANCEL over 100.0))" */
    private static void showsByStages() {
        int[][] rules = {{0, 0}, {0, 50}, {50, 0}, {50, 50}, {1, 1}, {33, 7}, {49, 49}, {7, 0}};
        for (int[] rule : rules) {
            FareLimits x = Sample.with(0, 777);
            x.rule(1, rule[0]);
            x.rule(2, rule[1]);
            double shows = 1.0 - (rule[1] / 100.0);
            for (int t = 0; t <= 20; t++) {
                Due.is("shows " + rule[0] + " " + rule[1] + " " + t, x.shows(t), bits(shows));
                double net = 777 * (shows + ((1.0 - shows) * 0.5));
                Due.is("net " + rule[0] + " " + rule[1] + " " + t, x.net(0, t), bits(net));
                Due.is("netCut " + rule[0] + " " + rule[1] + " " + t, x.netCut(0, t), (int) net);
                shows = shows * (1.0 - (rule[0] / 100.0));
            }
        }
    }

    // ---- 2

    /** All worths that there are, of the most fares with the most seats. */
    private static void worthByStages() {
        for (int half = 0; half < 2; half++) {
            FareLimits x = new FareLimits();
            Reference due = new Reference();
            for (Object each : new Object[] {x, due}) {
                for (int i = 0; i < 6; i++) {
                    Calls.ask(each, "fare", i % 4, new int[] {9999, 7001, 3333, 1, 4567, 2}[i]);
                    for (int phase : ALL_PHASES) {
                        Calls.ask(each, "odds", i, phase, 3 + 5 * phase - i % 2);
                    }
                }
                Calls.ask(each, "rule", 0, 30);
                Calls.ask(each, "rule", 1, 9);
                Calls.ask(each, "rule", 2, 3);
            }
            for (int t = half; t <= 20; t += 2) {
                for (int s = 0; s <= 30; s++) {
                    Due.is("worth " + t + " " + s, x.worth(t, s), due.worth(t, s));
                }
            }
            int roundedUp = 0;
            for (int t = 1; t <= 20; t++) {
                Due.is("kept " + t, x.kept(half, t), due.kept(half, t));
                int asFloat = bits((float) Double.longBitsToDouble(due.worth(t, 30)));
                Due.is("worthShort " + t, x.worthShort(t, 30), asFloat);
                roundedUp += (double) Float.intBitsToFloat(asFloat) > Double.longBitsToDouble(due.worth(t, 30)) ? 1 : 0;
            }
            Due.holds("the nearest float, above or below", roundedUp > 0 && roundedUp < 20);
        }
        FareLimits none = new FareLimits();
        Due.is("without fares", none.worth(20, 10), 0);
        Due.is("without fares", none.worthShort(20, 10), 0);
    }

    /** "for each FARE by numbers": another order would tell other bits. */
    private static void worthInOrder() {
        FareLimits x = Sample.with(2, 9999, 9);
        Sample.more(x, 2, 777, 24);
        Sample.more(x, 2, 777, 39);
        double first = 9 / 100.0 * 9999.0;
        double second = 24 / 100.0 * 777.0;
        double third = 39 / 100.0 * 777.0;
        double sum = ((0.0 + first) + second) + third;
        Due.holds("another order tells another sum",
            sum != (first + third) + second && sum != (second + third) + first);
        Due.is("by numbers", x.worth(1, 1), bits(sum));
        Due.is("as a float", x.worthShort(1, 1), bits((float) sum));
    }

    /** "if that is above 0.0": 0.0 itself is not. */
    private static void gains() {
        FareLimits x = Sample.with(2, 300, 100);
        Sample.more(x, 2, 299);
        Sample.more(x, 2, 300);
        Sample.more(x, 2, 301);
        Due.is("a gain below 0", x.taken(1, 2, 1), 0);
        Due.is("a gain of 0", x.taken(2, 2, 1), 0);
        Due.is("a gain of 0 by the fare itself", x.taken(0, 2, 1), 0);
        Due.is("a gain above 0", x.taken(3, 2, 1), 1);
        Due.is("with 0 to go behind it all are", x.taken(1, 1, 1), 1);
        Due.is("with a second seat all are", x.taken(1, 2, 2), 1);
        Due.is("what isn't taken adds nothing", x.worth(20, 1), bits(300.0));
        Due.is("kept by 0", x.kept(2, 2), 1);
        Due.is("not kept above 0", x.kept(3, 2), 0);
        x.rule(0, 1);
        Due.is("replayed: a gain of 0 isn't had", Calls.replay(x, "cc", 3), 2);
        Due.is("replayed: a gain above 0 is", Calls.replay(x, "dd", 3), 1);
    }

    /** "the greatest s (1 .. SEATS) with which it isn't TAKEN; 0: none" */
    private static void keptAndLimit() {
        FareLimits x = Sample.with(2, 300, 100, 100, 100, 100);
        Sample.more(x, 2, 1);
        for (int seats = 1; seats <= 30; seats++) {
            x.rule(0, seats);
            for (int t : new int[] {1, 2, 20}) {
                int kept = Math.min(seats, t - 1);
                Due.is("kept of " + seats + " with " + t, x.kept(1, t), kept);
                Due.is("limit of " + seats + " with " + t, x.limit(1, t), seats - kept);
            }
        }
        Due.is("from the dear one", x.kept(0, 20), 19);
        x.rule(0, 0);
        Due.is("kept of none", x.kept(1, 20), 0);
        Due.is("limit of none", x.limit(1, 20), 0);
    }

    /** "a product, power or sum of these on the way is beyond a long" */
    private static void grossAtTheEdge() {
        FareLimits power = Sample.with(0, 1);
        power.rule(0, 30);
        Due.is("100 to the power 9 is a long", power.gross(10, 30), 0);
        Due.is("100 to the power 10 is none", power.gross(11, 1), -6);
        Due.is("with 20 to go, too", power.gross(20, 30), -6);
        Due.is("without seats 0 is told", power.gross(20, 0), 0);
        Due.is("without stages 0 is told", power.gross(0, 30), 0);
        power.drop();
        Due.is("without fares nothing is over", power.gross(20, 30), 0);
        int[][] products = {{9, 10, 0}, {10, 10, -6}, {922, 9, 0}, {923, 9, -6}, {9999, 8, 0}, {9999, 9, -6}};
        for (int[] p : products) {
            Due.is("a price times a power " + p[0] + " " + p[1], Sample.with(0, p[0]).gross(p[1], 1), p[2]);
        }
        FareLimits near = Sample.with(0, 14, 2, 14);
        Due.is("just a long", near.gross(9, 3), 9215697509707465728L);
        FareLimits beyond = Sample.with(0, 96, 2);
        Due.is("just beyond", beyond.gross(9, 1), -6);
        Due.is("just a long", Sample.with(0, 2, 61, 39).gross(9, 9), 9220000000000000000L);
        Due.is("just beyond", Sample.with(0, 13, 11, 4).gross(9, 9), -6);
        FareLimits hundredfold = Sample.with(0, 1, 1);
        Due.is("100 times what was ahead", hundredfold.gross(10, 9), 5000000000000000000L);
        hundredfold.odds(0, 0, 2);
        Due.is("100 times what was ahead is beyond", hundredfold.gross(10, 9), -6);
        Due.is("what was ahead is not", hundredfold.gross(9, 9), 100000000000000000L);
        Due.is("far beyond, so that it wraps around", Sample.with(0, 1, 100, 100).gross(10, 10), -6);
        FareLimits sum = Sample.with(0, 1, 1, 1);
        Due.is("each a long", sum.gross(9, 10), 90000000000000000L);
        Due.is("together beyond", sum.gross(10, 10), -6);
        FareLimits two = Sample.with(0, 9, 0, 1);
        Sample.more(two, 0, 9, 0, 1);
        Due.is("two fares, each a long, together beyond", two.gross(10, 10), -6);
        Due.is("a product so far beyond that it wraps", Sample.with(0, 9, 0, 100).gross(10, 10), -6);
    }

    /** "GROSS and EXTRA are OVER by a FARE without ODDS, too"; "a GROSS that is needed" */
    private static void grossNeeds() {
        FareLimits x = Sample.with(0, 1);
        Due.is("needed with 11 to go", x.gross(11, 10), -6);
        Due.is("needed with 12 to go", x.gross(12, 1), -6);
        Due.is("not needed with 10", x.gross(10, 1), 0);
        Sample.more(x, 0, 10);
        Due.is("by the second fare", x.gross(10, 1), -6);
        Due.is("not with 9", x.gross(9, 1), 0);
        x.drop();
        Due.is("it is gone", x.gross(10, 1), 0);
        FareLimits y = Sample.with(0, 5, 50);
        Sample.more(y, 0, 3, 50);
        Due.is("an extra above 0", y.gross(2, 1), 100L * 400 + 50 * (500 - 400));
        Sample.more(y, 0, 4);
        Due.is("an extra of 0", y.gross(2, 1), 100L * 400 + 50 * (500 - 400));
        Due.is("cancels don't count", y.rule(1, 50), 0);
        Due.is("noshows don't count", y.rule(2, 50), 0);
        Due.is("prices alone count", y.gross(2, 1), 100L * 400 + 50 * (500 - 400));
        Due.is("but for worths they do", y.worth(1, 1) == bits(4.0) ? 1 : 0, 0);
    }

    /** Fares that were searched for: their GROSS is the greatest long itself, which is not beyond a long. */
    private static void grossGreatest() {
        int[][] prices = {{176, 255, 256, 654, 1553, 1554}, {510, 671, 672, 803, 1169, 1170}};
        int[][] early = {{1, 29, 42, 0, 0, 0}, {24, 29, 42, 0, 0, 0}};
        int[][] late = {{0, 0, 0, 18, 8, 11}, {0, 0, 0, 18, 2, 17}};
        for (int i = 0; i < prices.length; i++) {
            FareLimits x = new FareLimits();
            for (int f = 0; f < 6; f++) {
                Sample.more(x, 0, prices[i][f], early[i][f], late[i][f]);
            }
            Due.is("the greatest long", x.gross(8, 1), Long.MAX_VALUE);
            Due.is("100 times that", x.gross(9, 1), -6);
            x.odds(5, 1, late[i][5] + 1);
            Due.is("more than the greatest long", x.gross(8, 1), -6);
            x.odds(5, 1, late[i][5] - 1);
            Due.holds("less than the greatest long", x.gross(8, 1) > Long.MAX_VALUE / 2);
        }
    }

    // ---- 3

    private static double[] showing(double shows, int b) {
        double[] row = {1.0};
        for (int i = 1; i <= b; i++) {
            double[] next = new double[i + 1];
            next[0] = row[0] * (1.0 - shows);
            for (int k = 1; k < i; k++) {
                next[k] = (row[k] * (1.0 - shows)) + (row[k - 1] * shows);
            }
            next[i] = row[i - 1] * shows;
            row = next;
        }
        return row;
    }

    /** "of 0 booked 1.0 for k 0", and "CHANCE of more than there can be are 0.0" */
    private static void chances() {
        FareLimits x = new FareLimits();
        x.rule(1, 13);
        x.rule(2, 29);
        for (int b : new int[] {0, 40, 1, 39, 2, 20}) {
            double shows = (1.0 - 29 / 100.0) * (1.0 - 13 / 100.0);
            double[] row = showing(shows, b);
            for (int k = 0; k <= 40; k++) {
                Due.is("chance " + b + " " + k, x.chance(1, b, k), k <= b ? bits(row[k]) : 0);
            }
            Due.is("k of 41", x.chance(1, b, 41), NO);
        }
        Sample.more(x, 0, 9, 50);
        Due.is("a demand behind many chances", x.demand(0, 2, 3), 0);
        Due.is("a demand of none behind them", x.demand(0, 0, 20), 0);
        FareLimits all = new FareLimits();
        Due.is("all show", all.chance(20, 40, 40), bits(1.0));
        Due.is("none misses", all.chance(20, 40, 39), 0);
        Due.is("none misses", all.chance(20, 40, 0), 0);
    }

    private static void turnedAndHad() {
        FareLimits x = Sample.with(0, 123);
        x.rule(2, 20);
        x.rule(3, 77);
        double shows = 1.0 - 20 / 100.0;
        for (int seats : new int[] {0, 1, 10, 30}) {
            x.rule(0, seats);
            for (int b = 0; b <= 40; b++) {
                double[] row = showing(shows, b);
                double turned = 0.0;
                for (int k = seats + 1; k <= b; k++) {
                    turned = turned + (double) (k - seats) * row[k];
                }
                double had = 0.0;
                for (int k = 0; k <= b; k++) {
                    had = had + (double) (k < seats ? k : seats) * row[k];
                }
                Due.is("turned " + seats + " " + b, x.turned(0, b), bits(turned));
                Due.is("had " + seats + " " + b, x.had(0, 0, b), bits(had * 123.0 - turned * 77.0));
            }
        }
        Due.is("none is turned away by as many as seats", x.turned(0, 30), 0);
        Due.holds("some are by one more", x.turned(0, 31) > 0);
    }

    /** "the b (0 .. 40) with the greatest HAD, of several the least" */
    private static void bookedBest() {
        FareLimits x = Sample.with(0, 300);
        x.rule(3, 0);
        for (int seats = 0; seats <= 30; seats++) {
            x.rule(0, seats);
            Due.is("all show, nothing is paid: of several the least", x.booked(0, 20), seats);
        }
        x.rule(3, 9999);
        x.rule(0, 0);
        Due.is("without seats nobody", x.booked(0, 0), 0);
        x.rule(0, 30);
        Due.is("all show, it is dear", x.booked(0, 0), 30);
        x.rule(2, 50);
        x.rule(3, 0);
        Due.is("half of them miss, nothing is paid", x.booked(0, 0), 40);
        Due.is("even with 20 to go", x.booked(0, 20), 40);
        x.rule(0, 1);
        x.rule(1, 50);
        x.rule(3, 500);
        Due.is("hardly one comes", x.booked(0, 20), 40);
        FareLimits y = Sample.with(0, 100);
        y.rule(0, 1);
        y.rule(2, 50);
        y.rule(3, 100);
        Due.is("one booked is had by half", y.had(0, 0, 1), bits(50.0));
        Due.is("two booked alike", y.had(0, 0, 2), bits(75.0 - 25.0));
        Due.is("of the two the least", y.booked(0, 0), 1);
    }

    /** "OVER, if a number on the way (sets, powers, products) is beyond a long" */
    private static void waysAtTheEdge() {
        FareLimits x = new FareLimits();
        Due.is("just a long", x.ways(11, 6, 92), 9179496796026568704L);
        Due.is("just beyond", x.ways(10, 2, 43), -6);
        Due.is("a first product, just a long", x.ways(10, 9, 99), 9135172474836408990L);
        Due.is("a first product, just beyond", x.ways(11, 10, 62), -6);
        Due.is("a power, just a long", x.ways(12, 12, 38), 9065737908494995456L);
        Due.is("a power, one more than a long", x.ways(21, 21, 8), -6);
        Due.is("the later power, just a long", x.ways(12, 0, 62), 9065737908494995456L);
        Due.is("the later power, one more than a long", x.ways(21, 0, 92), -6);
        Due.is("half of that", x.ways(31, 31, 4), 1L << 62);
        int[][] wrapped = {{10, 1, 3}, {10, 1, 8}, {10, 1, 9}, {10, 1, 10}};
        for (int[] w : wrapped) {
            Due.is("a product that wraps to above 0", x.ways(w[0], w[1], w[2]), -6);
        }
        Due.is("though 0 follows: a power of 100", x.ways(10, 0, 0), -6);
        Due.is("a power of 100 that is a long", x.ways(9, 0, 0), 1000000000000000000L);
        Due.is("though 0 is ahead", x.ways(11, 1, 0), -6);
        Due.is("0 ahead, and a power that is a long", x.ways(10, 1, 0), 0);
        Due.is("though 0 follows: a power", x.ways(11, 10, 100), -6);
        Due.is("though 0 follows: a product", x.ways(10, 9, 100), -6);
        Due.is("0 follows, all longs", x.ways(10, 8, 100), 0);
        Due.is("0 to the power 0", x.ways(0, 0, 0), 1);
        Due.is("0 to the power 0", x.ways(0, 0, 100), 1);
        Due.is("0 to the power 0, of one", x.ways(1, 0, 0), 100);
        Due.is("0 to the power 0, of one", x.ways(1, 1, 100), 100);
        Due.is("0 to the power 1", x.ways(1, 1, 0), 0);
        Due.is("1 to any power", x.ways(40, 40, 1), 1);
        Due.is("sets of 38 of 40", x.ways(40, 38, 1), 780L * 99 * 99);
        for (int k = 0; k <= 9; k++) {
            long want = new int[] {1, 9, 36, 84, 126, 126, 84, 36, 9, 1}[k];
            for (int i = 0; i < 9; i++) {
                want *= 50;
            }
            Due.is("half of a hundred, " + k, x.ways(9, k, 50), want);
        }
    }
}
