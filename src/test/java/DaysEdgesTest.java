/** The edges of "Terms" 4 to 6, routes, texts, rows and days, and of the image, in the document's order. */
public final class DaysEdgesTest {
    private static final long NO = Long.MIN_VALUE;
    private static final int LOW = Integer.MIN_VALUE;
    private static final int HIGH = Integer.MAX_VALUE;
    private static final int[] ALL_PHASES = {0, 1, 2, 3};

    public static void main(String[] args) {
        namesInOrder();
        parts();
        costs();
        letIn();
        tapeAndPaper();
        pricesTold();
        replayed();
        behind();
        trays();
        kindsOfTrays();
        lists();
        judged();
        demandAndSpill();
        byHand();
        seedWraps();
        daysDrawn();
        withoutSeats();
        image();
        lastCall();
        Due.end("DaysEdgesTest");
    }

    private static long bits(double d) {
        return Double.doubleToLongBits(d);
    }

    private static int bits(float f) {
        return Float.floatToIntBits(f);
    }

    // ---- 4

    /** "in the order of NAMES (as words stand in a book)": a word ahead of those that it begins. */
    private static void namesInOrder() {
        String[] names = {"zzz", "b", "aaa", "z", "ab", "a", "zz", "aa", "aab", "az", "ba", "aza"};
        String[] order = {"a", "aa", "aaa", "aab", "ab", "az", "aza", "b", "ba", "z", "zz", "zzz"};
        FareLimits x = new FareLimits();
        for (int i = 0; i < 12; i++) {
            Due.is("book " + names[i], Calls.book(x, names[i] + "=0:" + (i + 1)), 1);
            Due.is("routes", x.told(5), i + 1);
        }
        for (int i = 0; i < 12; i++) {
            StringBuilder name = new StringBuilder();
            for (int k = 0; k < 3 && x.route(i, 10 + k) > 0; k++) {
                name.append((char) x.route(i, 10 + k));
            }
            Due.same("route " + i, name.toString(), order[i]);
            Due.is("letters of " + order[i], x.route(i, 4), order[i].length());
            Due.is("no letter behind them", x.route(i, 10 + order[i].length()), -1);
            Due.same("its own price", names[x.route(i, 1) - 1], order[i]);
        }
        Due.is("no thirteenth", x.route(12, 0), -1);
        Calls.feed(x, "zzz");
        Due.is("the last one ends", x.ends(), 11);
        Due.is("no twelfth", x.route(11, 0), -1);
        Calls.feed(x, "a");
        Due.is("the first one ends", x.ends(), 10);
        Due.is("the next one is the first", x.route(0, 4), 2);
        Due.is("no eleventh", x.route(10, 0), -1);
    }

    /** "PRICE as a float, times LENGTH as a float, over LENGTHS of its LEGS together as a float" */
    private static void parts() {
        FareLimits x = new FareLimits();
        Calls.book(x, "a=0123:9999;b=0:9999;c=3:1;d=12:7919");
        int[] lengths = {9999, 9973, 9998, 1};
        for (int leg = 0; leg < 4; leg++) {
            x.leg(leg, 0, lengths[leg]);
        }
        float all = 9999 + 9973 + 9998 + 1;
        for (int leg = 0; leg < 4; leg++) {
            Due.is("a over " + leg, x.part(0, leg), bits(9999f * (float) lengths[leg] / all));
            Due.is("b over " + leg, x.part(1, leg), leg == 0 ? bits(9999f * 9999f / 9999f) : 0);
            Due.is("c over " + leg, x.part(2, leg), leg == 3 ? bits(1f) : 0);
        }
        float product = 7919f * 9973f;
        Due.holds("the product is not told by a float", (double) product != 7919.0 * 9973.0);
        Due.is("d over 1", x.part(3, 1), bits(product / 19971f));
        Due.is("d over 2", x.part(3, 2), bits(7919f * 9998f / 19971f));
    }

    /** "PART of the first ROUTE with which they are above FREE; 0.0f, if there is none" */
    private static void costs() {
        FareLimits x = new FareLimits();
        for (int leg = 0; leg < 4; leg++) {
            Due.is("no routes", x.cost(leg), 0);
        }
        Calls.book(x, "a=0:50*0;b=0:40*1");
        x.leg(0, 1, 0);
        Due.is("0 wanted isn't above 0 free", x.cost(0), bits(40f));
        x.leg(0, 1, 1);
        Due.is("1 wanted isn't above 1", x.cost(0), 0);
        Due.is("no route over it, 0 free", x.leg(3, 1, 0), 10);
        Due.is("no route over it, 0 free", x.cost(3), 0);
        FareLimits y = new FareLimits();
        Due.is("two", Calls.book(y, "a=1:9*99;b=1:8*1"), 2);
        y.leg(1, 1, 99);
        Due.is("99 isn't above 99, 100 is", y.cost(1), bits(8f));
        y.leg(1, 1, 98);
        Due.is("99 is above 98", y.cost(1), bits(9f));
        FareLimits z = new FareLimits();
        for (int i = 0; i < 12; i++) {
            Due.is("book", Calls.book(z, (char) ('a' + i) + "=2:" + (100 + i) + "*8"), 1);
        }
        z.leg(2, 1, 95);
        Due.is("the last of twelve", z.cost(2), bits(100f));
        z.leg(2, 1, 96);
        Due.is("96 by twelve isn't above 96", z.cost(2), 0);
        z.leg(2, 1, 7);
        Due.is("the first of twelve", z.cost(2), bits(111f));
        z.leg(2, 1, 8);
        Due.is("the second of twelve", z.cost(2), bits(110f));
        FareLimits parts = new FareLimits();
        Calls.book(parts, "a=01:100*5;b=0:60*5");
        parts.leg(0, 1, 4);
        Due.is("by parts, not by prices", parts.cost(0), bits(60f));
        parts.leg(0, 0, 200);
        Due.is("by parts, as legs are then", parts.cost(0), bits(100f * 200f / 300f));
    }

    /** "LET IN, if its PRICE as a double isn't below COSTS of its LEGS as doubles" */
    private static void letIn() {
        FareLimits x = new FareLimits();
        Calls.book(x, "a=0:50*99;b=1:49*99;c=01:98;d=01:99;e=01:100;f=23:1;g=3:9999*99;h=23:9998;i=23:9999");
        int[] want = {1, 1, 0, 1, 1, 0, 1, 0, 1};
        for (int i = 0; i < want.length; i++) {
            Due.is("let in " + i, x.route(i, 3), want[i]);
        }
        FareLimits y = new FareLimits();
        Calls.book(y, "a=012:49*99;b=012:48;c=012:49;d=012:50");
        Due.holds("a third as a float, three times, is above the whole", 3.0 * (double) (4900f / 300f) > 49.0);
        for (int i = 0; i < 4; i++) {
            Due.is("let in over three legs " + i, y.route(i, 3), i == 3 ? 1 : 0);
        }
    }

    // ---- 5

    private static void tapeAndPaper() {
        FareLimits x = new FareLimits();
        for (int i = 1; i <= 119; i++) {
            x.feed('a' + i % 3);
        }
        Due.is("the last one", x.feed(1), 120);
        Due.is("one too many", x.feed(1), -4);
        Due.is("one too many again", x.feed(127), -4);
        Due.is("told", x.told(6), 120);
        Due.is("a fault with the fourth letter", x.book(), -103);
        Due.is("empty", x.clear(), 0);
        Due.is("no paper", x.told(7), 0);
        Due.is("no byte", x.paper(0), -1);
        Due.is("spell nothing", x.spell(), 0);
        Due.is("no byte still", x.paper(0), -1);
        for (int i = 0; i < 12; i++) {
            Calls.book(x, "zz" + (char) ('z' - i) + "=0123:9999*99");
        }
        Due.is("the longest paper", x.spell(), 12 * 16 + 11);
        Due.is("its last byte", x.paper(202), '9');
        Due.is("none behind it", x.paper(203), -1);
        Due.is("told", x.told(7), 203);
        FareLimits wanted = new FareLimits();
        Due.is("two", Calls.book(wanted, "a=0:0001*01;b=0:10*10"), 2);
        Due.is("* told if wanted isn't 0, as short as can be", wanted.spell(), "a=0:1*1;b=0:10*10".length());
        for (int i = 0; i < 17; i++) {
            Due.is("byte " + i, wanted.paper(i), "a=0:1*1;b=0:10*10".charAt(i));
        }
        FareLimits y = new FareLimits();
        Calls.book(y, "a=0:1");
        Due.is("no paper before it is spelled", y.told(7), 0);
        Due.is("spell", y.spell(), 5);
        Calls.feed(y, "a");
        Due.is("it ends", y.ends(), 0);
        Due.is("the paper is the latest one still", y.paper(4), '1');
        Due.is("spell no routes", y.spell(), 0);
        Due.is("nothing then", y.paper(0), -1);
        Due.is("told", y.told(7), 0);
    }

    /** "8 unlike PRICES of FARES, 9 the greatest of them (0: no FARES)", as fares come and go. */
    private static void pricesTold() {
        FareLimits x = new FareLimits();
        int[] prices = {7, 7, 9999, 1, 7, 1};
        int[] unlike = {0, 1, 1, 2, 3, 3, 3};
        int[] greatest = {0, 7, 7, 9999, 9999, 9999, 9999};
        for (int i = 0; i <= 6; i++) {
            Due.is("unlike prices of " + i, x.told(8), unlike[i]);
            Due.is("the greatest of " + i, x.told(9), greatest[i]);
            if (i < 6) {
                x.fare(i % 4, prices[i]);
            }
        }
        for (int i = 5; i >= 0; i--) {
            Due.is("drop", x.drop(), i);
            Due.is("unlike prices of " + i + " again", x.told(8), unlike[i]);
            Due.is("the greatest of " + i + " again", x.told(9), greatest[i]);
        }
    }

    /** "with the SEATS that are left then"; "the first comes with as many STAGES to go as there are signs" */
    private static void replayed() {
        FareLimits x = Sample.with(2, 300, 100, 100, 100, 100);
        Sample.more(x, 2, 1);
        x.rule(0, 3);
        String[] texts = {"b", "bb", "bbb", "bbbb", "bbbbb", "-b", "b-", "b---", "b--", "-b---", "--b---"};
        int[] had = {1, 3, 7, 14, 28, 2, 1, 0, 1, 0, 0};
        for (int i = 0; i < texts.length; i++) {
            Due.is("replayed " + texts[i], Calls.replay(x, texts[i], 3), had[i]);
        }
        x.rule(0, 30);
        Due.is("twenty signs", Calls.replay(x, "bbbbbbbbbbbbbbbbbbbb", 3), (1 << 20) - 1);
        Due.is("twenty signs", Calls.replay(x, "aaaaaaaaaaaaaaaaaaaa", 2), 10);
        Due.is("twenty signs", Calls.replay(x, "aaaaaaaaaaaaaaaaaaaa", 0), 6000);
        Due.is("twenty signs", Calls.replay(x, "aaaaaaaaaaaaaaaaaaaa", 1), 20);
        Due.is("nobody asks", Calls.replay(x, "--------------------", 3), 0);
        Due.is("nobody asks", Calls.replay(x, "-", 2), 30);
        x.rule(0, 1);
        Due.is("the last sign alone", Calls.replay(x, "bbbbbbbbbbbbbbbbbbbb", 3), 1 << 19);
        Due.is("none is left", Calls.replay(x, "aa", 2), 0);
        x.rule(0, 0);
        for (int what = 0; what <= 4; what++) {
            Due.is("without seats " + what, Calls.replay(x, "ab", what), 0);
        }
    }

    /** "PRICES of as many of the letters as there are SEATS, the greatest PRICES first, together" */
    private static void behind() {
        FareLimits x = Sample.with(0, 5);
        Sample.more(x, 0, 70);
        Sample.more(x, 0, 600);
        int[] want = {0, 600, 1200, 1270, 1275, 1280, 1280};
        for (int seats = 0; seats < want.length; seats++) {
            x.rule(0, seats);
            Due.is("behind with " + seats, Calls.replay(x, "ac-b-ca", 4), want[seats]);
            Due.is("nobody asked", Calls.replay(x, "--", 4), 0);
        }
        x.rule(0, 30);
        Due.is("fewer letters than seats", Calls.replay(x, "cccccccccccccccccccc", 4), 12000);
        x.rule(0, 19);
        Due.is("one more than seats", Calls.replay(x, "cccccccccacccccccccc", 4), 11400);
    }

    private static void trays() {
        FareLimits x = Sample.with(0, 5);
        x.fare(0, 5);
        for (int tray = 0; tray < 4; tray++) {
            Due.is("missing", x.laid(tray, 0), -11);
            Due.is("missing", x.laid(tray, -1), -11);
            Due.is("missing", x.lays(tray, 0, 0), -11);
            Due.is("missing", x.like(3 - tray, tray), -11);
        }
        Due.is("of 20", x.tray(3, 0, 20), 1);
        for (int i = 0; i < 20; i++) {
            Due.is("empty " + i, x.laid(3, i), -5);
            Due.is("lays " + i, x.lays(3, i, 1), 1);
            Due.is("laid " + i, x.laid(3, i), 1);
        }
        Due.is("no place 20", x.laid(3, 20), -12);
        Due.is("no place 20", x.lays(3, 20, 0), -12);
        Due.is("like it", x.like(0, 3), 20);
        Due.is("its last place", x.laid(0, 19), 1);
        Due.is("nothing at its last place", x.lays(0, 19, -1), 1);
        Due.is("empty", x.laid(0, 19), -5);
        Due.is("the other one's stays", x.laid(3, 19), 1);
        Due.is("smaller", x.tray(3, 0, 19), 1);
        Due.is("place 18", x.laid(3, 18), -5);
        Due.is("no place 19", x.laid(3, 19), -12);
        Due.is("of none", x.tray(3, 0, 0), 1);
        Due.is("it isn't missing", x.laid(3, 0), -12);
        Due.is("like one of none", x.like(0, 3), 0);
        Due.is("no place 0", x.laid(0, 0), -12);
        Due.is("too small, and it stays", x.tray(3, 0, -1), -14);
        Due.is("too large, and it stays", x.tray(3, 0, 21), -2);
        Due.is("as it was", x.laid(3, 0), -12);
        Due.is("a missing one stays missing", x.tray(1, 0, 21), -2);
        Due.is("missing", x.laid(1, 0), -11);
    }

    /** "with a FARE of that KIND, or of one under it"; "what was laid tells its number still" */
    private static void kindsOfTrays() {
        FareLimits x = new FareLimits();
        for (int kind = 0; kind < 4; kind++) {
            x.fare(kind, 5);
            x.tray(kind, kind, 2);
        }
        String[] may = {"0123", "1", "23", "3"};
        for (int tray = 0; tray < 4; tray++) {
            for (int fare = 0; fare < 4; fare++) {
                boolean is = may[tray].indexOf('0' + fare) >= 0;
                long was = x.laid(tray, 1);
                Due.is("kind " + fare + " on " + tray, x.lays(tray, 1, fare), is ? 1 : -16);
                Due.is("laid then", x.laid(tray, 1), is ? fare : was);
            }
        }
        Due.is("like the one for groups", x.like(0, 3), 2);
        Due.is("it is for groups then", x.lays(0, 0, 2), -16);
        Due.is("a group may", x.lays(0, 0, 3), 1);
        Due.is("the group's fare goes", x.drop(), 3);
        Due.is("its number still", x.laid(0, 0), 3);
        Due.is("it can't be laid", x.lays(0, 1, 3), -1);
        Due.is("another one comes", x.fare(1, 5), 3);
        Due.is("its number still", x.laid(0, 0), 3);
        Due.is("and is of another kind", x.lays(0, 0, 3), -16);
        Due.is("nothing may be laid there", x.lays(0, 0, -1), 1);
        Due.is("empty", x.laid(0, 0), -5);
    }

    private static void lists() {
        FareLimits x = new FareLimits();
        for (int list = 0; list < 4; list++) {
            Due.is("nothing", x.get(list, 0), NO);
            Due.is("nothing", x.set(list, 0, 5), -11);
            Due.is("nothing", x.judge(0, list, 0), -11);
        }
        Due.is("of 31", x.list(3, 31), 1);
        long[] longs = {NO, Long.MAX_VALUE, -1, 0, 1L << 32, (1L << 32) - 1, HIGH, LOW, -5, -11};
        for (long v : longs) {
            Due.is("set " + v, x.set(3, 30, v), 1);
            Due.is("get " + v, x.get(3, 30), v);
        }
        Due.is("its neighbour is 0", x.get(3, 29), 0);
        Due.is("no place 31", x.set(3, 31, 5), -12);
        Due.is("no place 31", x.get(3, 31), NO);
        Due.is("anew", x.list(3, 31), 1);
        for (int i = 0; i < 31; i++) {
            Due.is("all 0", x.get(3, i), 0);
        }
        Due.is("of none", x.list(3, 0), 1);
        Due.is("no place 0", x.set(3, 0, 5), -12);
        Due.is("no place 0", x.get(3, 0), NO);
        Due.is("judged, of none", x.judge(5, 3, 0), 100);
        Due.is("judged, above its size", x.judge(5, 3, 1), -12);
        Due.is("of 1", x.list(3, 1), 1);
        Due.is("0 in it", x.get(3, 0), 0);
        Due.is("no place 1", x.get(3, 1), NO);
        Due.is("too small", x.list(3, -1), -14);
        Due.is("too large", x.list(3, 32), -2);
        Due.is("it stays", x.get(3, 0), 0);
        Due.is("nothing still", x.list(2, 32), -2);
        Due.is("nothing still", x.set(2, 0, 5), -11);
    }

    /** "-5: none up to SEATS; 100 and how many were looked at, if the row ends ahead of that" */
    private static void judged() {
        FareLimits x = Sample.with(2, 100, 10, 10);
        x.rule(0, 30);
        x.list(0, 31);
        for (int s = 0; s <= 30; s++) {
            x.set(0, s, x.worth(7, s));
        }
        Due.is("all of 0 .. 30", x.judge(7, 0, 0), -5);
        Due.is("with 6 to go", x.judge(6, 0, 0), 1);
        Due.is("with 0 to go", x.judge(0, 0, 0), 1);
        Due.is("from 30", x.judge(7, 0, 30), 0);
        Due.is("from its size", x.judge(7, 0, 31), 100);
        Due.is("above its size", x.judge(7, 0, 32), -12);
        Due.is("below 0", x.judge(7, 0, -1), -12);
        Due.is("far above", x.judge(7, 0, HIGH), -12);
        Due.is("far below", x.judge(7, 0, LOW), -12);
        x.set(0, 30, x.get(0, 30) + 1);
        Due.is("the last one", x.judge(7, 0, 0), 30);
        x.set(0, 0, 1);
        Due.is("the first one", x.judge(7, 0, 0), 0);
        x.set(0, 0, NO);
        Due.is("-0.0 is not 0.0", x.judge(7, 0, 0), 0);
        x.set(0, 0, 0);
        x.rule(0, 29);
        Due.is("up to 29", x.judge(7, 0, 0), -5);
        x.rule(0, 0);
        Due.is("up to 0", x.judge(7, 0, 0), -5);
        Due.is("up to 0", x.judge(7, 0, 1), 0);
        Due.is("up to 0, the row ends", x.judge(7, 0, 31), 100);
        x.rule(0, 30);
        x.list(0, 31);
        for (int s = 0; s < 30; s++) {
            x.set(0, 1 + s, x.worth(7, s));
        }
        Due.is("one too short", x.judge(7, 0, 1), 130);
        x.set(0, 30, 5);
        Due.is("unlike, where it ends", x.judge(7, 0, 1), 29);
        x.rule(0, 29);
        x.set(0, 30, x.worth(7, 29));
        Due.is("just long enough", x.judge(7, 0, 1), -5);
    }

    // ---- 6

    private static void demandAndSpill() {
        FareLimits x = Sample.with(0, 9, 13, 0, 100, 1);
        double[] row = {1.0};
        for (int t = 0; t <= 20; t++) {
            if (t > 0) {
                double o = new int[] {13, 0, 100, 1}[(t - 1) / 5] / 100.0;
                double[] next = new double[t + 1];
                for (int k = 0; k <= t; k++) {
                    double stays = k < t ? row[k] * (1.0 - o) : 0.0;
                    double comes = k > 0 ? row[k - 1] * o : 0.0;
                    next[k] = k == 0 ? stays : k == t ? comes : stays + comes;
                }
                row = next;
            }
            for (int k : new int[] {0, 1, t - 1, t, t + 1, 20}) {
                long want = k < 0 || k > 20 ? NO : k > t ? 0 : bits(row[k]);
                Due.is("demand " + t + " " + k, x.demand(0, t, k), want);
            }
            for (int n : new int[] {0, 1, t - 1, t, t + 1, 30, 31}) {
                double spill = 0.0;
                for (int k = n + 1; k <= t && n >= 0; k++) {
                    spill = spill + (double) (k - n) * row[k];
                }
                Due.is("spill " + t + " " + n, x.spill(0, t, n), n < 0 || n > 30 ? NO : bits(spill));
            }
        }
    }

    /** "of those that were had so far fewer than HAND have a PRICE that isn't above its own" */
    private static void byHand() {
        FareLimits x = Sample.with(0, 100);
        Sample.more(x, 0, 99);
        Sample.more(x, 0, 101);
        Sample.more(x, 0, 100);
        Due.is("30 at first", x.told(30), 30);
        x.rule(0, 30);
        Due.is("twenty by 30", Calls.byHand(x, "aaaaaaaaaaaaaaaaaaaa", 3), (1 << 20) - 1);
        x.hand(0, 20);
        Due.is("twenty by 20", Calls.byHand(x, "aaaaaaaaaaaaaaaaaaaa", 1), 20);
        x.hand(0, 19);
        Due.is("twenty by 19", Calls.byHand(x, "aaaaaaaaaaaaaaaaaaaa", 1), 19);
        x.hand(0, 1);
        Due.is("its own price counts", Calls.byHand(x, "aa", 3), 1);
        Due.is("a lower one counts", Calls.byHand(x, "ba", 3), 1);
        Due.is("a higher one doesn't", Calls.byHand(x, "cca", 3), 7);
        Due.is("the same one by another fare does", Calls.byHand(x, "da", 3), 1);
        Due.is("what wasn't had doesn't count", Calls.byHand(x, "-aaca", 3), 2 | 8);
        x.hand(0, 0);
        Due.is("a hand of 0", Calls.byHand(x, "a", 1), 0);
        Due.is("a hand of 0 binds its own alone", Calls.byHand(x, "abcd", 3), 14);
        x.rule(0, 2);
        Due.is("if a seat is left", Calls.byHand(x, "bcd", 3), 3);
        Due.is("prices", Calls.byHand(x, "bcd", 0), 200);
        Due.is("left", Calls.byHand(x, "bcd", 2), 0);
        x.rule(0, 0);
        Due.is("no seat", Calls.byHand(x, "bcd", 3), 0);
        Due.is("no seat left", Calls.byHand(x, "bcd", 2), 0);
    }

    /** "it times 1103515245, plus 12345 (an int, wrapping); its upper 16 bits (no sign) modulo 100 is d" */
    private static void seedWraps() {
        int[][] seeds = {{1, 1103527590}, {0, 12345}, {-1, -1103502900}, {HIGH, 1043980748}, {LOW, -2147471303},
            {12345, -740551042}};
        for (int[] seed : seeds) {
            FareLimits x = new FareLimits();
            x.seed(seed[0]);
            Due.is("a day of one stage", x.drawn(1, 1, 0, 1), 0);
            Due.is("the seed behind " + seed[0], x.seed(5), seed[1]);
        }
        int[][] days = {{1438, 0}, {54, 0}, {32, 37}, {179, 37}, {1, 38}, {537, 38}, {1080, 99}, {116, 99}};
        for (int[] day : days) {
            for (int odds : new int[] {day[1], day[1] + 1}) {
                FareLimits x = Sample.with(0, 10, odds);
                x.seed(day[0]);
                Due.is("d " + day[1] + " of " + day[0] + " by odds of " + odds, x.drawn(1, 1, 0, 1),
                    odds > day[1] ? 1 : 0);
            }
            FareLimits y = Sample.with(0, 10, day[1]);
            Sample.more(y, 0, 200, 100 - day[1]);
            y.seed(day[0]);
            Due.is("the second fare by " + day[0], y.drawn(1, 1, 0, 0), 200);
        }
        FareLimits z = new FareLimits();
        for (int v : new int[] {HIGH, LOW, 0, -1, 65536, 1}) {
            int was = z.seed(v);
            Due.is("become what it was", z.seed(was), v);
            z.seed(v);
        }
        Due.is("the last one", z.seed(1), 1);
    }

    private static void daysDrawn() {
        FareLimits x = Sample.with(2, 10, 100, 100, 100, 100);
        x.rule(0, 20);
        Due.is("the most of all", x.drawn(20, 20, 0, 1), 400);
        Due.is("the most of all, had", x.drawn(20, 20, 1, 2), 400);
        Due.is("the most of all, prices", x.drawn(20, 20, 1, 0), 4000);
        Due.is("all sold on each day", x.drawn(20, 20, 1, 3), 20);
        Due.is("the least of all", x.drawn(1, 1, 0, 1), 1);
        x.rule(0, 21);
        Due.is("a seat is left on each day", x.drawn(20, 20, 1, 3), 0);
        x.hand(0, 1);
        Due.is("by hand, one a day", x.drawn(20, 20, 1, 2), 20);
        Due.is("replayed, hands don't count", x.drawn(20, 20, 0, 2), 400);
        x.seed(9);
        x.drawn(4, 5, 0, 0);
        int four = x.seed(9);
        for (int i = 0; i < 4; i++) {
            x.drawn(1, 5, 1, 3);
        }
        Due.is("days one behind the other", x.seed(9), four);
        x.drawn(20, 1, 0, 0);
        Due.is("as many steps as stages", x.seed(9), four);
        FareLimits y = Sample.with(0, 10, 37);
        Sample.more(y, 0, 1000, 30, 80);
        int asked = 0;
        y.seed(4);
        for (int i = 0; i < 5; i++) {
            asked += y.drawn(1, 8, 0, 1);
        }
        y.seed(4);
        Due.is("five days together", y.drawn(5, 8, 0, 1), asked);
        Due.is("nobody asks without fares", new FareLimits().drawn(20, 20, 0, 1), 0);
        FareLimits six = new FareLimits();
        for (int i = 0; i < 6; i++) {
            Sample.more(six, 0, 10);
        }
        Due.is("nobody asks for six without odds", six.drawn(20, 20, 0, 1), 0);
        for (int phase : ALL_PHASES) {
            six.odds(5, phase, 100);
        }
        Due.is("all ask for the sixth", six.drawn(20, 20, 0, 1), 400);
        six.drop();
        Due.is("nobody asks for what is gone", six.drawn(20, 20, 0, 1), 0);
    }

    /** "With SEATS 0 all DAYS count as days without a SEAT left." */
    private static void withoutSeats() {
        for (int fares = 0; fares < 2; fares++) {
            FareLimits x = fares == 0 ? new FareLimits() : Sample.with(0, 10, 50);
            x.rule(0, 0);
            for (int how = 0; how < 2; how++) {
                for (int days : new int[] {1, 7, 20}) {
                    Due.is("days without a seat", x.drawn(days, 3, how, 3), days);
                    Due.is("none is had", x.drawn(days, 3, how, 2), 0);
                    Due.is("no price", x.drawn(days, 3, how, 0), 0);
                }
            }
            x.rule(0, 1);
            Due.is("with a seat, nobody asks", new FareLimits().drawn(20, 20, 0, 3), 0);
        }
    }

    /** What the image takes and what stays, and that it is taken once for many an undo. */
    private static void image() {
        FareLimits x = new FareLimits();
        Due.is("none", x.undo(), -3);
        Due.is("of nothing", x.image(), 0);
        for (int i = 0; i < 6; i++) {
            x.fare(i % 4, 10 + i);
        }
        x.odds(5, 3, 100);
        x.hand(5, 0);
        x.rule(0, 30);
        x.rule(1, 50);
        x.rule(2, 49);
        x.rule(3, 9999);
        x.leg(3, 0, 9999);
        x.leg(0, 1, 99);
        x.seed(LOW);
        String twelve = "a=0:1;b=0:1;c=0:1;d=0:1;e=0:1;f=0:1;g=0:1;h=0:1;i=0:1;j=0:1;k=0:1;l=0:1";
        Due.is("twelve routes", Calls.book(x, twelve), 12);
        x.spell();
        Calls.feed(x, "a");
        x.tray(0, 3, 1);
        x.list(0, 1);
        Due.is("undo to nothing", x.undo(), 0);
        int[] first = {0, 10, 0, 0, 500, 0, 1, 71, 0, 0, 100, 100, 100, 100};
        for (int i = 0; i < first.length; i++) {
            Due.is("told " + i, x.told(i), first[i]);
        }
        Due.is("free", x.told(20), 10);
        Due.is("seed", x.seed(7), 1);
        Due.is("the tray stays", x.laid(0, 0), -5);
        Due.is("the list stays", x.get(0, 0), 0);
        Due.is("the tape stays", x.clear(), 1);
        Due.is("no route", x.route(0, 0), -1);
        Due.is("no fare", x.of(0, 0), -1);
        Due.is("no worth", x.worth(20, 10), 0);
        Due.is("room for twelve", Calls.book(x, twelve), 12);
        Due.is("a fare comes anew", x.fare(2, 50), 0);
        Due.is("without odds", x.of(0, 5), 0);
        Due.is("undo again", x.undo(), 0);
        Due.is("as the image", x.told(5), 0);
        Due.is("seed again", x.seed(7), 1);
        for (int i = 0; i < 6; i++) {
            x.fare(1, 20 + i);
        }
        Due.is("of six", x.image(), 6);
        for (int i = 5; i >= 0; i--) {
            Due.is("drop", x.drop(), i);
        }
        x.seed(3);
        Due.is("undo to six", x.undo(), 6);
        Due.is("full", x.fare(0, 1), -4);
        Due.is("the last of them", x.of(5, 1), 25);
        Due.is("seed", x.seed(7), 7);
        Due.is("undo without a change", x.undo(), 6);
        Due.is("undo is no change of the image", x.undo(), 6);
        imageOfSix();
    }

    /** Whatever becomes of all that the image took, and again behind undo. */
    private static void imageOfSix() {
        FareLimits x = new FareLimits();
        for (int i = 0; i < 6; i++) {
            Sample.more(x, i % 4, 100 + i, 10 + i, i, 2 * i, 16);
            x.hand(i, i);
        }
        for (int leg = 0; leg < 4; leg++) {
            x.leg(leg, 0, 200 + leg);
            x.leg(leg, 1, 50 + leg);
        }
        Calls.book(x, "a=0:1;b=1:2*3;c=23:4");
        Due.is("image", x.image(), 6);
        for (int again = 0; again < 2; again++) {
            for (int i = 0; i < 6; i++) {
                x.drop();
            }
            for (int i = 0; i < 6; i++) {
                Sample.more(x, 3 - i % 4, 900 + i, 1, 2, 3, 4);
                x.hand(i, 30 - i);
            }
            for (int leg = 0; leg < 4; leg++) {
                x.leg(leg, 0, 1);
                x.leg(leg, 1, 0);
            }
            Calls.feed(x, "b");
            x.ends();
            Calls.book(x, "aa=0:5;d=0:6");
            Due.is("undo", x.undo(), 6);
            for (int i = 0; i < 6; i++) {
                int[] want = {i % 4, 100 + i, 10 + i, i, 2 * i, 16};
                for (int what = 0; what < 6; what++) {
                    Due.is("of " + i + " " + what, x.of(i, what), want[what]);
                }
                Due.is("hand " + i, x.told(30 + i), i);
            }
            for (int leg = 0; leg < 4; leg++) {
                Due.is("length " + leg, x.told(10 + leg), 200 + leg);
                Due.is("free " + leg, x.told(20 + leg), 50 + leg);
            }
            Due.is("routes", x.told(5), 3);
            int[][] routes = {{1, 1, 0}, {2, 2, 3}, {12, 4, 0}};
            for (int i = 0; i < 3; i++) {
                for (int what = 0; what < 3; what++) {
                    Due.is("route " + i + " " + what, x.route(i, what), routes[i][what]);
                }
                Due.is("name " + i, x.route(i, 10), 'a' + i);
            }
        }
    }

    /** "An object is used for at most 512 calls": the last of them answers as the first. */
    private static void lastCall() {
        FareLimits x = Sample.with(0, 10, 50);
        for (int i = 2; i < Calls.MOST - 1; i++) {
            x.drawn(20, 20, i % 2, 0);
        }
        Due.is("the last call", x.worth(1, 1), bits(5.0));
    }
}
