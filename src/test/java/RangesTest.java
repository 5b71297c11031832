/**
 * Each number of each call: the first and the last one inside answer as they should, the first ones outside
 * on either side, and the wildest, are refused as told and change nothing.
 */
public final class RangesTest {
    private static final long NO = Long.MIN_VALUE;
    private static final long LOW = Integer.MIN_VALUE;
    private static final long HIGH = Integer.MAX_VALUE;
    private static final int NONE = -1;
    private static final int BAD = -2;
    private static final int NO_PLACE = -12;
    private static final int BELOW_ZERO = -14;
    private static final int ALL_LOOKED_AT = 130;
    private static final String UNTOUCHED = Sample.all(Sample.filled(new FareLimits()));

    public static void main(String[] args) {
        Due.same("the same calls, the same answers", Sample.all(Sample.filled(new Reference())), UNTOUCHED);
        faresAndRules();
        worths();
        chances();
        legsAndRoutes();
        textsAndPaper();
        told();
        requestsAndDays();
        trays();
        lists();
        corners();
        Due.end("RangesTest");
    }

    private static long[] row(long... numbers) {
        return numbers;
    }

    /** The number at a place of a call, within least and most; what is outside answers the refusal. */
    private static void range(String name, long[] call, int place, long least, long most, long refusal) {
        range(name, call, place, row(least, most), row(refusal, refusal));
    }

    private static void range(String name, long[] call, int place, long[] ends, long[] refusals) {
        long step = ends[1] - ends[0] <= ALL_LOOKED_AT ? 1 : ends[1] - ends[0];
        for (long v = ends[0]; v <= ends[1]; v += step) {
            inside(name, with(call, place, v), refusals, v == ends[0] || v == ends[1]);
        }
        for (long v : row(ends[0] - 1, LOW, LOW + 1, -65536)) {
            outside(name, with(call, place, v), refusals[0]);
        }
        for (long v : row(ends[1] + 1, HIGH, HIGH - 1, ends[1] + 256, ends[1] + 65536, 1L << 30)) {
            outside(name, with(call, place, v), refusals[1]);
        }
    }

    private static long[] with(long[] call, int place, long v) {
        long[] numbers = call.clone();
        numbers[place] = v;
        return numbers;
    }

    private static void inside(String name, long[] call, long[] refusals, boolean isEnd) {
        FareLimits x = Sample.filled(new FareLimits());
        Reference due = Sample.filled(new Reference());
        String written = Calls.written(name, call);
        long got = Calls.ask(x, name, call);
        Due.is(written, got, Calls.ask(due, name, call));
        Due.holds(written + " is not refused", got != refusals[0] && got != refusals[1]);
        if (isEnd) {
            Due.same("all behind " + written, Sample.all(x), Sample.all(due));
        }
    }

    static void outside(String name, long[] call, long refusal) {
        FareLimits x = Sample.filled(new FareLimits());
        String written = Calls.written(name, call);
        Due.is(written, Calls.ask(x, name, call), refusal);
        Due.same(written + " changes nothing", Sample.all(x), UNTOUCHED);
    }

    // promises 2 to 6 and 35
    private static void faresAndRules() {
        range("fare", row(0, 5), 0, 0, 3, NONE);
        range("fare", row(0, 5), 1, 1, 9999, BAD);
        range("of", row(0, 1), 0, 0, Sample.FARES - 1, NONE);
        range("of", row(0, 1), 1, 0, 5, NONE);
        range("odds", row(0, 1, 3), 0, 0, Sample.FARES - 1, NONE);
        range("odds", row(0, 1, 3), 1, 0, 3, NONE);
        range("odds", row(1, 2, 3), 2, 0, 100 - 17 - 28, BAD);
        range("rule", row(0, 5), 0, 0, 3, NONE);
        range("rule", row(0, 5), 1, 0, 30, BAD);
        range("rule", row(1, 5), 1, 0, 50, BAD);
        range("rule", row(2, 5), 1, 0, 50, BAD);
        range("rule", row(3, 5), 1, 0, 9999, BAD);
        range("hand", row(0, 4), 0, 0, Sample.FARES - 1, NONE);
        range("hand", row(0, 4), 1, 0, 30, BAD);
    }

    // promises 7 to 15
    private static void worths() {
        range("shows", row(3), 0, 0, 20, NO);
        range("net", row(0, 3), 0, 0, Sample.FARES - 1, NO);
        range("net", row(0, 3), 1, 0, 20, NO);
        range("netCut", row(0, 3), 0, 0, Sample.FARES - 1, NONE);
        range("netCut", row(0, 3), 1, 0, 20, NONE);
        range("worth", row(3, 2), 0, 0, 20, NO);
        range("worth", row(3, 2), 1, 0, Sample.SEATS, NO);
        range("worthShort", row(3, 2), 0, 0, 20, NONE);
        range("worthShort", row(3, 2), 1, 0, Sample.SEATS, NONE);
        range("gross", row(3, 2), 0, 0, 20, NO);
        range("gross", row(3, 2), 1, 0, Sample.SEATS, NO);
        range("taken", row(0, 3, 2), 0, 0, Sample.FARES - 1, NONE);
        range("taken", row(0, 3, 2), 1, 1, 20, NONE);
        range("taken", row(0, 3, 2), 2, 1, Sample.SEATS, NONE);
        range("kept", row(0, 3), 0, 0, Sample.FARES - 1, NONE);
        range("kept", row(0, 3), 1, 1, 20, NONE);
        range("limit", row(0, 3), 0, 0, Sample.FARES - 1, NONE);
        range("limit", row(0, 3), 1, 1, 20, NONE);
    }

    // promises 16 to 20, 33 and 34
    private static void chances() {
        range("chance", row(3, 4, 2), 0, 0, 20, NO);
        range("chance", row(3, 4, 2), 1, 0, 40, NO);
        range("chance", row(3, 4, 2), 2, 0, 40, NO);
        range("turned", row(3, 9), 0, 0, 20, NO);
        range("turned", row(3, 9), 1, 0, 40, NO);
        range("had", row(0, 3, 9), 0, 0, Sample.FARES - 1, NO);
        range("had", row(0, 3, 9), 1, 0, 20, NO);
        range("had", row(0, 3, 9), 2, 0, 40, NO);
        range("booked", row(0, 3), 0, 0, Sample.FARES - 1, NONE);
        range("booked", row(0, 3), 1, 0, 20, NONE);
        range("ways", row(0, 0, 30), 0, 0, 40, NO);
        range("ways", row(5, 2, 30), 0, 2, 40, NO);
        range("ways", row(5, 2, 30), 1, 0, 5, NO);
        range("ways", row(40, 2, 99), 1, 0, 40, NO);
        range("ways", row(5, 2, 30), 2, 0, 100, NO);
        range("demand", row(0, 3, 2), 0, 0, Sample.FARES - 1, NO);
        range("demand", row(0, 3, 2), 1, 0, 20, NO);
        range("demand", row(0, 3, 2), 2, 0, 20, NO);
        range("spill", row(0, 3, 2), 0, 0, Sample.FARES - 1, NO);
        range("spill", row(0, 3, 2), 1, 0, 20, NO);
        range("spill", row(0, 3, 2), 2, 0, 30, NO);
    }

    // promises 21, 26 to 28
    private static void legsAndRoutes() {
        range("leg", row(1, 0, 5), 0, 0, 3, NONE);
        range("leg", row(1, 0, 5), 1, 0, 1, NONE);
        range("leg", row(1, 0, 5), 2, 1, 9999, BAD);
        range("leg", row(1, 1, 5), 2, 0, 99, BAD);
        range("route", row(0, 1), 0, 0, 1, NONE);
        range("route", row(0, 0), 1, 0, 4, NONE);
        range("route", row(0, 0), 1, 10, 11, NONE);
        range("route", row(1, 0), 1, 10, 10, NONE);
        range("part", row(0, 1), 0, 0, 1, NONE);
        range("part", row(0, 1), 1, 0, 3, NONE);
        range("cost", row(0), 0, 0, 3, NONE);
    }

    // promises 22 and 31
    private static void textsAndPaper() {
        range("feed", row(97), 0, 1, 127, BAD);
        range("paper", row(0), 0, 0, "ab=01:300*4;b=3:90".length() - 1, NONE);
    }

    // promise 32
    private static void told() {
        long[] ends = {0, 9, 10, 13, 20, 23, 30, 29 + Sample.FARES};
        for (int i = 0; i < ends.length; i += 2) {
            for (long what = ends[i]; what <= ends[i + 1]; what++) {
                inside("told", row(what), row(NONE, NONE), what == ends[i] || what == ends[i + 1]);
            }
        }
        long[] outside = {LOW, LOW + 1, -65536, -10, -2, -1, 14, 15, 18, 19, 24, 25, 28, 29, 30 + Sample.FARES, 34, 35,
            36, 37, 39, 40, 41, 50, 100, 256, 65536, HIGH - 1, HIGH};
        for (long what : outside) {
            outside("told", row(what), NONE);
        }
    }

    // promises 29, 36 and 37
    private static void requestsAndDays() {
        range("replay", row(0), 0, 0, 4, NONE);
        range("byHand", row(0), 0, 0, 3, NONE);
        range("drawn", row(2, 3, 0, 0), 0, 1, 20, BAD);
        range("drawn", row(2, 3, 0, 0), 1, 1, 20, BAD);
        range("drawn", row(2, 3, 0, 0), 2, 0, 1, NONE);
        range("drawn", row(2, 3, 0, 0), 3, 0, 3, NONE);
    }

    // promises 39 to 42
    private static void trays() {
        range("tray", row(0, 0, 2), 0, 0, 3, NONE);
        range("tray", row(0, 0, 2), 1, 0, 3, NONE);
        range("tray", row(0, 0, 2), 2, row(0, 20), row(BELOW_ZERO, BAD));
        range("lays", row(0, 0, 1), 0, 0, 3, NONE);
        range("lays", row(0, 0, 1), 1, 0, 1, NO_PLACE);
        range("lays", row(0, 1, 1), 2, -1, Sample.FARES - 1, NONE);
        range("lays", row(3, 0, 2), 1, 0, 2, NO_PLACE);
        range("laid", row(0, 1), 0, 0, 3, NONE);
        range("laid", row(0, 1), 1, 0, 1, NO_PLACE);
        range("laid", row(3, 1), 1, 0, 2, NO_PLACE);
        range("like", row(0, 3), 0, 0, 3, NONE);
        range("like", row(0, 3), 1, 0, 3, NONE);
    }

    // promises 43 to 46
    private static void lists() {
        range("list", row(0, 3), 0, 0, 3, NONE);
        range("list", row(0, 3), 1, row(0, 31), row(BELOW_ZERO, BAD));
        range("set", row(0, 1, 5), 0, 0, 3, NONE);
        range("set", row(0, 1, 5), 1, 0, 2, NO_PLACE);
        range("set", row(3, 1, 5), 1, 0, 3, NO_PLACE);
        range("get", row(0, 1), 1, 0, 2, NO);
        range("get", row(3, 1), 1, 0, 3, NO);
        for (long list : row(LOW, -65536, -1, 4, 5, 256, 65536, HIGH)) {
            outside("get", row(list, 1), NO);
        }
        range("judge", row(3, 0, 0), 0, 0, 20, NONE);
        range("judge", row(3, 0, 0), 1, 0, 3, NONE);
        range("judge", row(3, 0, 0), 2, 0, 3, NO_PLACE);
        range("judge", row(3, 3, 0), 2, 0, 4, NO_PLACE);
    }

    /** Each way to choose the least or the most of each number, on objects at their ends, high and low. */
    private static void corners() {
        Object[][] calls = {{"of", row(0, 5), row(0, 5)}, {"odds", row(0, 5), row(0, 3), row(0, 100)},
            {"rule", row(0, 3), row(0, 30)}, {"shows", row(0, 20)}, {"net", row(0, 5), row(0, 20)},
            {"netCut", row(0, 5), row(0, 20)}, {"worth", row(0, 20), row(0, 30)},
            {"worthShort", row(0, 20), row(0, 30)}, {"gross", row(0, 20), row(0, 30)},
            {"taken", row(0, 5), row(1, 20), row(1, 30)}, {"kept", row(0, 5), row(1, 20)},
            {"limit", row(0, 5), row(1, 20)}, {"chance", row(0, 20), row(0, 40), row(0, 40)},
            {"turned", row(0, 20), row(0, 40)}, {"had", row(0, 5), row(0, 20), row(0, 40)},
            {"booked", row(0, 5), row(0, 20)}, {"ways", row(0, 40), row(0, 40), row(0, 100)},
            {"leg", row(0, 3), row(0, 1), row(1, 99)}, {"leg", row(0, 3), row(0, 0), row(1, 9999)},
            {"leg", row(0, 3), row(1, 1), row(0, 99)}, {"route", row(0, 11), row(0, 4)},
            {"route", row(0, 11), row(10, 12)}, {"route", row(0, 11), row(1, 3)}, {"part", row(0, 11), row(0, 3)},
            {"cost", row(0, 3)}, {"paper", row(0, 202)}, {"paper", row(201, 203)}, {"told", row(0, 9)},
            {"told", row(10, 13)}, {"told", row(20, 23)}, {"told", row(30, 35)},
            {"demand", row(0, 5), row(0, 20), row(0, 20)}, {"spill", row(0, 5), row(0, 20), row(0, 30)},
            {"hand", row(0, 5), row(0, 30)}, {"drawn", row(1, 20), row(1, 20), row(0, 1), row(0, 3)},
            {"drawn", row(19, 20), row(19, 20), row(0, 1), row(1, 2)}, {"seed", row(LOW, HIGH)},
            {"lays", row(0, 3), row(0, 19), row(-1, 5)}, {"laid", row(0, 3), row(0, 19)},
            {"tray", row(0, 3), row(0, 3), row(0, 20)}, {"like", row(0, 3), row(0, 3)},
            {"list", row(0, 3), row(0, 31)}, {"set", row(0, 3), row(0, 30), row(NO, Long.MAX_VALUE)},
            {"get", row(0, 3), row(0, 30)}, {"judge", row(0, 20), row(0, 3), row(0, 31)},
            {"judge", row(0, 20), row(0, 3), row(30, 32)}};
        for (Object[] call : calls) {
            corners(call, true);
            corners(call, false);
        }
        for (String text : new String[] {"ffffffffffffffffffff", "--------------------", "abcdefabcdefabcdef-f"}) {
            requests(text, true);
            requests(text, false);
        }
    }

    private static void requests(String text, boolean isHigh) {
        FareLimits x = Sample.ofEnds(new FareLimits(), isHigh);
        Reference due = Sample.ofEnds(new Reference(), isHigh);
        for (int what = 0; what < 9; what++) {
            String name = what < 5 ? "replay" : "byHand";
            Calls.feed(x, text);
            Calls.feed(due, text);
            Due.is(name + what + " of " + text, Calls.ask(x, name, what % 5), Calls.ask(due, name, what % 5));
        }
    }

    private static void corners(Object[] call, boolean isHigh) {
        FareLimits x = Sample.ofEnds(new FareLimits(), isHigh);
        Reference due = Sample.ofEnds(new Reference(), isHigh);
        String name = (String) call[0];
        for (int way = 0; way < 1 << call.length - 1; way++) {
            long[] numbers = new long[call.length - 1];
            for (int i = 0; i < numbers.length; i++) {
                numbers[i] = ((long[]) call[i + 1])[way >> i & 1];
            }
            Due.is((isHigh ? "high: " : "low: ") + Calls.written(name, numbers), Calls.ask(x, name, numbers),
                Calls.ask(due, name, numbers));
        }
    }
}
