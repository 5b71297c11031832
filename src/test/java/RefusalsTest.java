/**
 * "The first that a call's words name. What is answered so changes nothing; what is asked changes nothing but
 * THE PAPER": of two refusals the one that is due, and all that there is, as it was.
 */
public final class RefusalsTest {
    private static final long NO = Long.MIN_VALUE;
    private static final String UNTOUCHED = Sample.all(Sample.filled(new FareLimits()));

    public static void main(String[] args) {
        firstOfTwo();
        firstOfTwoWhenFull();
        firstOfTwoOnTexts();
        notThere();
        asked();
        onlyThePaper();
        onlyTheTape();
        withoutNumbers();
        textsWithFaults();
        Due.end("RefusalsTest");
    }

    private static void refused(long want, String name, long... numbers) {
        FareLimits x = Sample.filled(new FareLimits());
        refused(x, UNTOUCHED, want, name, numbers);
    }

    private static void refused(FareLimits x, String untouched, long want, String name, long... numbers) {
        String written = Calls.written(name, numbers);
        Due.is(written, Calls.ask(x, name, numbers), want);
        Due.same(written + " changes nothing", Sample.all(x), untouched);
    }

    /** Each call has two wrong numbers or more. */
    private static void firstOfTwo() {
        refused(-1, "fare", 4, 0);
        refused(-1, "fare", -1, 10000);
        refused(-1, "of", 3, 6);
        refused(-1, "odds", 3, 0, 101);
        refused(-1, "odds", 0, 4, 101);
        refused(-1, "odds", 0, -1, -1);
        refused(-1, "odds", 3, 4, -1);
        refused(-1, "rule", 4, -1);
        refused(-1, "rule", -1, 10000);
        refused(NO, "net", 3, 21);
        refused(NO, "gross", 21, 1);
        refused(NO, "gross", 20, Sample.SEATS + 1);
        refused(NO, "gross", 11, -1);
        refused(NO, "ways", 41, 41, 100);
        refused(NO, "ways", 40, 41, 100);
        refused(NO, "ways", 40, -1, 0);
        refused(NO, "ways", 40, 20, 101);
        refused(NO, "ways", 40, 20, -1);
        refused(-1, "leg", 4, 0, 0);
        refused(-1, "leg", 0, 2, 0);
        refused(-1, "leg", 0, -1, 10000);
        refused(-1, "leg", -1, 1, 100);
        refused(-1, "hand", 3, 31);
        refused(-1, "hand", -1, -1);
        refused(-1, "drawn", 0, 1, 2, 0);
        refused(-1, "drawn", 1, 0, 0, 4);
        refused(-1, "drawn", 21, 21, -1, -1);
        refused(-1, "tray", 4, 0, 21);
        refused(-1, "tray", 0, 4, 21);
        refused(-1, "tray", -1, 0, -1);
        refused(-1, "tray", 0, -1, -1);
        refused(-1, "lays", 4, 9, 9);
        refused(-1, "lays", 1, 9, 3);
        refused(-1, "lays", 0, 2, 3);
        refused(-1, "lays", 3, 0, -2);
        refused(-11, "lays", 1, -1, 0);
        refused(-11, "lays", 2, 0, -1);
        refused(-12, "lays", 3, 3, 0);
        refused(-12, "lays", 3, -1, 0);
        refused(-12, "lays", 3, 3, -1);
        refused(-12, "lays", 0, 2, -1);
        refused(-12, "lays", 0, -1, -1);
        refused(-16, "lays", 3, 0, 0);
        refused(-1, "laid", 4, -1);
        refused(-11, "laid", 1, -1);
        refused(-11, "laid", 1, 20);
        refused(-1, "like", 4, 1);
        refused(-1, "like", -1, 2);
        refused(-1, "like", 1, 4);
        refused(-11, "like", 1, 2);
        refused(-11, "like", 1, 1);
        refused(-11, "like", 0, 1);
        refused(-1, "list", 4, 32);
        refused(-1, "list", -1, -1);
        refused(-1, "set", 4, -1, 0);
        refused(-11, "set", 1, -1, 0);
        refused(-11, "set", 1, 31, 0);
        refused(-1, "judge", 21, 1, -1);
        refused(-1, "judge", 0, 4, -1);
        refused(-1, "judge", -1, 0, 9);
        refused(-11, "judge", 0, 1, -1);
        refused(-11, "judge", 20, 2, 32);
    }

    private static FareLimits full() {
        FareLimits x = Sample.filled(new FareLimits());
        for (int i = Sample.FARES; i < 6; i++) {
            x.fare(0, 10 + i);
        }
        for (int i = "ab-".length(); i < 120; i++) {
            x.feed('!');
        }
        return x;
    }

    private static void firstOfTwoWhenFull() {
        String untouched = Sample.all(full());
        refused(full(), untouched, -4, "fare", 3, 9999);
        refused(full(), untouched, -1, "fare", 4, 5);
        refused(full(), untouched, -1, "fare", -1, 0);
        refused(full(), untouched, -2, "fare", 0, 0);
        refused(full(), untouched, -2, "fare", 0, 10000);
        refused(full(), untouched, -4, "feed", 1);
        refused(full(), untouched, -4, "feed", 127);
        refused(full(), untouched, -2, "feed", 0);
        refused(full(), untouched, -2, "feed", 128);
    }

    /** What a text is asked for is looked at ahead of the text, and the tape stays. */
    private static void firstOfTwoOnTexts() {
        for (String text : new String[] {"", "x", "aaaaaaaaaaaaaaaaaaaaa"}) {
            for (int what : new int[] {-1, 5}) {
                FareLimits x = Sample.filled(new FareLimits());
                Calls.tape(x, text);
                Due.is("replay of " + text, x.replay(what), -1);
                Due.is("byHand of " + text, x.byHand(what), -1);
                Due.is("byHand of " + text + ", what 4", x.byHand(4), -1);
                Due.is("the tape stays", x.told(6), text.length());
            }
        }
    }

    /** STATE, and numbers of what is gone. */
    private static void notThere() {
        FareLimits x = new FareLimits();
        Due.is("undo without an image", x.undo(), -3);
        Due.is("drop without fares", x.drop(), -3);
        Due.is("and there are none still", x.told(0), 0);
        Due.is("the first fare", x.fare(0, 9), 0);
        Due.is("undo without an image", x.undo(), -3);
        Due.is("the fare stays", x.told(0), 1);
        Due.is("drop", x.drop(), 0);
        Due.is("drop without fares", x.drop(), -3);
        long[][] calls = {{0, 0}, {0, 1}};
        for (long[] call : calls) {
            for (String name : new String[] {"of", "netCut", "kept", "limit", "booked", "hand"}) {
                Due.is(name + " of a fare that is gone", Calls.ask(x, name, call), -1);
            }
            Due.is("net of a fare that is gone", Calls.ask(x, "net", call), NO);
        }
        Due.is("odds of a fare that is gone", x.odds(0, 0, 1), -1);
        Due.is("taken of a fare that is gone", x.taken(0, 1, 1), -1);
        Due.is("had of a fare that is gone", x.had(0, 1, 1), NO);
        Due.is("demand of a fare that is gone", x.demand(0, 0, 0), NO);
        Due.is("spill of a fare that is gone", x.spill(0, 0, 0), NO);
        Due.is("hand of a fare that is gone", x.told(30), -1);
    }

    private static void asked() {
        long[][] numbers = {{0}, {1}, {0, 1}, {1, 0}, {2, 3}, {0, 2, 1}, {2, 5, 3}, {1, 0, 0}, {0, 3, 1}};
        String[] names = {"of", "shows", "net", "netCut", "worth", "worthShort", "gross", "taken", "kept", "limit",
            "chance", "turned", "had", "booked", "ways", "route", "part", "cost", "paper", "told", "demand", "spill",
            "laid", "get", "judge"};
        int looked = 0;
        for (String name : names) {
            for (long[] some : numbers) {
                if (some.length == Calls.named(name).getParameterCount()) {
                    looked++;
                    FareLimits x = Sample.filled(new FareLimits());
                    Calls.ask(x, name, some);
                    Due.same(Calls.written(name, some) + " changes nothing", Sample.all(x), UNTOUCHED);
                }
            }
        }
        Due.holds("all were asked", looked > 2 * names.length);
    }

    private static void onlyThePaper() {
        FareLimits x = Sample.filled(new FareLimits());
        Due.is("spell again", x.spell(), 18);
        Due.same("spelled again, the paper is the same", Sample.all(x), UNTOUCHED);
        FareLimits y = Sample.filled(new FareLimits());
        Reference due = Sample.filled(new Reference());
        for (Object each : new Object[] {y, due}) {
            Calls.ask(each, "clear");
            Calls.feed(each, "ab");
            Calls.ask(each, "ends");
            Calls.feed(each, "ab-");
        }
        Due.is("the paper is as it was", y.told(7), 18);
        Due.is("spell", y.spell(), due.spell());
        Due.is("the paper", y.told(7), "b=3:90".length());
        Due.is("its last byte", y.paper(5), '0');
        Due.is("no byte behind it", y.paper(6), -1);
        Due.same("nothing but the paper is unlike", Sample.all(y), Sample.all(due));
    }

    /** Each call that reads the tape empties it, and replay and byHand do nothing else. */
    private static void onlyTheTape() {
        FareLimits cleared = Sample.filled(new FareLimits());
        Due.is("clear", cleared.clear(), 3);
        String empty = Sample.all(cleared);
        for (int what = 0; what <= 4; what++) {
            FareLimits x = Sample.filled(new FareLimits());
            x.replay(what);
            Due.same("replay " + what + " changes but the tape", Sample.all(x), empty);
            FareLimits y = Sample.filled(new FareLimits());
            y.byHand(Math.min(what, 3));
            Due.same("byHand " + what + " changes but the tape", Sample.all(y), empty);
        }
        FareLimits x = Sample.filled(new FareLimits());
        x.clear();
        Due.is("nothing to clear", x.clear(), 0);
        Due.same("clear changes but the tape", Sample.all(x), empty);
    }

    /** What each call without numbers leaves behind, and each two of them, one behind the other. */
    private static void withoutNumbers() {
        String[] names = {"drop", "clear", "book", "ends", "spell", "image", "undo"};
        String[] texts = {"ab-", "ab", "c=0:5*1;d=123:6"};
        for (String text : texts) {
            for (String one : names) {
                for (String two : names) {
                    FareLimits x = Sample.filled(new FareLimits());
                    Reference due = Sample.filled(new Reference());
                    for (Object each : new Object[] {x, due}) {
                        Calls.ask(each, "clear");
                        Calls.feed(each, text);
                    }
                    String written = text + ": " + one + ", " + two;
                    Due.is(written, Calls.ask(x, one), Calls.ask(due, one));
                    Due.is(written + " then", Calls.ask(x, two), Calls.ask(due, two));
                    Due.same("all behind " + written, Sample.all(x), Sample.all(due));
                }
            }
        }
    }

    /** "A text with a FAULT does nothing", and THE TAPE is empty behind it. */
    private static void textsWithFaults() {
        FareLimits cleared = Sample.filled(new FareLimits());
        cleared.clear();
        String empty = Sample.all(cleared);
        String[] books = {"", "c", "c=0:1;", "c=0:1;b=0:1", "c=0:1;d=0:0", "c=0:1;c=1:1", "c=0:1;d=1:1*100"};
        for (String text : books) {
            FareLimits x = Sample.filled(new FareLimits());
            Calls.tape(x, text);
            Due.holds("a fault in " + text, x.book() <= -100);
            Due.same("book of " + text + " does nothing", Sample.all(x), empty);
        }
        for (String text : new String[] {"", "c!", "d", "aaaaaaaaaaaaaaaaaaaaa"}) {
            for (int how = 0; how < 2; how++) {
                FareLimits x = Sample.filled(new FareLimits());
                Calls.tape(x, text);
                Due.holds("a fault in " + text, (how == 0 ? x.replay(0) : x.byHand(0)) <= -100);
                Due.same("requests " + text + " do nothing", Sample.all(x), empty);
            }
        }
        for (String text : new String[] {"", "a", "abc", "B", "abcd", "b=", "ab-"}) {
            FareLimits x = Sample.filled(new FareLimits());
            Calls.tape(x, text);
            Due.is("no route " + text, x.ends(), -1);
            Due.same("ends of " + text + " does nothing", Sample.all(x), empty);
        }
    }
}
