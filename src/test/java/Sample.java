/** Objects to ask: one that holds some of everything, with all that can be asked of it, and ones with a few fares. */
final class Sample {
    static final int FARES = 3;
    static final int SEATS = 7;

    private Sample() {
    }

    /** Trays 1 and 2 and lists 1 and 2 are missing; the tape holds requests. */
    static <T> T filled(T x) {
        long[][] fares = {{1, 400}, {0, 250}, {2, 120}};
        for (long[] fare : fares) {
            Calls.ask(x, "fare", fare);
        }
        for (int phase = 0; phase < 4; phase++) {
            Calls.ask(x, "odds", 0, phase, 15 + phase);
            Calls.ask(x, "odds", 1, phase, 20 + phase);
            Calls.ask(x, "odds", 2, phase, 30 - phase);
        }
        long[][] rules = {{0, SEATS}, {1, 3}, {2, 5}, {3, 600}};
        for (long[] rule : rules) {
            Calls.ask(x, "rule", rule);
        }
        Calls.ask(x, "hand", 1, 3);
        Calls.ask(x, "leg", 0, 0, 250);
        Calls.ask(x, "leg", 1, 1, 3);
        Calls.feed(x, "b=3:90;ab=01:300*4");
        Calls.ask(x, "book");
        Calls.ask(x, "spell");
        Calls.ask(x, "tray", 0, 0, 2);
        Calls.ask(x, "lays", 0, 1, 1);
        Calls.ask(x, "tray", 3, 2, 3);
        Calls.ask(x, "lays", 3, 0, 2);
        Calls.ask(x, "list", 0, 3);
        Calls.ask(x, "set", 0, 1, 44);
        Calls.ask(x, "list", 3, 4);
        Calls.ask(x, "set", 3, 3, -5);
        Calls.ask(x, "seed", 77);
        Calls.ask(x, "image");
        Calls.ask(x, "seed", 78);
        Calls.ask(x, "rule", 3, 601);
        Calls.feed(x, "ab-");
        return x;
    }

    /** All numbers as high as they can be, or as low. */
    static <T> T ofEnds(T x, boolean isHigh) {
        for (int i = 0; i < 6; i++) {
            Calls.ask(x, "fare", isHigh ? 3 - i % 4 : i % 4, isHigh ? 9999 - i : 1 + i);
            Calls.ask(x, "hand", i, isHigh ? 30 : 0);
            for (int phase = 0; phase < 4; phase++) {
                Calls.ask(x, "odds", i, phase, isHigh ? i == 5 ? 50 : 10 : i == phase ? 1 : 0);
            }
        }
        long[] rules = isHigh ? new long[] {30, 50, 50, 9999} : new long[] {0, 0, 0, 0};
        for (int i = 0; i < 4; i++) {
            Calls.ask(x, "rule", i, rules[i]);
            Calls.ask(x, "leg", i, 0, isHigh ? 9999 - i : 1);
            Calls.ask(x, "leg", i, 1, isHigh ? 99 : 0);
            Calls.ask(x, "tray", i, isHigh ? 0 : 3, isHigh ? 20 : 0);
            Calls.ask(x, "list", i, isHigh ? 31 : 0);
        }
        for (int i = 0; i < 12; i++) {
            char c = (char) ('a' + i);
            Calls.feed(x, isHigh ? "zz" + c + "=0123:9999*" + (i < 9 ? 9 : 99) : c + "=" + i % 4 + ":1");
            Calls.ask(x, "book");
        }
        Calls.ask(x, "spell");
        Calls.ask(x, "seed", isHigh ? Integer.MAX_VALUE : Integer.MIN_VALUE);
        Calls.ask(x, "image");
        return x;
    }

    static FareLimits with(int kind, int price, int... odds) {
        FareLimits x = new FareLimits();
        more(x, kind, price, odds);
        return x;
    }

    /** A fare with its odds in the phases from 0 on. */
    static void more(FareLimits x, int kind, int price, int... odds) {
        int fare = x.fare(kind, price);
        for (int phase = 0; phase < odds.length; phase++) {
            Due.is("odds at first", x.odds(fare, phase, odds[phase]), 0);
        }
    }

    /** Uses the object up: the tape is read and the image comes back at the end. */
    static String all(Object x) {
        StringBuilder all = new StringBuilder();
        plan(x, all);
        for (long i = 0; i < Math.min(Calls.ask(x, "told", 7), 40); i++) {
            all.append((char) Calls.ask(x, "paper", i));
        }
        all.append("; trays");
        for (long i = 0; i < 4; i++) {
            long place = 0;
            while (place < 21 && Calls.ask(x, "laid", i, place) > -11) {
                all.append(' ').append(Calls.ask(x, "laid", i, place));
                place++;
            }
            all.append(" (").append(Calls.ask(x, "laid", i, place)).append(')');
        }
        all.append("; lists");
        for (long i = 0; i < 4; i++) {
            for (long place = 0; place < 32 && Calls.ask(x, "get", i, place) != Long.MIN_VALUE; place++) {
                all.append(' ').append(Calls.ask(x, "get", i, place));
            }
            all.append(" (").append(Calls.ask(x, "set", i, -1, 0)).append(')');
        }
        all.append("; kinds");
        for (long i = 0; i < 4; i++) {
            for (long fare = 0; fare < FARES; fare++) {
                all.append(' ').append(Calls.ask(x, "lays", i, 0, fare));
            }
        }
        all.append("; tape ").append(Calls.ask(x, "byHand", 0));
        all.append("; image ").append(Calls.ask(x, "undo"));
        plan(x, all);
        return all.toString();
    }

    private static void plan(Object x, StringBuilder all) {
        all.append("; told");
        for (long what = 0; what < 36; what++) {
            all.append(' ').append(Calls.ask(x, "told", what));
        }
        all.append("; fares");
        for (long fare = 0; fare < Math.min(Calls.ask(x, "told", 0), 6); fare++) {
            for (long what = 0; what < 6; what++) {
                all.append(' ').append(Calls.ask(x, "of", fare, what));
            }
        }
        all.append("; routes");
        for (long i = 0; i < Math.min(Calls.ask(x, "told", 5), 12); i++) {
            for (long what = 0; what < 3; what++) {
                all.append(' ').append(Calls.ask(x, "route", i, what));
            }
            for (long k = 0; k < Math.min(Calls.ask(x, "route", i, 4), 3); k++) {
                all.append(' ').append((char) Calls.ask(x, "route", i, 10 + k));
            }
        }
        long seed = Calls.ask(x, "seed", 0);
        Calls.ask(x, "seed", seed);
        all.append("; seed ").append(seed).append("; worth ").append(Calls.ask(x, "worth", 20, 1)).append(' ');
    }
}
