import java.lang.reflect.Method;
import java.util.Arrays;
import java.util.List;
import java.util.Random;

/**
 * Drawn runs of calls, the same ones every time, on FareLimits and on the Reference. What a run needs to know
 * it asks of the Reference, so that FareLimits answers no more calls than the document tells of.
 */
public final class RandomRunsTest {
    private static final List<Method> FACE = Calls.face();
    private static final String[] TEXTS_READ = {"book", "book", "book", "ends", "replay", "byHand", "replay"};

    private final Random random;
    private final FareLimits x = new FareLimits();
    private final Reference due = new Reference();
    private final StringBuilder story = new StringBuilder();
    private final int run;
    private int calls = 0;

    private RandomRunsTest(int run) {
        this.run = run;
        this.random = new Random(run);
    }

    public static void main(String[] args) {
        int runs = args.length > 0 ? Integer.parseInt(args[0]) : 1500;
        for (int run = 0; run < runs && Due.wrong() == 0; run++) {
            new RandomRunsTest(run).go();
        }
        Due.end("RandomRunsTest");
    }

    private void go() {
        begin();
        while (calls < Calls.MOST && Due.wrong() == 0) {
            int turn = random.nextInt(10);
            if (turn == 0) {
                text();
            } else if (turn == 1) {
                change();
            } else {
                Method m = FACE.get(random.nextInt(FACE.size()));
                boolean seldom = m.getName().equals("drop") || m.getName().equals("undo");
                if (!seldom || random.nextInt(6) == 0) {
                    call(m, numbers(m.getName()));
                }
            }
        }
        if (Due.wrong() != 0) {
            System.out.println("run " + run + ":" + story);
        }
    }

    /** Most runs begin with fares, odds and routes, so that there is something to ask about. */
    private void begin() {
        int style = random.nextInt(8);
        if (style == 0) {
            return;
        }
        int fares = 1 + random.nextInt(6);
        for (int f = 0; f < fares; f++) {
            int price = style == 1 ? 1 + random.nextInt(9) : random.nextBoolean()
                ? 1 + random.nextInt(9999) : 10 * (1 + random.nextInt(60));
            call(Calls.named("fare"), new Object[] {random.nextInt(4), price});
            for (int phase = 0; phase < 4; phase++) {
                int odds = style == 2 ? 100 / fares : random.nextInt(1 + 140 / fares);
                call(Calls.named("odds"), new Object[] {f, phase, odds});
            }
        }
        if (style > 3) {
            call(Calls.named("rule"), new Object[] {0, random.nextInt(31)});
            call(Calls.named("rule"), new Object[] {1, random.nextInt(4) == 0 ? 50 : random.nextInt(20)});
            call(Calls.named("rule"), new Object[] {2, random.nextInt(4) == 0 ? 50 : random.nextInt(30)});
        }
        if (style > 5) {
            for (int i = 0; i < 3; i++) {
                feed(bookText());
                call(Calls.named("book"), new Object[0]);
            }
        }
    }

    private void change() {
        switch (random.nextInt(7)) {
            case 0:
                call(Calls.named("rule"), new Object[] {0, random.nextInt(31)});
                break;
            case 1:
                call(Calls.named("rule"), new Object[] {1 + random.nextInt(2), random.nextInt(51)});
                break;
            case 2:
                call(Calls.named("odds"), new Object[] {random.nextInt(6), random.nextInt(4), random.nextInt(60)});
                break;
            case 3:
                call(Calls.named("hand"), new Object[] {random.nextInt(6), random.nextInt(5)});
                break;
            case 4:
                call(Calls.named("leg"), new Object[] {random.nextInt(4), 0, 1 + random.nextInt(9999)});
                break;
            case 5:
                call(Calls.named("leg"), new Object[] {random.nextInt(4), 1, random.nextInt(60)});
                break;
            default:
                judgeWell();
                break;
        }
    }

    /** A list filled with true worths, perhaps but for one, is judged from its beginning on. */
    private void judgeWell() {
        int t = random.nextInt(21);
        int from = random.nextInt(4);
        int size = random.nextInt(32);
        int seats = due.told(1);
        call(Calls.named("list"), new Object[] {1, size});
        int wrongPlace = random.nextInt(3) == 0 ? random.nextInt(32) : -1;
        for (int s = 0; s <= seats && from + s < size; s++) {
            long told = due.worth(t, s) + (s == wrongPlace ? 1 : 0);
            call(Calls.named("set"), new Object[] {1, from + s, told});
        }
        call(Calls.named("judge"), new Object[] {t, 1, from});
    }

    private void text() {
        String reader = TEXTS_READ[random.nextInt(TEXTS_READ.length)];
        String text;
        if (reader.equals("book")) {
            text = bookText();
        } else if (reader.equals("ends")) {
            text = random.nextInt(3) == 0 ? name() : knownName();
        } else {
            text = requestsText();
        }
        for (int i = random.nextInt(8) - 5; i > 0; i--) {
            text = spoiled(text);
        }
        if (random.nextInt(4) > 0) {
            call(Calls.named("clear"), new Object[0]);
        }
        feed(text);
        Object[] numbers = new Object[Calls.named(reader).getParameterCount()];
        Arrays.fill(numbers, random.nextInt(4));
        call(Calls.named(reader), numbers);
    }

    private String requestsText() {
        int fares = Math.max(1, due.told(0));
        int length = random.nextInt(22);
        StringBuilder text = new StringBuilder();
        for (int i = 0; i < length; i++) {
            text.append(random.nextInt(6) == 0 ? '-' : (char) ('a' + random.nextInt(fares)));
        }
        return text.toString();
    }

    private String name() {
        StringBuilder name = new StringBuilder();
        int letters = 1 + random.nextInt(3);
        for (int i = 0; i < letters; i++) {
            name.append((char) (random.nextInt(8) == 0 ? 'z' : 'a' + random.nextInt(3)));
        }
        return name.toString();
    }

    private String knownName() {
        int routes = due.told(5);
        if (routes == 0) {
            return "a";
        }
        int i = random.nextInt(routes);
        StringBuilder name = new StringBuilder();
        for (int k = 0; k < due.route(i, 4); k++) {
            name.append((char) due.route(i, 10 + k));
        }
        return name.toString();
    }

    private String bookText() {
        StringBuilder text = new StringBuilder();
        int parts = 1 + random.nextInt(random.nextInt(4) == 0 ? 14 : 4);
        for (int i = 0; i < parts; i++) {
            text.append(i == 0 ? "" : ";").append(name()).append('=');
            int legs = 1 + random.nextInt(15);
            for (int leg = 0; leg < 4; leg++) {
                text.append((legs >> leg & 1) == 1 ? "" + leg : "");
            }
            text.append(':').append(number(random.nextInt(4) == 0 ? 100 : random.nextInt(10000)));
            if (random.nextInt(3) > 0) {
                text.append('*').append(number(random.nextInt(random.nextBoolean() ? 12 : 100)));
            }
        }
        return text.toString();
    }

    private String number(int n) {
        return (random.nextInt(12) == 0 ? "0" : "") + n;
    }

    private String spoiled(String text) {
        if (text.isEmpty()) {
            return "" + sign();
        }
        int i = random.nextInt(text.length());
        switch (random.nextInt(5)) {
            case 0: return text.substring(0, i);
            case 1: return text.substring(0, i) + text.substring(i + 1);
            case 2: return text.substring(0, i) + sign() + text.substring(i);
            case 3: return text.substring(0, i) + sign() + text.substring(i + 1);
            default: return text + sign();
        }
    }

    private char sign() {
        return random.nextInt(5) == 0
            ? (char) (1 + random.nextInt(127)) : "abcfgz-=:;*`{/0123456789,".charAt(random.nextInt(25));
    }

    private void feed(String text) {
        for (char c : text.toCharArray()) {
            call(Calls.named("feed"), new Object[] {(int) c});
        }
    }

    private int upTo(int most) {
        return random.nextInt(12) == 0 ? (random.nextBoolean() ? -1 : most + 1) : random.nextInt(most + 1);
    }

    private int fareNumber() {
        int fares = due.told(0);
        return fares > 0 && random.nextInt(8) > 0 ? random.nextInt(fares) : upTo(5);
    }

    private int routeNumber() {
        int routes = due.told(5);
        return routes > 0 && random.nextInt(8) > 0 ? random.nextInt(routes) : upTo(12);
    }

    private int seatsNumber(int least) {
        int seats = due.told(1);
        return random.nextInt(10) == 0 ? upTo(31) : Math.min(seats, least + random.nextInt(seats + 1));
    }

    private int stage() {
        return upTo(20);
    }

    private Object[] numbers(String name) {
        if (random.nextInt(60) == 0) {
            return wild(Calls.named(name));
        }
        switch (name) {
            case "fare": return new Object[] {upTo(3), random.nextInt(6) == 0 ? 9998 + upTo(1) : upTo(9999)};
            case "of": return new Object[] {fareNumber(), upTo(5)};
            case "odds": return new Object[] {fareNumber(), upTo(3), upTo(random.nextBoolean() ? 100 : 20)};
            case "rule": return new Object[] {upTo(3), upTo(random.nextBoolean() ? 30 : 50)};
            case "shows": return new Object[] {stage()};
            case "net": case "netCut": return new Object[] {fareNumber(), stage()};
            case "worth": case "worthShort": return new Object[] {stage(), seatsNumber(0)};
            case "gross": return new Object[] {random.nextBoolean() ? upTo(20) : upTo(10), seatsNumber(0)};
            case "taken": return new Object[] {fareNumber(), stage(), seatsNumber(1)};
            case "kept": case "limit": case "booked": return new Object[] {fareNumber(), stage()};
            case "chance": return new Object[] {stage(), upTo(40), upTo(40)};
            case "turned": return new Object[] {stage(), upTo(40)};
            case "had": return new Object[] {fareNumber(), stage(), upTo(40)};
            case "ways": {
                int b = upTo(random.nextBoolean() ? 40 : 11);
                return new Object[] {b, upTo(Math.max(0, b)), random.nextInt(3) == 0 ? 100 * upTo(1) : upTo(100)};
            }
            case "leg": return new Object[] {upTo(3), upTo(1), random.nextBoolean() ? upTo(9999) : upTo(99)};
            case "feed": return new Object[] {random.nextInt(9) == 0 ? upTo(127) : (int) sign()};
            case "route": return new Object[] {routeNumber(), random.nextBoolean() ? upTo(4) : 10 + upTo(2)};
            case "part": return new Object[] {routeNumber(), upTo(3)};
            case "cost": return new Object[] {upTo(3)};
            case "replay": return new Object[] {upTo(4)};
            case "byHand": return new Object[] {upTo(3)};
            case "paper": return new Object[] {upTo(Math.max(0, due.told(7)))};
            case "told": return new Object[] {upTo(36)};
            case "demand": return new Object[] {fareNumber(), stage(), upTo(20)};
            case "spill": return new Object[] {fareNumber(), stage(), upTo(30)};
            case "hand": return new Object[] {fareNumber(), random.nextBoolean() ? upTo(30) : upTo(4)};
            case "drawn": return new Object[] {upTo(20), upTo(20), upTo(1), upTo(3)};
            case "seed": return new Object[] {random.nextInt()};
            case "tray": return new Object[] {upTo(3), upTo(3), random.nextInt(9) == 0 ? upTo(20) : upTo(6)};
            case "lays": return new Object[] {upTo(3), upTo(6), random.nextInt(5) == 0 ? -1 : fareNumber()};
            case "laid": return new Object[] {upTo(3), upTo(6)};
            case "like": return new Object[] {upTo(3), upTo(3)};
            case "list": return new Object[] {upTo(3), upTo(31)};
            case "set": return new Object[] {upTo(3), upTo(random.nextBoolean() ? 30 : 4), random.nextLong()};
            case "get": return new Object[] {upTo(3), upTo(random.nextBoolean() ? 30 : 4)};
            case "judge": return new Object[] {stage(), upTo(3), random.nextBoolean() ? 0 : upTo(31)};
            default: return new Object[0];
        }
    }

    /** Any numbers at all: nothing may throw. */
    private Object[] wild(Method m) {
        Object[] numbers = new Object[m.getParameterCount()];
        for (int i = 0; i < numbers.length; i++) {
            int[] some = {Integer.MIN_VALUE, Integer.MAX_VALUE, -1, 0, 1, -5, 100, random.nextInt()};
            int n = some[random.nextInt(some.length)];
            if (m.getParameterTypes()[i] == long.class) {
                numbers[i] = (long) n << 31;
            } else {
                numbers[i] = n;
            }
        }
        return numbers;
    }

    private void call(Method m, Object[] numbers) {
        if (calls >= Calls.MOST || Due.wrong() != 0) {
            return;
        }
        calls++;
        story.append(' ').append(m.getName()).append(Arrays.toString(numbers));
        Due.is("run " + run + ", call " + calls + ": " + m.getName() + Arrays.toString(numbers),
            Calls.ask(x, m, numbers), Calls.ask(due, m, numbers));
    }
}
