import java.math.BigInteger;
import java.util.ArrayList;
import java.util.Arrays;
import java.util.Comparator;
import java.util.List;
import java.util.TreeMap;

/**
 * The document once more, word by word, with the Java library and without any thought of speed:
 * what FareLimits answers is held against this one. It shares no code with it on purpose.
 */
final class Reference {
    static final long NO = Long.MIN_VALUE;
    private static final BigInteger LONG = BigInteger.valueOf(Long.MAX_VALUE);
    private static final double[] KEEP = {0.5, 0.0, 1.0, 0.75};

    private static final class F {
        int kind;
        int price;
        int[] odds = new int[4];
        int hand = 30;

        F copy() {
            F f = new F();
            f.kind = kind;
            f.price = price;
            f.odds = odds.clone();
            f.hand = hand;
            return f;
        }
    }

    private static final class R {
        String name;
        String legs;
        int price;
        int wanted;
    }

    private static final class All {
        List<F> fares = new ArrayList<>();
        int seats = 10;
        int cancel = 0;
        int noshow = 0;
        int denied = 500;
        int[] length = {100, 100, 100, 100};
        int[] free = {10, 10, 10, 10};
        TreeMap<String, R> routes = new TreeMap<>();
        int seed = 1;

        All copy() {
            All a = new All();
            for (F f : fares) {
                a.fares.add(f.copy());
            }
            a.seats = seats;
            a.cancel = cancel;
            a.noshow = noshow;
            a.denied = denied;
            a.length = length.clone();
            a.free = free.clone();
            a.routes = new TreeMap<>(routes);
            a.seed = seed;
            return a;
        }
    }

    private static final class Fault extends Exception {
        private static final long serialVersionUID = 1;
        final int place;

        Fault(int place) {
            this.place = place;
        }
    }

    private static final class Over extends Exception {
        private static final long serialVersionUID = 1;
    }

    private All all = new All();
    private All image = null;
    private String tape = "";
    private String paper = "";
    private final int[][] trays = new int[4][];
    private final int[] trayKinds = new int[4];
    private final long[][] lists = new long[4][];
    private Double[][] worths;
    private List<Integer> worthsFrom;
    private BigInteger[][] grosses;

    private boolean isFare(int fare) {
        return fare >= 0 && fare < all.fares.size();
    }

    private static boolean in(int v, int least, int most) {
        return least <= v && v <= most;
    }

    private static boolean under(int kind, int wanted) {
        if (kind == wanted || wanted == 0) {
            return true;
        }
        return kind == 3 && wanted == 2;
    }

    public int fare(int kind, int price) {
        if (!in(kind, 0, 3)) {
            return -1;
        }
        if (!in(price, 1, 9999)) {
            return -2;
        }
        if (all.fares.size() == 6) {
            return -4;
        }
        F f = new F();
        f.kind = kind;
        f.price = price;
        all.fares.add(f);
        return all.fares.size() - 1;
    }

    public int of(int fare, int what) {
        if (!isFare(fare) || !in(what, 0, 5)) {
            return -1;
        }
        F f = all.fares.get(fare);
        return what == 0 ? f.kind : what == 1 ? f.price : f.odds[what - 2];
    }

    public int odds(int fare, int phase, int v) {
        if (!isFare(fare) || !in(phase, 0, 3)) {
            return -1;
        }
        int sum = v;
        for (int i = 0; i < all.fares.size(); i++) {
            sum += i == fare ? 0 : all.fares.get(i).odds[phase];
        }
        if (!in(v, 0, 100) || sum > 100) {
            return -2;
        }
        int was = all.fares.get(fare).odds[phase];
        all.fares.get(fare).odds[phase] = v;
        return was;
    }

    public int drop() {
        if (all.fares.isEmpty()) {
            return -3;
        }
        all.fares.remove(all.fares.size() - 1);
        return all.fares.size();
    }

    public int rule(int what, int v) {
        int was;
        switch (what) {
            case 0:
                was = all.seats;
                if (!in(v, 0, 30)) {
                    return -2;
                }
                all.seats = v;
                return was;
            case 1:
                was = all.cancel;
                if (!in(v, 0, 50)) {
                    return -2;
                }
                all.cancel = v;
                return was;
            case 2:
                was = all.noshow;
                if (!in(v, 0, 50)) {
                    return -2;
                }
                all.noshow = v;
                return was;
            case 3:
                was = all.denied;
                if (!in(v, 0, 9999)) {
                    return -2;
                }
                all.denied = v;
                return was;
            default:
                return -1;
        }
    }

    private double showsOf(int t) {
        double x = 1.0 - all.noshow / 100.0;
        while (t-- > 0) {
            x *= 1.0 - all.cancel / 100.0;
        }
        return x;
    }

    private double netOf(int fare, int t) {
        F f = all.fares.get(fare);
        return f.price * (showsOf(t) + ((1.0 - showsOf(t)) * KEEP[f.kind]));
    }

    public long shows(int t) {
        return in(t, 0, 20) ? Double.doubleToLongBits(showsOf(t)) : NO;
    }

    public long net(int fare, int t) {
        return isFare(fare) && in(t, 0, 20) ? Double.doubleToLongBits(netOf(fare, t)) : NO;
    }

    public int netCut(int fare, int t) {
        return isFare(fare) && in(t, 0, 20) ? (int) netOf(fare, t) : -1;
    }

    /** Rows are kept as long as all that they hang on is alike. */
    private double worthOf(int t, int s) {
        List<Integer> from = new ArrayList<>(List.of(all.seats, all.cancel, all.noshow));
        for (F f : all.fares) {
            from.addAll(List.of(f.kind, f.price, f.odds[0], f.odds[1], f.odds[2], f.odds[3]));
        }
        if (!from.equals(worthsFrom)) {
            worths = new Double[21][31];
            worthsFrom = from;
        }
        return worthKnown(t, s);
    }

    private double worthKnown(int t, int s) {
        if (s == 0 || t == 0) {
            return 0.0;
        }
        if (worths[t][s] == null) {
            double sum = worthKnown(t - 1, s);
            for (int f = 0; f < all.fares.size(); f++) {
                double gain = netOf(f, t - 1) - (worthKnown(t - 1, s) - worthKnown(t - 1, s - 1));
                if (gain > 0.0) {
                    double chance = all.fares.get(f).odds[(t - 1) / 5] / 100.0;
                    double more = chance * gain;
                    sum = sum + more;
                }
            }
            worths[t][s] = sum;
        }
        return worths[t][s];
    }

    public long worth(int t, int s) {
        return in(t, 0, 20) && in(s, 0, all.seats) ? Double.doubleToLongBits(worthOf(t, s)) : NO;
    }

    public int worthShort(int t, int s) {
        return in(t, 0, 20) && in(s, 0, all.seats) ? Float.floatToIntBits((float) worthOf(t, s)) : -1;
    }

    private static BigInteger looked(BigInteger x) throws Over {
        if (x.compareTo(LONG) > 0 || x.compareTo(LONG.negate()) < 0) {
            throw new Over();
        }
        return x;
    }

    private BigInteger grossOf(int t, int s) throws Over {
        if (s == 0 || t == 0) {
            return BigInteger.ZERO;
        }
        if (grosses[t][s] != null) {
            return grosses[t][s];
        }
        BigInteger hundred = BigInteger.valueOf(100);
        BigInteger sum = looked(hundred.multiply(grossOf(t - 1, s)));
        for (F f : all.fares) {
            BigInteger power = looked(hundred.pow(t - 1));
            BigInteger paid = looked(power.multiply(BigInteger.valueOf(f.price)));
            BigInteger bid = looked(grossOf(t - 1, s).subtract(grossOf(t - 1, s - 1)));
            BigInteger extra = looked(paid.subtract(bid));
            if (extra.signum() > 0) {
                BigInteger more = looked(extra.multiply(BigInteger.valueOf(f.odds[(t - 1) / 5])));
                sum = looked(sum.add(more));
            }
        }
        grosses[t][s] = sum;
        return sum;
    }

    public long gross(int t, int s) {
        if (!in(t, 0, 20) || !in(s, 0, all.seats)) {
            return NO;
        }
        grosses = new BigInteger[21][31];
        try {
            return grossOf(t, s).longValueExact();
        } catch (Over o) {
            return -6;
        }
    }

    private boolean isTaken(int fare, int t, int s) {
        return netOf(fare, t - 1) - (worthOf(t - 1, s) - worthOf(t - 1, s - 1)) > 0.0;
    }

    public int taken(int fare, int t, int s) {
        if (!isFare(fare) || !in(t, 1, 20) || !in(s, 1, all.seats)) {
            return -1;
        }
        return isTaken(fare, t, s) ? 1 : 0;
    }

    public int kept(int fare, int t) {
        if (!isFare(fare) || !in(t, 1, 20)) {
            return -1;
        }
        int kept = 0;
        for (int s = 1; s <= all.seats; s++) {
            if (!isTaken(fare, t, s)) {
                kept = s;
            }
        }
        return kept;
    }

    public int limit(int fare, int t) {
        int kept = kept(fare, t);
        return kept < 0 ? kept : all.seats - kept;
    }

    private double chanceOf(double[] shows, int b, int k) {
        return k > b ? 0.0 : chancesOf(shows, b)[b][k];
    }

    private double[][] chancesOf(double[] shows, int b) {
        double[][] c = new double[b + 1][b + 2];
        c[0][0] = 1.0;
        for (int i = 1; i <= b; i++) {
            double yes = shows[i];
            double no = 1.0 - yes;
            for (int j = 0; j <= i; j++) {
                if (j == 0) {
                    c[i][j] = c[i - 1][0] * no;
                } else if (j == i) {
                    c[i][j] = c[i - 1][j - 1] * yes;
                } else {
                    c[i][j] = (c[i - 1][j] * no) + (c[i - 1][j - 1] * yes);
                }
            }
        }
        return c;
    }

    private double[] alike(int t) {
        double[] row = new double[41];
        Arrays.fill(row, showsOf(t));
        return row;
    }

    private double[] asking(int fare) {
        double[] row = new double[21];
        for (int t = 1; t <= 20; t++) {
            row[t] = all.fares.get(fare).odds[(t - 1) / 5] / 100.0;
        }
        return row;
    }

    public long chance(int t, int b, int k) {
        if (!in(t, 0, 20) || !in(b, 0, 40) || !in(k, 0, 40)) {
            return NO;
        }
        return Double.doubleToLongBits(chanceOf(alike(t), b, k));
    }

    private double turnedOf(int t, int b) {
        double[][] c = chancesOf(alike(t), b);
        double sum = 0.0;
        for (int k = all.seats + 1; k <= b; k++) {
            sum += ((double) (k - all.seats)) * c[b][k];
        }
        return sum;
    }

    public long turned(int t, int b) {
        return in(t, 0, 20) && in(b, 0, 40) ? Double.doubleToLongBits(turnedOf(t, b)) : NO;
    }

    private double hadOf(int fare, int t, int b) {
        double[][] c = chancesOf(alike(t), b);
        double sum = 0.0;
        for (int k = 0; k <= b; k++) {
            sum += ((double) (k < all.seats ? k : all.seats)) * c[b][k];
        }
        return (sum * all.fares.get(fare).price) - (turnedOf(t, b) * all.denied);
    }

    public long had(int fare, int t, int b) {
        return isFare(fare) && in(t, 0, 20) && in(b, 0, 40) ? Double.doubleToLongBits(hadOf(fare, t, b)) : NO;
    }

    public int booked(int fare, int t) {
        if (!isFare(fare) || !in(t, 0, 20)) {
            return -1;
        }
        double[] had = new double[41];
        for (int b = 0; b <= 40; b++) {
            had[b] = hadOf(fare, t, b);
        }
        double greatest = Arrays.stream(had).max().getAsDouble();
        int b = 0;
        while (had[b] != greatest) {
            b++;
        }
        return b;
    }

    private static BigInteger powerOf(int base, int times) throws Over {
        BigInteger x = BigInteger.ONE;
        for (int i = 0; i < times; i++) {
            x = looked(x.multiply(BigInteger.valueOf(base)));
        }
        return x;
    }

    public long ways(int b, int k, int y) {
        if (!in(b, 0, 40) || !in(k, 0, b) || !in(y, 0, 100)) {
            return NO;
        }
        BigInteger sets = BigInteger.ONE;
        for (int i = 0; i < k; i++) {
            sets = sets.multiply(BigInteger.valueOf(b - i)).divide(BigInteger.valueOf(i + 1));
        }
        try {
            BigInteger some = looked(looked(sets).multiply(powerOf(y, k)));
            return looked(some.multiply(powerOf(100 - y, b - k))).longValueExact();
        } catch (Over o) {
            return -6;
        }
    }

    public int leg(int leg, int what, int v) {
        if (!in(leg, 0, 3) || !in(what, 0, 1)) {
            return -1;
        }
        if (what == 0 ? !in(v, 1, 9999) : !in(v, 0, 99)) {
            return -2;
        }
        int[] row = what == 0 ? all.length : all.free;
        int was = row[leg];
        row[leg] = v;
        return was;
    }

    public int feed(int letter) {
        if (!in(letter, 1, 127)) {
            return -2;
        }
        if (tape.length() == 120) {
            return -4;
        }
        tape += (char) letter;
        return tape.length();
    }

    public int clear() {
        int was = tape.length();
        tape = "";
        return was;
    }

    /** Reads a BOOK byte by byte, as an automaton: what may come is told by where it is. */
    private List<R> readBook(String text) throws Fault {
        List<R> read = new ArrayList<>();
        List<String> names = new ArrayList<>(all.routes.keySet());
        int i = 0;
        while (true) {
            R r = new R();
            int start = i;
            while (i < text.length() && i - start < 3 && Character.isLowerCase(text.charAt(i))) {
                i++;
            }
            r.name = text.substring(start, i);
            if (r.name.isEmpty() || names.contains(r.name) || names.size() == 12) {
                throw new Fault(start);
            }
            names.add(r.name);
            i = past(text, i, "=");
            start = i;
            while (i < text.length() && i - start < 4 && "0123".indexOf(text.charAt(i)) >= 0) {
                if (i > start && text.charAt(i) <= text.charAt(i - 1)) {
                    throw new Fault(i);
                }
                i++;
            }
            r.legs = text.substring(start, i);
            if (r.legs.isEmpty()) {
                throw new Fault(i);
            }
            i = past(text, i, ":");
            start = i;
            i = figures(text, i, 4);
            r.price = Integer.parseInt(text.substring(start, i));
            if (r.price < 1) {
                throw new Fault(start);
            }
            if (i < text.length() && text.charAt(i) == '*') {
                i++;
                start = i;
                i = figures(text, i, 2);
                r.wanted = Integer.parseInt(text.substring(start, i));
            }
            read.add(r);
            if (i == text.length()) {
                return read;
            }
            i = past(text, i, ";");
        }
    }

    private static int past(String text, int i, String sign) throws Fault {
        if (!text.startsWith(sign, i)) {
            throw new Fault(i);
        }
        return i + 1;
    }

    private static int figures(String text, int i, int most) throws Fault {
        int end = i;
        while (end < text.length() && end - i < most && "0123456789".indexOf(text.charAt(end)) >= 0) {
            end++;
        }
        if (end == i) {
            throw new Fault(i);
        }
        return end;
    }

    public int book() {
        String text = tape;
        tape = "";
        try {
            List<R> read = readBook(text);
            for (R r : read) {
                all.routes.put(r.name, r);
            }
            return read.size();
        } catch (Fault f) {
            return -100 - f.place;
        }
    }

    public int ends() {
        String text = tape;
        tape = "";
        return all.routes.remove(text) == null ? -1 : all.routes.size();
    }

    private List<R> routes() {
        return new ArrayList<>(all.routes.values());
    }

    private float partOf(R r, int leg) {
        int together = 0;
        for (char c : r.legs.toCharArray()) {
            together += all.length[c - '0'];
        }
        float product = (float) r.price * (float) all.length[leg];
        return product / (float) together;
    }

    private float costOf(int leg) {
        List<R> over = routes();
        over.removeIf(r -> r.legs.indexOf('0' + leg) < 0);
        over.sort(Comparator.comparingDouble((R r) -> -partOf(r, leg)).thenComparing(r -> r.name));
        int wanted = 0;
        for (R r : over) {
            wanted += r.wanted;
            if (wanted > all.free[leg]) {
                return partOf(r, leg);
            }
        }
        return 0.0f;
    }

    public int route(int i, int what) {
        if (!in(i, 0, all.routes.size() - 1)) {
            return -1;
        }
        R r = routes().get(i);
        if (in(what, 10, 9 + r.name.length())) {
            return r.name.charAt(what - 10);
        }
        switch (what) {
            case 0: {
                int bits = 0;
                for (char c : r.legs.toCharArray()) {
                    bits += 1 << (c - '0');
                }
                return bits;
            }
            case 1: return r.price;
            case 2: return r.wanted;
            case 3: {
                double sum = 0.0;
                for (char c : r.legs.toCharArray()) {
                    sum += (double) costOf(c - '0');
                }
                return (double) r.price < sum ? 0 : 1;
            }
            case 4: return r.name.length();
            default: return -1;
        }
    }

    public int part(int i, int leg) {
        if (!in(i, 0, all.routes.size() - 1) || !in(leg, 0, 3)) {
            return -1;
        }
        R r = routes().get(i);
        return r.legs.indexOf('0' + leg) < 0 ? 0 : Float.floatToIntBits(partOf(r, leg));
    }

    public int cost(int leg) {
        return in(leg, 0, 3) ? Float.floatToIntBits(costOf(leg)) : -1;
    }

    private int readRequests(String text) {
        for (int i = 0; i < text.length(); i++) {
            char c = text.charAt(i);
            if (i == 20 || c != '-' && "abcdef".substring(0, all.fares.size()).indexOf(c) < 0) {
                return i;
            }
        }
        return text.isEmpty() ? 0 : -1;
    }

    private int[] had(int[] asked, boolean byHand) {
        int prices = 0;
        int left = all.seats;
        int bits = 0;
        List<Integer> had = new ArrayList<>();
        for (int i = 0; i < asked.length; i++) {
            if (asked[i] < 0 || left == 0) {
                continue;
            }
            F f = all.fares.get(asked[i]);
            boolean isHad = byHand
                ? had.stream().filter(p -> p <= f.price).count() < f.hand
                : isTaken(asked[i], asked.length - i, left);
            if (isHad) {
                had.add(f.price);
                prices += f.price;
                left--;
                bits |= 1 << i;
            }
        }
        return new int[] {prices, had.size(), left, bits};
    }

    private int[] signs(String text) {
        int[] asked = new int[text.length()];
        for (int i = 0; i < asked.length; i++) {
            asked[i] = text.charAt(i) == '-' ? -1 : text.charAt(i) - 'a';
        }
        return asked;
    }

    public int replay(int what) {
        if (!in(what, 0, 4)) {
            return -1;
        }
        String text = tape;
        tape = "";
        int fault = readRequests(text);
        if (fault >= 0) {
            return -100 - fault;
        }
        if (what < 4) {
            return had(signs(text), false)[what];
        }
        return text.chars().filter(c -> c != '-').map(c -> -all.fares.get(c - 'a').price).sorted()
            .limit(all.seats).map(p -> -p).sum();
    }

    public int byHand(int what) {
        if (!in(what, 0, 3)) {
            return -1;
        }
        String text = tape;
        tape = "";
        int fault = readRequests(text);
        return fault >= 0 ? -100 - fault : had(signs(text), true)[what];
    }

    public int spell() {
        List<String> parts = new ArrayList<>();
        for (R r : routes()) {
            parts.add(r.name + "=" + r.legs + ":" + r.price + (r.wanted == 0 ? "" : "*" + r.wanted));
        }
        paper = String.join(";", parts);
        return paper.length();
    }

    public int paper(int i) {
        return in(i, 0, paper.length() - 1) ? paper.charAt(i) : -1;
    }

    public int told(int what) {
        switch (what) {
            case 0: return all.fares.size();
            case 1: return all.seats;
            case 2: return all.cancel;
            case 3: return all.noshow;
            case 4: return all.denied;
            case 5: return all.routes.size();
            case 6: return tape.length();
            case 7: return paper.length();
            case 8: return (int) all.fares.stream().mapToInt(f -> f.price).distinct().count();
            case 9: return all.fares.stream().mapToInt(f -> f.price).max().orElse(0);
            default: break;
        }
        if (in(what, 10, 13)) {
            return all.length[what - 10];
        }
        if (in(what, 20, 23)) {
            return all.free[what - 20];
        }
        return what >= 30 && isFare(what - 30) ? all.fares.get(what - 30).hand : -1;
    }

    public long demand(int fare, int t, int k) {
        if (!isFare(fare) || !in(t, 0, 20) || !in(k, 0, 20)) {
            return NO;
        }
        return Double.doubleToLongBits(chanceOf(asking(fare), t, k));
    }

    public long spill(int fare, int t, int n) {
        if (!isFare(fare) || !in(t, 0, 20) || !in(n, 0, 30)) {
            return NO;
        }
        double sum = 0.0;
        for (int k = n + 1; k <= t; k++) {
            sum += ((double) (k - n)) * chanceOf(asking(fare), t, k);
        }
        return Double.doubleToLongBits(sum);
    }

    public int hand(int fare, int v) {
        if (!isFare(fare)) {
            return -1;
        }
        if (!in(v, 0, 30)) {
            return -2;
        }
        int was = all.fares.get(fare).hand;
        all.fares.get(fare).hand = v;
        return was;
    }

    public int drawn(int days, int n, int how, int what) {
        if (!in(how, 0, 1) || !in(what, 0, 3)) {
            return -1;
        }
        if (!in(days, 1, 20) || !in(n, 1, 20)) {
            return -2;
        }
        int[] sums = new int[4];
        for (int day = 0; day < days; day++) {
            int[] asked = new int[n];
            for (int i = 0; i < n; i++) {
                asked[i] = drawOne((n - i - 1) / 5);
                sums[1] += asked[i] < 0 ? 0 : 1;
            }
            int[] had = had(asked, how == 1);
            sums[0] += had[0];
            sums[2] += had[1];
            sums[3] += had[2] == 0 ? 1 : 0;
        }
        return sums[what];
    }

    private int drawOne(int phase) {
        all.seed = (int) ((long) all.seed * 1103515245L + 12345L);
        int d = (int) ((all.seed & 0xFFFFFFFFL) / 65536L) % 100;
        int sum = 0;
        for (int f = 0; f < all.fares.size(); f++) {
            sum += all.fares.get(f).odds[phase];
            if (sum > d) {
                return f;
            }
        }
        return -1;
    }

    public int seed(int v) {
        int was = all.seed;
        all.seed = v;
        return was;
    }

    public int tray(int tray, int kind, int n) {
        if (!in(tray, 0, 3) || !in(kind, 0, 3)) {
            return -1;
        }
        if (n > 20) {
            return -2;
        }
        if (n < 0) {
            return -14;
        }
        trays[tray] = new int[n];
        Arrays.fill(trays[tray], -5);
        trayKinds[tray] = kind;
        return 1;
    }

    public int lays(int tray, int i, int fare) {
        if (!in(tray, 0, 3) || fare != -1 && !isFare(fare)) {
            return -1;
        }
        if (trays[tray] == null) {
            return -11;
        }
        if (!in(i, 0, trays[tray].length - 1)) {
            return -12;
        }
        if (fare != -1 && !under(all.fares.get(fare).kind, trayKinds[tray])) {
            return -16;
        }
        trays[tray][i] = fare == -1 ? -5 : fare;
        return 1;
    }

    public int laid(int tray, int i) {
        if (!in(tray, 0, 3)) {
            return -1;
        }
        if (trays[tray] == null) {
            return -11;
        }
        return in(i, 0, trays[tray].length - 1) ? trays[tray][i] : -12;
    }

    public int like(int tray, int other) {
        if (!in(tray, 0, 3) || !in(other, 0, 3)) {
            return -1;
        }
        if (trays[other] == null) {
            return -11;
        }
        trays[tray] = trays[other].clone();
        trayKinds[tray] = trayKinds[other];
        return trays[tray].length;
    }

    public int list(int list, int n) {
        if (!in(list, 0, 3)) {
            return -1;
        }
        if (n > 31) {
            return -2;
        }
        if (n < 0) {
            return -14;
        }
        lists[list] = new long[n];
        return 1;
    }

    public int set(int list, int i, long v) {
        if (!in(list, 0, 3)) {
            return -1;
        }
        if (lists[list] == null) {
            return -11;
        }
        if (!in(i, 0, lists[list].length - 1)) {
            return -12;
        }
        lists[list][i] = v;
        return 1;
    }

    public long get(int list, int i) {
        if (!in(list, 0, 3) || lists[list] == null || !in(i, 0, lists[list].length - 1)) {
            return NO;
        }
        return lists[list][i];
    }

    public int judge(int t, int list, int i) {
        if (!in(t, 0, 20) || !in(list, 0, 3)) {
            return -1;
        }
        if (lists[list] == null) {
            return -11;
        }
        if (!in(i, 0, lists[list].length)) {
            return -12;
        }
        for (int s = 0; s <= all.seats; s++) {
            if (i + s == lists[list].length) {
                return 100 + s;
            }
            if (lists[list][i + s] != Double.doubleToLongBits(worthOf(t, s))) {
                return s;
            }
        }
        return -5;
    }

    public int image() {
        image = all.copy();
        return all.fares.size();
    }

    public int undo() {
        if (image == null) {
            return -3;
        }
        all = image.copy();
        return all.fares.size();
    }
}
