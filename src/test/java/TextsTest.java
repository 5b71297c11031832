/** FAULTS of texts: at each place each byte, texts that end too early or go on too long, what is looked at first. */
public final class TextsTest {
    private static final String LETTERS = "abcdefghijklmnopqrstuvwxyz";
    private static final String FIGURES = "0123456789";
    private static final int TAPE = 120;

    public static void main(String[] args) {
        eachByteOfABook();
        eachBeginning();
        eachTwoLegs();
        eachSetOfLegs();
        names();
        namesThereAlready();
        noRoom();
        prices();
        wanted();
        firstFault();
        longestTexts();
        eachByteOfRequests();
        requestsByFares();
        requestsTooLong();
        eachByteOfAName();
        Due.end("TextsTest");
    }

    private static void book(String text, int want) {
        FareLimits x = new FareLimits();
        Due.is("book " + text, Calls.book(x, text), want);
        Due.is("routes by " + text, x.told(5), want < 0 ? 0 : want);
        Due.is("the tape is empty behind " + text, x.told(6), 0);
    }

    private static void fault(String text, int place) {
        book(text, -100 - place);
    }

    /** What may stand at each place of a text, and whether it may end there. */
    private static void eachByteOfABook() {
        String text = "ab=013:42*17;c=2:9";
        String[] may = {LETTERS, LETTERS + "=", LETTERS + "=", "0123", "123:", "23:", ":", FIGURES, FIGURES + "*;",
            FIGURES + "*;", FIGURES, FIGURES + ";", ";", LETTERS, LETTERS + "=", "0123", "3:", FIGURES,
            FIGURES + "*;"};
        Due.is("a row for each place and the end", may.length, text.length() + 1);
        for (int place = 0; place <= text.length(); place++) {
            for (char c = 1; c < 128; c++) {
                String begun = text.substring(0, place) + c;
                if (may[place].indexOf(c) < 0) {
                    fault(begun, place);
                    fault(begun + text.substring(Math.min(place + 1, text.length())), place);
                } else if (c == '0' && (place == 7 || place == 17)) {
                    fault(begun, place);
                } else {
                    boolean isWhole = FIGURES.indexOf(c) >= 0 && (begun.indexOf(';') > 0
                        ? begun.lastIndexOf(':') > begun.indexOf(';') : begun.indexOf(':') > 0);
                    book(begun, isWhole ? begun.indexOf(';') > 0 ? 2 : 1 : -100 - begun.length());
                }
            }
        }
    }

    private static void eachBeginning() {
        String text = "abc=0123:9999*99;d=3:1*5;e=1:20";
        int[] whole = {10, 11, 12, 13, 15, 16, 22, 24, 30, 31};
        int[] routes = {1, 1, 1, 1, 1, 1, 2, 2, 3, 3};
        int next = 0;
        for (int end = 0; end <= text.length(); end++) {
            if (next < whole.length && whole[next] == end) {
                book(text.substring(0, end), routes[next]);
                next++;
            } else {
                fault(text.substring(0, end), end);
            }
        }
        Due.is("all that are whole were read", next, whole.length);
        for (char c = 1; c < 128; c++) {
            if (FIGURES.indexOf(c) < 0 && c != '*' && c != ';') {
                fault(text + c, text.length());
            }
        }
    }

    /** "LEGS in a text are figures one by one: the FAULT is the figure that is not higher." */
    private static void eachTwoLegs() {
        for (char one : FIGURES.toCharArray()) {
            for (char two : FIGURES.toCharArray()) {
                String text = "a=" + one + two + ":5";
                if (one > '3') {
                    fault(text, 2);
                } else if (two > '3' || two <= one) {
                    fault(text, 3);
                } else {
                    book(text, 1);
                }
            }
        }
        fault("a=0124:5", 5);
        fault("a=0122:5", 5);
        fault("a=01233:5", 6);
        fault("a=01230:5", 6);
        fault("a=:5", 2);
        fault("a=-1:5", 2);
    }

    private static void eachSetOfLegs() {
        for (int bits = 1; bits <= 15; bits++) {
            StringBuilder legs = new StringBuilder();
            for (int leg = 0; leg < 4; leg++) {
                legs.append((bits >> leg & 1) == 1 ? "" + leg : "");
            }
            FareLimits x = new FareLimits();
            Due.is("book over " + legs, Calls.book(x, "a=" + legs + ":5"), 1);
            Due.is("legs " + legs, x.route(0, 0), bits);
            for (int leg = 0; leg < 4; leg++) {
                Due.holds("part over " + leg + " of " + legs, x.part(0, leg) != 0 == ((bits >> leg & 1) == 1));
            }
        }
    }

    private static void names() {
        book("a=0:1", 1);
        book("zz=0:1", 1);
        book("aza=0:1", 1);
        fault("abcd=0:1", 3);
        fault("=0:1", 0);
        fault("a=0:1;=0:1", 6);
        fault("A=0:1", 0);
        fault("aB=0:1", 1);
        fault("`=0:1", 0);
        fault("{=0:1", 0);
        fault("a1=0:1", 1);
        fault(" a=0:1", 0);
        fault("a =0:1", 1);
    }

    private static void namesThereAlready() {
        FareLimits x = new FareLimits();
        Due.is("two", Calls.book(x, "ab=0:1;abc=1:2"), 2);
        String[] texts = {"ab", "ab=", "ab=0:1", "ab!", "ab=9", "ab1", "abc", "abc=0:1", "abcd", "abc!", "abc;"};
        for (String text : texts) {
            Due.is("there already: " + text, Calls.book(x, text), -100);
            Due.is("there already: q=0:1;" + text, Calls.book(x, "q=0:1;" + text), -106);
        }
        Due.is("nothing came", x.told(5), 2);
        String[] begun = {"a", "b", "abd", "bab"};
        for (String text : begun) {
            Due.is("not there: " + text, Calls.book(x, text), -100 - text.length());
        }
        Due.is("twice in a text", Calls.book(x, "q=0:1;r=0:1;q"), -112);
        Due.is("twice in a text, at once", Calls.book(x, "q=0:1;q=0:1"), -106);
        Due.is("once more, ahead of the byte behind", Calls.book(x, "qrs=0:1;qrst"), -108);
        Due.is("the first of two", Calls.book(x, "q=0:1;q=0:1;ab=0:1"), -106);
        Due.is("a longer one and a shorter one", Calls.book(x, "q=0:1;qr=0:1;qrs=0:1"), 3);
        Due.is("five", x.told(5), 5);
    }

    private static String routes(char first, int count) {
        StringBuilder text = new StringBuilder();
        for (int i = 0; i < count; i++) {
            text.append(i == 0 ? "" : ";").append((char) (first + i)).append("=0:1");
        }
        return text.toString();
    }

    private static void noRoom() {
        for (int there = 0; there <= 12; there++) {
            FareLimits x = new FareLimits();
            Due.is("first " + there, Calls.book(x, routes('a', there)), there == 0 ? -100 : there);
            int room = 12 - there;
            Due.is("one too many", Calls.book(x, routes('n', room + 1)), -100 - 6 * room);
            Due.is("none of them came", x.told(5), there);
            Due.is("a name too many, ahead of the byte behind", Calls.book(x, routes('n', room) + (room == 0 ? "" : ";")
                + "z!"), -100 - 6 * room);
            Due.is("no name where one is too many", Calls.book(x, routes('n', room) + (room == 0 ? "" : ";") + "!"),
                -100 - 6 * room);
            Due.is("as many as there is room for", Calls.book(x, routes('n', room)), room == 0 ? -100 : room);
            Due.is("twelve", x.told(5), 12);
            Due.is("full", Calls.book(x, "zz=0:1"), -100);
            Due.is("full, and there already", Calls.book(x, "n=0:1"), -100);
            Due.is("full, and no text", Calls.book(x, ""), -100);
            Due.is("twelve still", x.told(5), 12);
        }
        FareLimits x = new FareLimits();
        Calls.book(x, routes('a', 12));
        Calls.feed(x, "c");
        Due.is("one ends", x.ends(), 11);
        Due.is("room for one", Calls.book(x, "c=1:2"), 1);
        Due.is("room for none", Calls.book(x, "zz"), -100);
    }

    private static void prices() {
        String[] zero = {"0", "00", "000", "0000", "0;", "0*1", "0!", "00!", "000!", "0000!", "00000", "00001",
            "0000*"};
        for (String price : zero) {
            fault("a=0:" + price, 4);
            fault("b=1:5;a=0:" + price, 10);
        }
        String[] may = {"1", "9", "10", "01", "001", "0001", "9999", "0999", "1000"};
        for (String price : may) {
            FareLimits x = new FareLimits();
            Due.is("price " + price, Calls.book(x, "a=0:" + price), 1);
            Due.is("price " + price, x.route(0, 1), Integer.parseInt(price));
        }
        fault("a=0:10000", 8);
        fault("a=0:99999", 8);
        fault("a=0:00011", 8);
        fault("a=0:", 4);
        fault("a=0:*1", 4);
        fault("a=0:;", 4);
        fault("a=0:+1", 4);
        fault("a=0:-1", 4);
        fault("a=0:/", 4);
        fault("a=0::", 4);
        fault("a=0:1/", 5);
        fault("a=0:1:", 5);
    }

    private static void wanted() {
        String[] may = {"0", "00", "1", "01", "9", "10", "99"};
        for (String number : may) {
            FareLimits x = new FareLimits();
            Due.is("wanted " + number, Calls.book(x, "a=0:5*" + number), 1);
            Due.is("wanted " + number, x.route(0, 2), Integer.parseInt(number));
        }
        FareLimits x = new FareLimits();
        Calls.book(x, "a=0:5*9;b=0:5");
        Due.is("0 else, though the one ahead has 9", x.route(1, 2), 0);
        fault("a=0:5*", 6);
        fault("a=0:5*;", 6);
        fault("a=0:5**1", 6);
        fault("a=0:5*100", 8);
        fault("a=0:5*000", 8);
        fault("a=0:5*1*1", 7);
        fault("a=0:5*-1", 6);
        fault("a=0:5*/", 6);
        fault("a=0:5*:", 6);
    }

    /** "Parts are read from left to right": the first of two faults. */
    private static void firstFault() {
        fault("a=0:0;b=9:1", 4);
        fault("a=9:0", 2);
        fault("a=0:1;b=9:1;a=0:1", 8);
        fault("a=0:1;a=9:0", 6);
        fault("a=0:1*x;a=0:1", 6);
        fault("a=0:1;;", 6);
        fault("a=0:1;b", 7);
        fault(";a=0:1", 0);
    }

    private static String longest() {
        StringBuilder text = new StringBuilder("zz=01:1*10");
        for (char c = 'a'; c < 'l'; c++) {
            text.append(';').append(c).append(c).append("=0:1*10");
        }
        return text.toString();
    }

    private static void longestTexts() {
        String text = longest();
        Due.is("as long as the tape", text.length(), TAPE);
        book(text, 12);
        fault(text.substring(0, TAPE - 1) + "!", TAPE - 1);
        fault(text.substring(0, TAPE - 2) + "*1", TAPE - 2);
        String early = text.substring(0, TAPE - 9) + "yyy=0123:";
        FareLimits x = new FareLimits();
        Due.is("the last part is short of a price", Calls.book(x, early), -100 - TAPE);
        Due.is("the tape was full", early.length(), TAPE);
        Due.is("and nothing came", x.told(5), 0);
        Calls.feed(x, text);
        Due.is("no room on the tape", x.feed(';'), -4);
        Due.is("what didn't come isn't read", x.book(), 12);
    }

    private static FareLimits fares(int count) {
        FareLimits x = new FareLimits();
        for (int i = 0; i < count; i++) {
            x.fare(i % 4, 10 + i);
        }
        return x;
    }

    /** The same faults, replayed and by hand. */
    private static void requests(FareLimits x, String text, int want) {
        Calls.tape(x, text);
        Due.is("replay " + text, want < 0 ? x.replay(2) : x.replay(2) >= 0 ? 1 : 0, want < 0 ? want : 1);
        Due.is("the tape is empty behind " + text, x.told(6), 0);
        Calls.feed(x, text);
        Due.is("byHand " + text, want < 0 ? x.byHand(2) : x.byHand(2) >= 0 ? 1 : 0, want < 0 ? want : 1);
        Due.is("the tape is empty behind " + text, x.told(6), 0);
    }

    private static void eachByteOfRequests() {
        for (int place = 0; place <= 20; place++) {
            String begun = "ab-c-bacab-c-bacab-c".substring(0, place);
            for (char c = 1; c < 128; c++) {
                boolean may = place < 20 && "abc-".indexOf(c) >= 0;
                requests(fares(3), begun + c, may ? 1 : -100 - place);
                if (!may) {
                    requests(fares(3), begun + c + "a", -100 - place);
                }
            }
        }
    }

    private static void requestsByFares() {
        for (int count = 0; count <= 6; count++) {
            FareLimits x = fares(count);
            for (char c = 'a'; c <= 'g'; c++) {
                requests(x, "-" + c, c - 'a' < count ? 1 : -101);
            }
            requests(x, "", -100);
            requests(x, "-", 1);
        }
        FareLimits x = fares(6);
        x.drop();
        requests(x, "ef", -101);
        x.fare(0, 5);
        requests(x, "ef", 1);
    }

    private static void requestsTooLong() {
        FareLimits x = fares(1);
        String twenty = "aaaaaaaaaa----------";
        requests(x, twenty, 1);
        requests(x, twenty + "-", -120);
        requests(x, twenty + "!", -120);
        requests(fares(1), twenty + twenty + twenty + twenty + twenty + twenty, -120);
        requests(fares(1), "aab" + twenty, -102);
        requests(fares(1), twenty.substring(1) + "b-", -119);
    }

    private static void eachByteOfAName() {
        for (char c = 1; c < 128; c++) {
            FareLimits x = new FareLimits();
            Calls.book(x, "a=0:1;ab=0:1;abc=0:1");
            String[] texts = {"" + c, "a" + c, "ab" + c, "abc" + c};
            String[] there = {"a", "ab", "abc", ""};
            int left = 3;
            for (int i = 0; i < texts.length; i++) {
                Calls.feed(x, texts[i]);
                boolean ends = texts[i].equals(there[i]);
                left -= ends ? 1 : 0;
                Due.is("ends " + texts[i], x.ends(), ends ? left : -1);
                Due.is("routes behind ends " + texts[i], x.told(5), left);
                Due.is("the tape is empty behind ends " + texts[i], x.told(6), 0);
            }
        }
    }
}
