/** Each promise of the document by answers worked out by hand: ordinary inputs, edges, wrong inputs. */
public final class PromiseTest extends Checks {
    private static int promise = 0;

    public static void main(String[] args) {
        Runnable[] tests = {PromiseTest::newObject, PromiseTest::feed, PromiseTest::end, PromiseTest::falls,
            PromiseTest::fault, PromiseTest::person, PromiseTest::item, PromiseTest::join, PromiseTest::now,
            PromiseTest::go, PromiseTest::free, PromiseTest::unload, PromiseTest::load, PromiseTest::bind,
            PromiseTest::days, PromiseTest::undo, PromiseTest::fate, PromiseTest::straw, PromiseTest::lighten,
            PromiseTest::lightened, PromiseTest::keep, PromiseTest::keeps, PromiseTest::apart, PromiseTest::crack,
            PromiseTest::drops, PromiseTest::who, PromiseTest::heights, PromiseTest::lowest, PromiseTest::watch,
            PromiseTest::heaviest, PromiseTest::mean, PromiseTest::tag, PromiseTest::byteAt, PromiseTest::drawn,
            PromiseTest::odds, PromiseTest::book, PromiseTest::told, PromiseTest::sentence, PromiseTest::said,
            PromiseTest::image, PromiseTest::restore, PromiseTest::count};
        for (Runnable test : tests) {
            promise++;
            at = "promise " + promise;
            test.run();
        }
        due("how many promises were tested", promise, 42);
        ends("42 promises are as due");
    }

    private static void newObject() {
        GoingOver x = new GoingOver();
        for (int k = 0; k < 3; k++) due("count(" + k + ")", x.count(k), 0);
        due("HIGH", x.count(3), 10);
        due("FLOW", x.count(4), 20);
        due("the tape", x.count(5), 0);
        due("the DAY", x.now(0), 0);
        due("its FLOW", x.now(1), 20);
        for (int k = 2; k < 8; k++) due("now(" + k + ")", x.now(k), 0);
        due("fault()", x.fault(), 0);
        due("undo()", x.undo(), NONE);
        due("lightened()", x.lightened(), NONE);
        due("keeps()", x.keeps(), NONE);
        due("lowest()", x.lowest(), NONE);
        due("watch()", x.watch(), NONE);
        due("told(0)", x.told(0), NONE);
        due("byteAt(0)", x.byteAt(0), NONE);
        due("said(NONE)", x.said(NONE), NONE);
        due("restore(0)", x.restore(0), false);
        due("NONE", NONE, -1);
    }

    private static void feed() {
        GoingOver x = new GoingOver();
        due("feed", x.feed(0x05060708, -1, 0, 0, 0x09000000), 20);
        due("feed", x.feed(1, 2, 3, 4, 5), 40);
        due("end(1)", x.end(1), true);
        for (int k = 1; k <= 46; k++) due("feed " + k, x.feed(0, 0, 0, 0, 0), 1 + 20 * k);
        due("a feed to 941", x.feed(0, 0, 0, 0, 0), NONE);
        due("the tape then", x.count(5), 921);
        due("end(920)", x.end(920), true);
        due("a feed to 940", x.feed(0, 0, 0, 0, 0), 940);
        due("a feed beyond", x.feed(0, 0, 0, 0, 0), NONE);
        due("the tape then", x.count(5), 940);
        // The highest byte first: 'rain 2 7;person bo 3;'
        GoingOver y = new GoingOver();
        y.feed(0x7261696e, 0x20322037, 0x3b706572, 0x736f6e20, 0x626f2033);
        due("feed", y.feed(0x3b202020, 0, 0, 0, 0), 40);
        due("end(24)", y.end(24), true);
        due("falls()", y.falls(), 2);
        due("STRAW", y.person(0, 0), 3);
        due("FLOW", y.now(1), 27);
    }

    private static void end() {
        GoingOver x = new GoingOver();
        due("end(0)", x.end(0), true);
        due("end(1)", x.end(1), false);
        x.feed(0, 0, 0, 0, 0);
        due("end(21)", x.end(21), false);
        due("end(-1)", x.end(-1), false);
        due("end(least)", x.end(Integer.MIN_VALUE), false);
        due("end(most)", x.end(Integer.MAX_VALUE), false);
        due("the tape", x.count(5), 20);
        due("end(20)", x.end(20), true);
        due("end(3)", x.end(3), true);
        due("the tape", x.count(5), 3);
        due("end(4)", x.end(4), false);
        due("end(0)", x.end(0), true);
        due("the tape", x.count(5), 0);
    }

    private static void falls() {
        GoingOver x = of(TWO);
        due("PERSONS", x.count(0), 2);
        due("ITEMS", x.count(1), 5);
        due("JOINS", x.count(2), 3);
        due("the tape is empty then", x.count(5), 0);
        due("an empty text", x.falls(), 0);
        due("PERSONS", x.count(0), 0);
        due("HIGH without 'falls'", x.count(3), 10);
        due("FLOW without 'falls'", x.count(4), 20);
        type(x, " falls 030\n99;rain 9 99;rain9;");
        due("a run of letters and digits", x.falls(), -1 - 24);
        of("person a 0;person b 9;item i a 1;item k a 20;join k i 30;falls 1 1;rain 1 1;");
        of("person whol 0;item orr whol 1;item abcdefg whol 1;join orr abcdefg 1;");
        of("");
        type(x, padded(TWO, 900));
        due("900 bytes", x.falls(), 12);
        newFallsAreNew();
        fallsOfAllThatMayBe();
        fallsFaults();
    }

    private static void newFallsAreNew() {
        GoingOver x = of(HANGS);
        x.days(1);
        x.go(0);
        x.unload(1);
        due("none came down", x.now(7), 0);
        x.unload(0);
        due("one came down", x.now(7), 1);
        due("broken", x.now(6), 3);
        due("sentence()", sentence(x, "pooled"), 1);
        due("said(NONE)", x.said(NONE), 1);
        type(x, HANGS);
        due("falls()", x.falls(), 8);
        due("the DAY", x.now(0), 0);
        due("READY", x.now(2), 1);
        due("broken", x.now(6), 0);
        due("DROPPED", x.now(7), 0);
        due("in his barrel", x.person(0, 4), 7);
        due("no SENTENCE", x.said(NONE), NONE);
        due("nothing of other FALLS can be undone", x.undo(), NONE);
        type(x, "falls");
        x.go(0);
        due("falls()", x.falls(), -6);
        due("they stay", x.now(3) + x.now(4), 1);
        due("and what was done can be undone", x.undo(), 0);
    }

    private static void fallsOfAllThatMayBe() {
        StringBuilder s = new StringBuilder("falls 30 99;rain 9 99;");
        for (char c = 'a'; c < 'f'; c++) s.append("person p").append(c).append(" 9;");
        for (char c = 'a'; c < 'k'; c++) s.append("item ").append(c).append(" pa 20;");
        for (char c = 'b'; c < 'k'; c++) s.append("join a ").append(c).append(" 30;");
        for (char c = 'c'; c < 'j'; c++) s.append("join ").append(c).append(" b 1;");
        GoingOver x = of(s.toString());
        due("PERSONS", x.count(0), 5);
        due("ITEMS", x.count(1), 10);
        due("JOINS", x.count(2), 16);
        due("WEIGHT", x.person(0, 2), 200);
        due("PARTS, if he dropped", x.fate(0), 1);
        due("who()", who(x, 200), 1);
        due("heights()", heights(x, 0, 1, 1, 0, 2, 0, 3, 0, 4, 0), 30);
        due("watch()", x.watch(), 0);
        due("198 with the rain of DAY 0", x.lighten(0), 1);
        due("keep(0)", x.keep(0), 180);
        due("the heaviest of all", x.heaviest(), 0);
        due("days(60)", x.days(60), 60);
        due("go(4)", x.go(4), 0);
        due("said(NONE)", sentence(x, "pooled or weight=200"), 2);
        due("said(1)", x.said(1), 4);
        fallsFault(s + "person q 1;", 4, s.length());
        fallsFault(s + " item q 1;", 4, s.length() + 1);
        fallsFault(s + "join", 4, s.length());
        fallsFault(s + "rain", 3, s.length());
        fallsFault(s + "joins", 1, s.length());
        due("the text's bytes", s.length() < 900 ? 1 : 0, 1);
        fallsFault(padded(s.toString(), 901), 1, 900);
        fallsFault(padded(s.toString(), 899) + "rainxyzzzz", 1, 899);
        fallsFault(padded(s.toString(), 899) + "rain", 3, 899);
        fallsFault(padded(s.toString(), 900) + "rain", 1, 900);
        fallsFault(padded("falls 5 5;rain 5", 899) + "100", 2, 899);
        fallsFault(padded("falls 5 5;rain 5", 899) + "10;", 1, 900);
        fallsFault(padded("falls 5 5;rain 5", 901), 1, 900);
        fallsFault(padded("falls 5 5;rain 5", 900), 1, 900);
        fallsFault(padded("falls 5 5;rain 5", 890), 1, 890);
    }

    private static void fallsFaults() {
        fallsFault("falls", 1, 5);
        fallsFault("falls ", 1, 6);
        fallsFault("falls 5 5", 1, 9);
        fallsFault("falls 5;", 1, 7);
        fallsFault("falls 5 5 5;", 1, 10);
        fallsFault(";", 1, 0);
        fallsFault("fall 5 5;", 1, 0);
        fallsFault("goes 5 5;", 1, 0);
        fallsFault("falls 0 5;", 2, 6);
        fallsFault("falls 31 5;", 2, 6);
        fallsFault("falls 5 0;", 2, 8);
        fallsFault("falls 5 100;", 2, 8);
        fallsFault("falls 0005 5;", 1, 6);
        fallsFault("falls 5a 5;", 1, 6);
        fallsFault("falls a 5;", 1, 6);
        fallsFault("falls . 5;", 1, 6);
        fallsFault("falls 5 5;falls 0 0", 3, 10);
        fallsFault("rain 0 5;", 2, 5);
        fallsFault("rain 10 5;", 2, 5);
        fallsFault("rain 9 0;", 2, 7);
        fallsFault("rain 9 100;", 2, 7);
        fallsFault("rain 9 99;rain", 3, 10);
        fallsFault("rain 1 9;rain 1 9;", 3, 9);
        fallsFault("person a 10;", 2, 9);
        fallsFault("person 1 1;", 1, 7);
        fallsFault("person abcdefgh 1;", 1, 7);
        fallsFault("personA 1;", 1, 6);
        fallsFault("person\ta 1;", 1, 6);
        fallsFault("person \u00e9 1;", 1, 7);
        for (String word : "falls rain person item join goes frees unload load bind day or and not ready hanging pooled out whole has weight parts straw number".split(" "))
            fallsFault("person " + word + " 1;", 1, 7);
        fallsFault("person a 1;person a 1;", 3, 18);
        fallsFault("item i p 5;", 3, 7);
        fallsFault("item i i 5;", 3, 7);
        fallsFault("person a 1;item a a 5;", 3, 16);
        fallsFault("person a 1;item i a 5;item i a 5;", 3, 27);
        fallsFault("person a 1;item i a 5;person i 5;", 3, 29);
        fallsFault("person a 1;item i a 5;item k i 5;", 3, 29);
        fallsFault("person a 1;item i a 0;", 2, 20);
        fallsFault("person a 1;item i a 21;", 2, 20);
        fallsFault("person a 1;item i has 5;", 1, 18);
        String three = "person a 1;person b 1;item i a 5;item k a 5;item l b 5;";
        int n = three.length();
        fallsFault(three + "join x k 5;", 3, n + 5);
        fallsFault(three + "join a k 5;", 3, n + 5);
        fallsFault(three + "join i x 5;", 3, n + 7);
        fallsFault(three + "join i a 5;", 3, n + 7);
        fallsFault(three + "join i i 5;", 3, n + 7);
        fallsFault(three + "join i l 5;", 3, n + 7);
        fallsFault(three + "join i or 5;", 1, n + 7);
        fallsFault(three + "join i 5;", 1, n + 7);
        fallsFault(three + "join i k 0;", 2, n + 9);
        fallsFault(three + "join i k 31;", 2, n + 9);
        fallsFault(three + "join i k 3;join i k 3;", 3, n + 18);
        fallsFault(three + "join i k 3;join k i 3;", 3, n + 18);
    }

    private static void fault() {
        GoingOver x = of(TWO);
        due("fault()", x.fault(), 0);
        due("book(0)", book(x, 0, "day 61;"), -6);
        due("fault()", x.fault(), 2);
        due("book(2)", x.book(2), -1000);
        due("fault() stays", x.fault(), 2);
        due("sentence()", sentence(x, "has ann"), -5);
        due("fault()", x.fault(), 3);
        due("go(0)", x.go(0), 0);
        due("fault() stays", x.fault(), 3);
        due("book(0)", book(x, 0, "day 60;"), NONE);
        due("fault()", x.fault(), 0);
        due("sentence()", sentence(x, ""), -1);
        due("fault()", x.fault(), 1);
        due("sentence()", sentence(x, "ready"), 1);
        due("fault()", x.fault(), 0);
        type(x, "falls 3 3;falls 3 3;");
        due("falls()", x.falls(), -11);
        due("fault()", x.fault(), 3);
        due("falls()", x.falls(), 0);
        due("fault()", x.fault(), 0);
    }

    private static void person() {
        GoingOver x = of(TWO);
        int[] ann = {2, 0, 21, 1, 7, 7};
        for (int k = 0; k < 6; k++) due("person(0, " + k + ")", x.person(0, k), ann[k]);
        int[] bob = {0, 0, 13, 1, 24, 24};
        for (int k = 0; k < 6; k++) due("person(1, " + k + ")", x.person(1, k), bob[k]);
        dueThrow("person(2, 0)", () -> x.person(2, 0));
        dueThrow("person(-1, 0)", () -> x.person(-1, 0));
        dueThrow("person(0, 6)", () -> x.person(0, 6));
        dueThrow("person(0, -1)", () -> x.person(0, -1));
        dueThrow("person(least, most)", () -> x.person(Integer.MIN_VALUE, Integer.MAX_VALUE));
        due("unload(1)", x.unload(1), 0);
        int[] less = {2, 0, 14, 2, 5, 7};
        for (int k = 0; k < 6; k++) due("person(0, " + k + ") then", x.person(0, k), less[k]);
        x.unload(0);
        x.unload(2);
        int[] empty = {2, 0, 0, 0, 0, 7};
        for (int k = 0; k < 6; k++) due("person(0, " + k + ") with nothing", x.person(0, k), empty[k]);
        x.go(1);
        due("POOLED", x.person(1, 1), 2);
        due("PARTS", x.person(1, 3), 2);
        x.free(1);
        due("OUT", x.person(1, 1), 3);
        GoingOver y = of("falls 5 5;person a 0;item i a 6;");
        y.go(0);
        due("HANGING", y.person(0, 1), 1);
    }

    private static void item() {
        GoingOver x = of(TWO);
        int[] hat = {0, 5, 1, 1, 0};
        for (int k = 0; k < 5; k++) due("item(0, " + k + ")", x.item(0, k), hat[k]);
        int[] box = {0, 7, 1, 3, 0};
        for (int k = 0; k < 5; k++) due("item(1, " + k + ")", x.item(1, k), box[k]);
        int[] pin = {1, 1, 1, 4, 3};
        for (int k = 0; k < 5; k++) due("item(4, " + k + ")", x.item(4, k), pin[k]);
        due("item(0, 5)", x.item(0, 5), NONE);
        due("item(0, -1)", x.item(0, -1), NONE);
        due("item(5, 0)", x.item(5, 0), NONE);
        due("item(-1, 0)", x.item(-1, 0), NONE);
        x.unload(1);
        due("out of the barrel", x.item(1, 2), 0);
        due("its JOINS all the same", x.item(1, 3), 3);
        due("itself", x.item(1, 4), 1);
        due("a PART of its own", x.item(2, 4), 2);
        x.load(1);
        due("back", x.item(1, 2), 1);
        due("a PART of its own", x.item(1, 4), 1);
        x.bind(1);
        due("the least of its PART", x.item(2, 4), 1);
    }

    private static void join() {
        GoingOver x = of("person a 0;item i a 1;item k a 2;item l a 3;join l i 7;join k i 30;");
        int[] first = {2, 0, 7, 1};
        for (int k = 0; k < 4; k++) due("join(0, " + k + ")", x.join(0, k), first[k]);
        int[] second = {1, 0, 30, 1};
        for (int k = 0; k < 4; k++) due("join(1, " + k + ")", x.join(1, k), second[k]);
        due("join(0, 4)", x.join(0, 4), NONE);
        due("join(0, -1)", x.join(0, -1), NONE);
        due("join(2, 0)", x.join(2, 0), NONE);
        due("join(-1, 0)", x.join(-1, 0), NONE);
        x.go(0);
        due("broken", x.join(0, 3), 0);
        due("whole", x.join(1, 3), 1);
    }

    private static void now() {
        GoingOver x = of(TWO);
        int[] first = {0, 25, 3, 0, 0, 0, 0, 0};
        for (int k = 0; k < 8; k++) due("now(" + k + ")", x.now(k), first[k]);
        due("now(8)", x.now(8), NONE);
        due("now(-1)", x.now(-1), NONE);
        x.days(1);
        due("FLOW", x.now(1), 20);
        x.go(0);
        x.go(1);
        int[] second = {1, 20, 0, 1, 2, 0, 4, 1};
        for (int k = 0; k < 8; k++) due("now(" + k + ") then", x.now(k), second[k]);
        x.free(1);
        x.days(2);
        int[] third = {3, 25, 0, 0, 1, 2, 6, 2};
        for (int k = 0; k < 8; k++) due("now(" + k + ") at last", x.now(k), third[k]);
        GoingOver y = of("falls 2 30;rain 1 9;");
        due("rain each DAY", y.now(1), 39);
        y.days(1);
        due("rain each DAY", y.now(1), 39);
    }

    private static void go() {
        GoingOver x = of("falls 10 9;person a 3;person b 0;person c 0;item i a 4;item k a 5;item l a 1;item m b 9;item n b 1;join i k 6;join k l 7;join m n 30;");
        due("go(3)", x.go(3), NONE);
        due("go(-1)", x.go(-1), NONE);
        due("a: 10 above 9", x.go(0), 0);
        due("HANGING", x.person(0, 1), 1);
        due("nothing breaks", x.now(6), 0);
        due("again", x.go(0), 1);
        due("l out", x.unload(2), 0);
        due("9 is not above 9", x.person(0, 1), 2);
        due("6 is less than 7, and l's is broken", x.now(6), 3);
        due("again", x.go(0), 1);
        x.unload(4);
        x.load(4);
        x.undo();
        due("b: 9 with n out", x.go(1), 0);
        due("POOLED", x.person(1, 1), 2);
        due("c has nothing", x.go(2), 0);
        due("POOLED", x.person(2, 1), 2);
        x.free(2);
        due("OUT is not READY", x.go(2), 1);
        due("DROPPED", x.now(7), 3);
        GoingOver y = of("falls 10 9;person a 3;item i a 4;item k a 5;join i k 7;");
        due("go(0)", y.go(0), 0);
        due("what holds as much stays whole", y.now(6), 0);
        GoingOver z = of("falls 1 9;person a 9;item i a 4;item k a 5;join i k 1;");
        z.go(0);
        due("more STRAW than HIGH", z.now(6), 0);
    }

    private static void free() {
        GoingOver x = of(TWO);
        due("free(2)", x.free(2), NONE);
        due("free(-1)", x.free(-1), NONE);
        due("READY", x.free(0), 1);
        x.go(0);
        due("POOLED", x.free(0), 0);
        due("OUT", x.person(0, 1), 3);
        due("OUT again", x.free(0), 1);
        GoingOver y = of("falls 5 5;person a 0;item i a 6;");
        y.go(0);
        due("HANGING", y.free(0), 1);
        due("he stays so", y.person(0, 1), 1);
    }

    private static void unload() {
        GoingOver x = of(TWO);
        due("unload(5)", x.unload(5), NONE);
        due("unload(-1)", x.unload(-1), NONE);
        due("box", x.unload(1), 0);
        due("its JOINS break", x.now(6), 3);
        due("he stays READY", x.person(0, 1), 0);
        due("box again", x.unload(1), 1);
        x.go(0);
        due("not in comes ahead of POOLED", x.unload(1), 1);
        due("POOLED", x.unload(0), 2);
        x.free(0);
        due("OUT", x.unload(0), 2);
        due("it stays in", x.item(0, 2), 1);
        GoingOver y = of("falls 10 5;person p 2;item a p 4;item b p 3;item c p 2;item d p 1;join a b 8;join a d 7;");
        y.go(0);
        due("10 hangs", y.unload(1), 0);
        due("7 hangs still", y.person(0, 1), 1);
        due("a and b", y.now(6), 1);
        due("c", y.unload(2), 0);
        due("5 drops", y.person(0, 1), 2);
        due("7 is less than 8", y.now(6), 3);
        due("DROPPED", y.now(7), 1);
        due("d then", y.unload(3), 2);
    }

    private static void load() {
        GoingOver x = of(TWO);
        due("load(5)", x.load(5), NONE);
        due("load(-1)", x.load(-1), NONE);
        due("in", x.load(0), 1);
        x.unload(0);
        x.unload(1);
        due("hat", x.load(0), 0);
        due("in again", x.item(0, 2), 1);
        due("its JOINS stay as they are", x.now(6), 3);
        x.go(0);
        due("in comes ahead of POOLED", x.load(0), 1);
        due("POOLED", x.load(1), 2);
        due("it stays out", x.item(1, 2), 0);
        GoingOver y = of("falls 5 5;person a 0;item i a 6;item k a 7;");
        y.unload(0);
        y.go(0);
        due("HANGING", y.load(0), 2);
    }

    private static void bind() {
        GoingOver x = of(TWO);
        due("bind(3)", x.bind(3), NONE);
        due("bind(-1)", x.bind(-1), NONE);
        due("whole", x.bind(0), 1);
        x.unload(1);
        due("box is not in", x.bind(0), 2);
        due("box is not in", x.bind(1), 2);
        x.load(1);
        due("bind(1)", x.bind(1), 0);
        due("broken", x.now(6), 1);
        due("whole again", x.bind(1), 1);
        x.unload(0);
        x.go(0);
        due("hat is not in, ahead of POOLED", x.bind(0), 2);
        due("POOLED", x.bind(1), 3);
        GoingOver y = of("falls 5 5;person a 0;item i a 6;item k a 7;join i k 3;");
        y.unload(0);
        y.load(0);
        y.go(0);
        due("HANGING", y.bind(0), 3);
        due("broken still", y.now(6), 1);
    }

    private static void days() {
        GoingOver x = of(HANGS);
        due("days(0)", x.days(0), NONE);
        due("days(61)", x.days(61), NONE);
        due("days(-1)", x.days(-1), NONE);
        due("days(1)", x.days(1), 1);
        x.go(0);
        due("HANGING", x.person(0, 1), 1);
        due("days(2)", x.days(2), 2);
        due("HANGING still", x.person(0, 1), 1);
        due("days(1)", x.days(1), 1);
        due("he drops by the rain of DAY 4", x.person(0, 1), 2);
        due("8 is less than 9", x.now(6), 2);
        for (int k = 0; k < 6; k++) due("days(60)", x.days(60), 60);
        due("the DAY", x.now(0), 364);
        due("days(60)", x.days(60), 36);
        due("the DAY", x.now(0), 400);
        due("all are over", x.days(1), 0);
        due("all are over", x.days(60), 0);
        due("not as told", x.days(61), NONE);
        due("the latest that can be undone went 36", x.undo(), 7);
        due("the DAY", x.now(0), 364);
        GoingOver y = of(HANGS);
        for (int k = 0; k < 6; k++) y.days(60);
        y.days(39);
        y.go(0);
        due("HANGING on DAY 399", y.person(0, 1), 1);
        due("the last", y.days(2), 1);
        due("he drops by the rain of DAY 400", y.person(0, 1), 2);
    }

    private static void undo() {
        GoingOver x = of(TWO);
        due("none", x.undo(), NONE);
        due("go", x.go(0), 0);
        due("not done", x.go(0), 1);
        due("not done", x.free(1), 1);
        due("free", x.free(0), 0);
        due("unload", x.unload(3), 0);
        due("load", x.load(3), 0);
        due("bind", x.bind(2), 0);
        due("days", x.days(3), 3);
        due("drawn", x.drawn(2, 5), 2);
        due("not as told", x.drawn(61, 5), NONE);
        due("book", book(x, 1, "day 1;day 2;"), NONE);
        due("judged alone", book(x, 0, "day 1;"), NONE);
        due("lived not at all", book(x, 1, "ann goes;day 1;"), 0);
        due("an empty BOOK", book(x, 1, ""), NONE);
        due("DAY 8", x.now(0), 8);
        due("the BOOK", x.undo(), 7);
        due("DAY 5", x.now(0), 5);
        due("the draws", x.undo(), 6);
        due("DAY 3", x.now(0), 3);
        due("the days", x.undo(), 5);
        due("DAY 0", x.now(0), 0);
        due("whole", x.join(2, 3), 1);
        due("the binding", x.undo(), 4);
        due("broken", x.join(2, 3), 0);
        due("the loading", x.undo(), 3);
        due("not in", x.item(3, 2), 0);
        due("the unloading", x.undo(), 2);
        due("in", x.item(3, 2), 1);
        due("whole again", x.join(2, 3), 1);
        due("the letting out", x.undo(), 1);
        due("POOLED", x.person(0, 1), 2);
        due("the going", x.undo(), 0);
        due("READY", x.person(0, 1), 0);
        due("whole", x.now(6), 0);
        due("DROPPED", x.now(7), 0);
        due("none", x.undo(), NONE);
        for (int k = 0; k < 9; k++) x.days(1);
        for (int k = 7; k >= 0; k--) due("undo " + k, x.undo(), k);
        due("the ninth is not kept", x.undo(), NONE);
        due("DAY 1", x.now(0), 1);
        due("sentence()", sentence(x, "ready"), 1);
        x.go(0);
        x.undo();
        due("the SENTENCE stays", x.said(NONE), 2);
    }

    private static void fate() {
        GoingOver x = of(TWO);
        due("fate(0)", x.fate(0), 2);
        due("fate(1)", x.fate(1), 2);
        due("fate(2)", x.fate(2), NONE);
        due("fate(-1)", x.fate(-1), NONE);
        due("he has not dropped", x.person(0, 3), 1);
        x.unload(1);
        due("without box", x.fate(0), 2);
        x.unload(0);
        due("without hat", x.fate(0), 1);
        x.unload(2);
        due("with nothing", x.fate(0), 0);
        x.go(1);
        due("POOLED", x.fate(1), 2);
        x.free(1);
        due("OUT", x.fate(1), 2);
        GoingOver y = of(HANGS);
        y.days(1);
        y.go(0);
        due("HANGING, whatever the FLOW", y.fate(0), 2);
    }

    private static void straw() {
        GoingOver x = of(TWO);
        due("straw(0)", x.straw(0), 3);
        due("straw(1)", x.straw(1), 4);
        due("straw(2)", x.straw(2), NONE);
        due("straw(-1)", x.straw(-1), NONE);
        x.unload(2);
        due("hat and box hold 9", x.straw(0), 0);
        x.load(2);
        due("with no STRAW", x.straw(0), NONE);
        x.unload(2);
        x.unload(1);
        due("one alone", x.straw(0), 0);
        x.unload(0);
        due("nothing", x.straw(0), NONE);
        x.go(1);
        due("POOLED", x.straw(1), NONE);
        x.free(1);
        due("OUT", x.straw(1), NONE);
        GoingOver y = of("falls 30 9;person a 0;item i a 4;item k a 5;item l a 5;join i k 1;join k l 2;join i l 9;");
        due("the firmest two", y.straw(0), 28);
        y.days(1);
        y.go(0);
        due("HANGING", y.straw(0), 28);
        GoingOver z = of("falls 30 9;person a 0;item i a 4;item k a 5;join i k 1;");
        due("the most", z.straw(0), 29);
    }

    private static void lighten() {
        GoingOver x = of("falls 5 10;rain 2 1;person a 0;person b 0;item i a 4;item k a 6;item l a 5;item m a 6;item n b 10;");
        due("21 to 11: 10 at least", x.lighten(0), 2);
        due("i and k", x.lightened(), 3);
        due("light enough", x.lighten(1), 0);
        due("none", x.lightened(), 0);
        x.days(1);
        due("21 to 10: 11 at least", x.lighten(0), 2);
        due("k and l are 11", x.lightened(), 6);
        due("just light enough", x.lighten(1), 0);
        due("lighten(2)", x.lighten(2), NONE);
        due("lighten(-1)", x.lighten(-1), NONE);
        x.go(0);
        due("HANGING", x.lighten(0), 2);
        x.unload(0);
        due("17 to 10", x.lighten(0), 2);
        due("k and l, not the heavier two", x.lightened(), 6);
        x.go(1);
        due("POOLED", x.lighten(1), NONE);
        x.free(1);
        due("OUT", x.lighten(1), NONE);
        GoingOver y = of("falls 5 1;person a 0;item i a 2;item k a 2;");
        due("all", y.lighten(0), 2);
        due("all", y.lightened(), 3);
        y.unload(0);
        y.unload(1);
        due("he is READY with nothing", y.lighten(0), 0);
    }

    private static void lightened() {
        GoingOver x = of("falls 5 5;person a 0;person b 0;item i a 3;item k a 3;item l a 3;item m b 3;");
        due("ahead of any", x.lightened(), NONE);
        due("NONE", x.lighten(7), NONE);
        due("ahead of any", x.lightened(), NONE);
        due("two", x.lighten(0), 2);
        due("the least as bits", x.lightened(), 3);
        x.go(1);
        due("POOLED", x.lighten(1), NONE);
        due("it stays", x.lightened(), 3);
        x.falls();
        due("it stays", x.lightened(), 3);
    }

    private static void keep() {
        GoingOver x = of("falls 10 12;rain 2 3;person a 2;person b 0;item i a 5;item k a 6;item l a 7;item m a 8;item n b 16;"
            + "join i k 8;join k l 7;join l m 9;join i m 8;");
        due("l and m hold 9: 15", x.keep(0), 15);
        due("which", x.keeps(), 12);
        x.days(1);
        due("i and k hold 8: 11", x.keep(0), 11);
        due("which", x.keeps(), 3);
        due("16 is too much", x.keep(1), 0);
        due("nothing", x.keeps(), 0);
        due("keep(2)", x.keep(2), NONE);
        due("keep(-1)", x.keep(-1), NONE);
        x.go(0);
        due("HANGING", x.keep(0), 11);
        x.unload(1);
        due("i and m are 13: m alone", x.keep(0), 8);
        due("which", x.keeps(), 8);
        GoingOver y = of("falls 5 9;person a 0;item i a 4;item k a 4;item l a 4;join i l 5;join k l 5;");
        due("8 of two kinds", y.keep(0), 8);
        due("the least as bits", y.keeps(), 5);
        y.unload(1);
        y.go(0);
        due("POOLED", y.keep(0), NONE);
        y.free(0);
        due("OUT", y.keep(0), NONE);
        GoingOver z = of("falls 5 9;person a 0;");
        due("an empty one", z.keep(0), 0);
        due("by others that stay within", of("falls 5 9;person a 0;item i a 1;item k a 9;item l a 1;join i k 9;join k l 9;").keep(0), 9);
    }

    private static void keeps() {
        GoingOver x = of("falls 5 9;person a 0;item i a 4;item k a 3;join i k 5;");
        due("ahead of any", x.keeps(), NONE);
        due("NONE", x.keep(1), NONE);
        due("ahead of any", x.keeps(), NONE);
        due("both", x.keep(0), 7);
        due("both", x.keeps(), 3);
        x.go(0);
        due("POOLED", x.keep(0), NONE);
        due("it stays", x.keeps(), 3);
        x.falls();
        due("it stays", x.keeps(), 3);
    }

    private static void apart() {
        GoingOver x = of(TWO);
        due("hat, box", x.apart(0, 1), 0);
        due("hat, cup", x.apart(0, 2), 1);
        due("cup, hat", x.apart(2, 0), 1);
        due("oak, pin", x.apart(3, 4), 1);
        due("of two", x.apart(0, 3), NONE);
        due("alike", x.apart(0, 0), NONE);
        due("apart(0, 5)", x.apart(0, 5), NONE);
        due("apart(-1, 0)", x.apart(-1, 0), NONE);
        x.go(0);
        due("POOLED: hat, box", x.apart(0, 1), 0);
        due("POOLED: hat, cup", x.apart(0, 2), 1);
        x.unload(4);
        due("pin is not in", x.apart(3, 4), NONE);
        due("pin is not in", x.apart(4, 3), NONE);
        GoingOver y = of("falls 5 9;person a 0;item i a 1;item k a 2;item l a 1;join i k 5;join k l 9;");
        due("by others", y.apart(0, 2), 0);
        y.unload(1);
        due("without that", y.apart(0, 2), 1);
    }

    private static void crack() {
        GoingOver x = of("falls 5 9;person a 0;person b 0;item i a 1;item k a 2;item l a 1;item m b 1;join i k 7;join k l 6;join i l 6;");
        due("the first that holds least", x.crack(0), 1);
        due("none", x.crack(1), NONE);
        due("crack(2)", x.crack(2), NONE);
        due("crack(-1)", x.crack(-1), NONE);
        x.unload(2);
        due("those of l are broken", x.crack(0), 0);
        x.go(0);
        due("POOLED", x.crack(0), 0);
        x.free(0);
        due("OUT", x.crack(0), 0);
    }

    private static void drops() {
        GoingOver x = of(HANGS);
        due("READY", x.drops(0), NONE);
        due("drops(1)", x.drops(1), NONE);
        due("drops(-1)", x.drops(-1), NONE);
        x.days(1);
        x.go(0);
        due("on DAY 4", x.drops(0), 3);
        x.days(2);
        due("on DAY 4", x.drops(0), 1);
        x.days(1);
        due("POOLED", x.drops(0), NONE);
        GoingOver y = of(HANGS);
        for (int k = 0; k < 6; k++) y.days(60);
        y.days(39);
        y.go(0);
        due("DAY 400", y.drops(0), 1);
        GoingOver z = of("falls 5 5;rain 7 4;person a 0;item i a 10;item k a 9;");
        z.unload(0);
        z.days(60);
        for (int k = 0; k < 6; k++) z.days(60);
        due("DAY 400", z.now(0), 400);
        z.go(0);
        due("beyond DAY 400, on DAY 406", z.drops(0), 6);
        GoingOver v = of("falls 5 5;rain 7 4;person a 0;item i a 10;");
        v.go(0);
        due("never", v.drops(0), NONE);
        GoingOver u = of("falls 5 5;person a 0;item i a 10;");
        u.go(0);
        due("never", u.drops(0), NONE);
    }

    private static void who() {
        GoingOver x = of(TWO);
        due("12, 9", who(x, 12, 9), 1);
        due("9, 12", who(x, 9, 12), 1);
        due("12, 1", who(x, 12, 1), 2);
        due("21", who(x, 21), 0);
        due("12", who(x, 12), 0);
        due("12, 9, 9", who(x, 12, 9, 9), 0);
        due("12, 12", who(x, 12, 12), 0);
        due("0", who(x, 0), 0);
        due("none", who(x), NONE);
        due("six", who(x, 1, 1, 1, 1, 1, 1), 0);
        due("seven", who(x, 1, 1, 1, 1, 1, 1, 1), NONE);
        GoingOver y = of("person a 0;person b 0;person c 9;item i a 3;item k a 3;item l b 3;item m b 3;item n c 3;item o c 3;join i k 9;join n o 9;");
        due("3, 3", who(y, 3, 3), 3);
        due("6", who(y, 6), 4);
        y.go(0);
        due("POOLED too", who(y, 3, 3), 3);
        StringBuilder s = new StringBuilder("falls 1 99;person a 0;");
        for (char c = 'b'; c < 'l'; c++) s.append("item ").append(c).append(" a 20;");
        for (char c = 'c'; c < 'l'; c++) s.append("join b ").append(c).append(" 9;");
        due("200", who(of(s.toString()), 200), 1);
    }

    private static void heights() {
        GoingOver x = of(TWO);
        due("ann in 1: HIGH to 7", heights(x, 0, 1), 7);
        due("ann in 2: HIGH 8 to 11", heights(x, 0, 2), 4);
        due("ann in 3: from 12", heights(x, 0, 3), 19);
        due("bob in 1: to 4", heights(x, 1, 1), 4);
        due("both", heights(x, 0, 1, 1, 2), 3);
        due("one twice", heights(x, 0, 1, 0, 1), 7);
        due("one twice, otherwise", heights(x, 0, 1, 0, 2), 0);
        due("never", heights(x, 0, 4), 0);
        due("five", heights(x, 0, 1, 1, 2, 0, 1, 0, 1, 0, 1), 3);
        due("six", heights(x, 0, 1, 1, 2, 0, 1, 0, 1, 0, 1, 0, 1), NONE);
        due("none", heights(x), NONE);
        due("a half", heights(x, 0), NONE);
        due("a half more", heights(x, 0, 1, 1), NONE);
        due("no PERSON", heights(x, 2, 1), NONE);
        due("no PERSON behind", heights(x, 0, 1, 255, 1), NONE);
        x.go(0);
        due("POOLED in 2: all", heights(x, 0, 2), 30);
        due("POOLED in 2, not 1", heights(x, 0, 1), 0);
        x.free(0);
        due("OUT in 2: all", heights(x, 0, 2), 30);
        x.unload(4);
        due("bob with oak alone", heights(x, 1, 1), 30);
    }

    private static void lowest() {
        GoingOver x = of(TWO);
        due("ahead of any", x.lowest(), NONE);
        due("never", heights(x, 0, 4), 0);
        due("ahead of any above 0", x.lowest(), NONE);
        due("ann in 2", heights(x, 0, 2), 4);
        due("HIGH 8", x.lowest(), 8);
        due("never", heights(x, 0, 4), 0);
        due("it stays", x.lowest(), 8);
        due("NONE", heights(x), NONE);
        due("it stays", x.lowest(), 8);
        due("ann in 3", heights(x, 0, 3), 19);
        due("HIGH 12", x.lowest(), 12);
        x.falls();
        due("it stays", x.lowest(), 12);
        GoingOver y = of("person a 0;item i a 7;item k a 7;join i k 29;");
        due("in 2", heights(y, 0, 2), 1);
        due("HIGH 30", y.lowest(), 30);
    }

    private static void watch() {
        GoingOver x = of("falls 9 9;person a 0;person b 0;person c 0;item i a 1;item k a 1;item l b 1;item m b 1;item n b 1;"
            + "item o c 1;item p c 1;join i k 25;join l m 10;join m n 20;join o p 15;");
        due("ahead of any", x.watch(), NONE);
        due("b in 1: to 10", heights(x, 1, 1), 10);
        due("all leave 10: the first", x.watch(), 0);
        due("c in 2: 16 to 30", heights(x, 2, 2), 15);
        due("a leaves 10, b leaves 10: the first", x.watch(), 0);
        due("a in 1: to 25", heights(x, 0, 1), 25);
        due("b leaves 10, 10, 5, c leaves 15", x.watch(), 1);
        due("never", heights(x, 0, 3), 0);
        due("it stays", x.watch(), 1);
        x.go(1);
        due("it stays", x.watch(), 1);
        due("a in 1: to 25", heights(x, 0, 1), 25);
        due("b is POOLED: c leaves 15", x.watch(), 2);
        x.falls();
        due("it stays", x.watch(), 2);
        GoingOver y = of("person a 0;person b 0;item i b 1;item k b 1;join i k 7;");
        due("any", heights(y, 0, 0), 30);
        due("a is in 0 by all, b leaves 23", y.watch(), 1);
        GoingOver z = of("person a 0;person b 0;item i b 1;item k b 1;join i k 1;");
        due("any", heights(z, 0, 0), 30);
        due("b leaves 29, HIGH 1 being apart", z.watch(), 1);
        StringBuilder ten = new StringBuilder("person a 0;person b 0;");
        for (char c = 'c'; c < 'm'; c++) ten.append("item ").append(c).append(" b 1;");
        GoingOver v = of(ten.toString());
        due("any", heights(v, 0, 0), 30);
        due("b is in 10 by all: the first", v.watch(), 0);
        GoingOver u = of(ten + "join c d 3;");
        due("any", heights(u, 0, 0), 30);
        due("b is in 9 by three, in 10 by 27", u.watch(), 1);
    }

    private static void heaviest() {
        GoingOver x = of("falls 9 99;person a 0;person b 0;person c 0;item i b 5;item k c 3;item l c 2;item m a 4;");
        due("of like ones the first", x.heaviest(), 1);
        x.unload(0);
        due("c then", x.heaviest(), 2);
        x.unload(1);
        due("a then", x.heaviest(), 0);
        x.go(0);
        x.free(0);
        due("OUT too", x.heaviest(), 0);
        due("with nothing", of("person a 0;person b 0;").heaviest(), 0);
        due("no PERSONS", of("").heaviest(), NONE);
    }

    private static void mean() {
        GoingOver x = of(TWO);
        due("21 by 3", x.mean(0, 0), 7);
        due("21 by 3", x.mean(0, 1), 1);
        due("13 by 2", x.mean(1, 0), 13);
        due("13 by 2", x.mean(1, 1), 2);
        dueThrow("mean(2, 0)", () -> x.mean(2, 0));
        dueThrow("mean(-1, 0)", () -> x.mean(-1, 0));
        dueThrow("mean(0, 2)", () -> x.mean(0, 2));
        dueThrow("mean(0, -1)", () -> x.mean(0, -1));
        x.unload(3);
        due("1 by 1", x.mean(1, 0), 1);
        x.unload(4);
        dueThrow("nothing in it", () -> x.mean(1, 0));
        GoingOver y = of("person a 0;item i a 5;item k a 5;item l a 2;item m a 2;");
        due("14 by 4", y.mean(0, 0), 7);
        due("14 by 4", y.mean(0, 1), 2);
    }

    private static void tag() {
        GoingOver x = of(TWO);
        tagIs(x, 0, "ann ready");
        due("tag(2)", x.tag(2), NONE);
        due("tag(-1)", x.tag(-1), NONE);
        x.go(0);
        tagIs(x, 0, "ann in 2");
        x.free(0);
        tagIs(x, 0, "ann out 2");
        tagIs(x, 1, "bob ready");
        StringBuilder s = new StringBuilder("falls 30 99;person abcdxyz 0;person z 0;");
        for (char c = 'b'; c < 'l'; c++) s.append("item ").append(c).append(" abcdxyz 9;");
        GoingOver y = of(s.toString());
        tagIs(y, 0, "abcdxyz ready");
        y.go(0);
        tagIs(y, 0, "abcdxyz in 10");
        y.free(0);
        tagIs(y, 0, "abcdxyz out 10");
        y.go(1);
        tagIs(y, 1, "z in 0");
        GoingOver z = of("falls 5 5;person a 0;item i a 6;");
        z.go(0);
        tagIs(z, 0, "a hangs");
    }

    private static void byteAt() {
        GoingOver x = of(TWO);
        due("ahead of any", x.byteAt(0), NONE);
        x.tag(0);
        due("a", x.byteAt(0), 'a');
        due("blank", x.byteAt(3), ' ');
        due("y", x.byteAt(8), 'y');
        due("byteAt(9)", x.byteAt(9), NONE);
        due("byteAt(-1)", x.byteAt(-1), NONE);
        due("byteAt(most)", x.byteAt(Integer.MAX_VALUE), NONE);
        x.tag(2);
        due("it stays", x.byteAt(0), 'a');
        x.go(0);
        due("it stays", x.byteAt(8), 'y');
        x.tag(0);
        due("in 2", x.byteAt(7), '2');
        due("shorter now", x.byteAt(8), NONE);
    }

    /** The first draw of eight by a seed, worked out apart from the class. */
    private static int draw(int[] x, int n) {
        x[0] = x[0] * 1103515245 + 12345;
        return (x[0] >>> 8) % n;
    }

    /** A seed by which the draws of these sizes come out like that; 9 stands for all but 0 and 1. */
    private static int seedFor(int... sizesAndDraws) {
        for (int seed = 0; seed < 1000000; seed++) {
            int[] x = {seed};
            boolean all = true;
            for (int k = 0; k < sizesAndDraws.length && all; k += 2) {
                int got = draw(x, sizesAndDraws[k]);
                all = sizesAndDraws[k + 1] == 9 ? got > 1 : got == sizesAndDraws[k + 1];
            }
            if (all) return seed;
        }
        throw new IllegalStateException("no seed was found");
    }

    private static void drawn() {
        GoingOver x = of(TWO);
        due("drawn(0, 1)", x.drawn(0, 1), NONE);
        due("drawn(61, 1)", x.drawn(61, 1), NONE);
        due("drawn(-1, 1)", x.drawn(-1, 1), NONE);
        due("ann goes, then she is let out", x.drawn(2, seedFor(8, 0, 8, 9, 4, 9, 8, 1, 8, 9, 4, 9)), 2);
        due("OUT", x.now(5), 1);
        due("READY", x.now(2), 2);
        due("DAY 2", x.now(0), 2);
        x.undo();
        x.drawn(1, seedFor(8, 9, 8, 0, 4, 9));
        due("bob goes", x.now(4), 2);
        x.undo();
        due("DAY 0", x.now(0), 0);
        due("box is unloaded", x.drawn(1, seedFor(8, 9, 8, 9, 4, 0, 5, 1)), 1);
        due("box is out", x.item(1, 2), 0);
        due("broken", x.now(6), 3);
        x.drawn(1, seedFor(8, 9, 8, 9, 4, 0, 5, 1));
        due("box is in", x.item(1, 2), 1);
        due("broken still", x.now(6), 3);
        x.drawn(1, seedFor(8, 9, 8, 9, 4, 1, 3, 1));
        due("join 1 is bound", x.now(6), 1);
        x.go(0);
        x.drawn(1, seedFor(8, 0, 8, 9, 4, 0, 5, 0));
        due("what can't be is not done", x.item(0, 2), 1);
        GoingOver y = of("person a 0;");
        due("no ITEMS: no draw of them", y.drawn(2, seedFor(8, 9, 4, 0, 8, 0, 4, 1)), 2);
        due("POOLED", y.now(4), 1);
        y.undo();
        due("no JOINS: no draw of them", y.drawn(2, seedFor(8, 9, 4, 1, 8, 0, 4, 9)), 2);
        due("POOLED", y.now(4), 1);
        for (int k = 0; k < 6; k++) y.days(60);
        due("38 are left", y.drawn(60, 7), 38);
        due("none is left", y.drawn(1, 7), 0);
        y.undo();
        due("DAY 362", y.now(0), 362);
        GoingOver one = of("person a 0;item i a 7;");
        one.drawn(1, seedFor(8, 9, 4, 0));
        due("the only ITEM", one.item(0, 2), 0);
        GoingOver two = of("person a 0;item i a 7;item k a 7;join i k 1;");
        two.unload(0);
        two.load(0);
        two.drawn(1, seedFor(8, 9, 4, 1));
        due("the only JOIN", two.join(0, 3), 1);
        GoingOver z = of("falls 5 5;rain 2 3;person a 0;item i a 7;");
        z.days(1);
        z.drawn(1, seedFor(8, 0, 4, 9));
        due("he hangs, and drops as the day goes", z.now(4), 1);
    }

    private static void odds() {
        GoingOver x = of(TWO);
        due("odds(2, 1, 1)", x.odds(2, 1, 1), NONE);
        due("odds(-1, 1, 1)", x.odds(-1, 1, 1), NONE);
        due("odds(0, 0, 1)", x.odds(0, 0, 1), NONE);
        due("odds(0, 31, 1)", x.odds(0, 31, 1), NONE);
        for (int p = 0; p < 2; p++) {
            int sum = 0;
            for (int k = 0; k < 30; k++) {
                GoingOver y = of(TWO);
                y.drawn(20, Integer.MAX_VALUE - 4 + k);
                if (y.person(p, 1) >= 2 && y.person(p, 3) == 1) sum++;
            }
            due("odds(" + p + ", 30, ..) by drawn()", x.odds(p, 30, Integer.MAX_VALUE - 4), sum);
            due("some, not all", sum > 0 && sum < 30, true);
        }
        for (int seed = 0; seed < 300; seed++) {
            GoingOver w = of("person a 0;item i a 1;");
            w.image(0);
            w.drawn(20, seed);
            boolean whole = w.person(0, 1) >= 2 && w.person(0, 3) == 1;
            w.restore(0);
            due("odds(0, 1, " + seed + ")", w.odds(0, 1, seed), whole ? 1 : 0);
        }
        due("all stays", x.now(0) + x.now(6) + x.now(4) + x.now(5), 0);
        due("nothing can be undone", x.undo(), NONE);
        GoingOver z = of("person a 0;item i a 1;");
        z.go(0);
        due("POOLED and whole", z.odds(0, 30, 5), 30);
        GoingOver v = of("falls 2 9;person a 0;item i a 10;");
        due("never down whole: 10 above 9, or nothing in it", v.odds(0, 30, 5), 0);
    }

    private static void book() {
        GoingOver x = of(TWO);
        due("an empty one", x.book(0), NONE);
        type(x, "ann goes;");
        due("book(2)", x.book(2), -1000);
        due("book(-1)", x.book(-1), -1000);
        due("the tape stays", x.count(5), 9);
        due("book(0)", x.book(0), NONE);
        due("the tape is empty then", x.count(5), 0);
        due("READY still", x.person(0, 1), 0);
        due("book(1)", book(x, 1, "ann goes;ann\nfrees;unload oak;load oak;bind 2;day 60;"), NONE);
        due("OUT", x.person(0, 1), 3);
        due("oak is in", x.item(3, 2), 1);
        due("broken", x.now(6), 2);
        due("the DAY", x.now(0), 60);
        due("WRONG in the third", book(x, 1, "day 1;bob goes;bob goes;day 1;"), 2);
        due("lived so far", x.now(0), 61);
        due("POOLED", x.person(1, 1), 2);
        due("judged: WRONG in the second", book(x, 0, "bob frees;bob frees;"), 1);
        due("POOLED still", x.person(1, 1), 2);
        due("undo()", x.undo(), 1);
        due("one LINE alone", book(x, 1, "day 1;day 60;day 60;day 60;day 60;day 60;day 60;"), 6);
        due("undo()", x.undo(), 1);
        due("one LINE that is lived", book(x, 1, "day 1;ann goes;"), 1);
        due("the DAY", x.now(0), 61);
        due("undo()", x.undo(), 1);
        due("the DAY", x.now(0), 60);
        StringBuilder forty = new StringBuilder();
        for (int k = 0; k < 40; k++) forty.append("day 1;");
        due("forty", book(x, 0, forty.toString()), NONE);
        due("400 bytes", book(x, 0, padded(forty.toString(), 400)), NONE);
        bookFault(forty + "day 1;", 4, 240);
        bookFault(forty + " ann", 4, 241);
        bookFault(forty + "cat", 3, 240);
        bookFault(forty + "hat", 3, 240);
        bookFault(forty + "goes", 1, 240);
        bookFault(forty + ";", 1, 240);
        bookFault(padded(forty.toString(), 401), 1, 400);
        bookFault(padded("day 1;day", 399) + "60;", 1, 400);
        bookFault(padded("day 1;day", 399) + "61;", 2, 399);
        bookFault("ann", 1, 3);
        bookFault("ann;", 1, 3);
        bookFault("ann hangs;", 1, 4);
        bookFault("ann goes", 1, 8);
        bookFault("day 1;hat goes;", 3, 6);
        bookFault("cat goes;", 3, 0);
        bookFault("unload ann;", 3, 7);
        bookFault("unload day;", 1, 7);
        bookFault("load cat;", 3, 5);
        bookFault("load 1;", 1, 5);
        bookFault("bind 16;", 2, 5);
        bookFault("bind hat;", 1, 5);
        bookFault("day 0;", 2, 4);
        bookFault("day 61;", 2, 4);
        bookFault("day;", 1, 3);
        bookFault("ready;", 1, 0);
    }

    private static void told() {
        GoingOver x = of(TWO);
        toldIs(x, NONE, NONE, NONE, NONE);
        book(x, 0, "unload");
        toldIs(x, NONE, NONE, NONE, NONE);
        book(x, 0, "");
        toldIs(x, 0, 0, 0, 0);
        due("told(4)", x.told(4), NONE);
        due("told(-1)", x.told(-1), NONE);
        book(x, 0, "day 7;ann goes;ann goes;day 1;");
        toldIs(x, 1, 2, 7, 0);
        book(x, 0, "day 9;ann goes;ann frees;unload oak;bob goes;");
        toldIs(x, 0, 5, 9, 6);
        book(x, 0, "ann frees;");
        toldIs(x, 11, 0, 0, 0);
        book(x, 0, "unload hat;unload hat;");
        toldIs(x, 21, 1, 0, 1);
        book(x, 0, "ann goes;unload hat;");
        toldIs(x, 22, 1, 0, 2);
        book(x, 0, "load hat;");
        toldIs(x, 31, 0, 0, 0);
        book(x, 0, "unload hat;ann goes;load hat;");
        toldIs(x, 32, 2, 0, 3);
        book(x, 0, "bind 0;");
        toldIs(x, 41, 0, 0, 0);
        book(x, 0, "unload hat;bind 0;");
        toldIs(x, 42, 1, 0, 1);
        book(x, 0, "ann goes;bind 1;");
        toldIs(x, 43, 1, 0, 2);
        book(x, 0, "bind 3;");
        toldIs(x, 49, 0, 0, 0);
        due("bind 15", book(x, 0, "day 1;bind 15;"), 1);
        toldIs(x, 49, 1, 1, 0);
        book(x, 1, "day 60;day 60;day 60;day 60;day 60;day 60;day 39;");
        toldIs(x, 0, 7, 399, 0);
        due("fewer are left", book(x, 1, "day 2;"), 0);
        toldIs(x, 51, 0, 399, 0);
        due("none went by", x.now(0), 399);
        due("the last", book(x, 1, "day 1;day 1;"), 1);
        toldIs(x, 51, 1, 400, 0);
        x.book(2);
        book(x, 1, "cat");
        x.undo();
        x.falls();
        toldIs(x, 51, 1, 400, 0);
    }

    private static void sentence() {
        GoingOver x = of(TWO);
        due("ready", sentence(x, "ready"), 1);
        due("ones", sentence(x, "not ready and(whole or has pin)"), 5);
        due("the tape is empty then", x.count(5), 0);
        due("signs", sentence(x, "weight>0 and parts<999\nor straw=0 and number = 0"), 4);
        StringBuilder twenty = new StringBuilder("out");
        for (int k = 1; k < 20; k++) twenty.append(" or out");
        due("twenty", sentence(x, twenty.toString()), 20);
        due("200 bytes", sentence(x, padded(twenty.toString(), 200)), 20);
        due("eight within", sentence(x, "not not not not((ready or(out)))"), 9);
        due("eight", sentence(x, "not not not not not not not ready"), 8);
        due("eight", sentence(x, "(((((((ready)))))))"), 8);
        sentenceFault("not not not not not not not not ready", 4, 32);
        sentenceFault("((((((((ready))))))))", 4, 8);
        sentenceFault("((((((((", 1, 8);
        sentenceFault("((((((((hat", 1, 8);
        sentenceFault("((((((((((", 4, 8);
        sentenceFault(twenty + " and out", 4, twenty.length() + 5);
        sentenceFault(twenty + " and )", 1, twenty.length() + 5);
        sentenceFault(twenty + " and", 1, twenty.length() + 4);
        sentenceFault(padded(twenty.toString(), 201), 1, 200);
        sentenceFault(padded("ready and", 199) + "outx", 1, 199);
        sentenceFault(padded("ready and", 199) + "out", 1, 200);
        sentenceFault(padded("ready and", 205), 1, 200);
        sentenceFault("", 1, 0);
        sentenceFault("  ", 1, 2);
        sentenceFault("ready ready", 1, 6);
        sentenceFault("ready;", 1, 5);
        sentenceFault("ready)", 1, 5);
        sentenceFault("(ready", 1, 6);
        sentenceFault("()", 1, 1);
        sentenceFault("(ready;)", 1, 6);
        sentenceFault("or ready", 1, 0);
        sentenceFault("ready or", 1, 8);
        sentenceFault("not", 1, 3);
        sentenceFault("goes", 1, 0);
        sentenceFault("hat", 1, 0);
        sentenceFault("5", 1, 0);
        sentenceFault("has", 1, 3);
        sentenceFault("has cat", 3, 4);
        sentenceFault("has ann", 3, 4);
        sentenceFault("has has", 1, 4);
        sentenceFault("has 5", 1, 4);
        sentenceFault("weight 5", 1, 7);
        sentenceFault("weight ( 5", 1, 7);
        sentenceFault("weight < hat", 1, 9);
        sentenceFault("weight < 1000", 1, 9);
        sentenceFault("weight <= 5", 1, 8);
        due("numbers to 999", sentence(x, "parts < 999"), 1);
        due("noughts ahead", sentence(x, "parts < 001"), 1);
    }

    private static void saidOf(GoingOver x, String text, int... those) {
        due("'" + text + "' has no FAULT", sentence(x, text) > 0, true);
        due("'" + text + "': how many", x.said(NONE), those.length);
        for (int k = 0; k < those.length; k++) due("'" + text + "': the " + k + "-th", x.said(k), those[k]);
        due("'" + text + "': none more", x.said(those.length), NONE);
    }

    private static void said() {
        GoingOver x = of("falls 8 9;rain 5 90;person a 0;person b 3;person c 9;person d 1;item i b 4;item k b 4;item l c 10;item m d 2;join i k 5;");
        due("no SENTENCE", x.said(NONE), NONE);
        due("no SENTENCE", x.said(0), NONE);
        saidOf(x, "ready", 0, 1, 2, 3);
        due("said(-2)", x.said(-2), NONE);
        due("said(least)", x.said(Integer.MIN_VALUE), NONE);
        saidOf(x, "whole", 1, 2, 3);
        saidOf(x, "has k", 1);
        saidOf(x, "weight > 2", 1, 2);
        saidOf(x, "weight < 2", 0);
        saidOf(x, "weight = 2", 3);
        saidOf(x, "parts = 0", 0);
        saidOf(x, "straw > 1", 1, 2);
        saidOf(x, "straw = 9", 2);
        saidOf(x, "number < 2", 0, 1);
        saidOf(x, "number = 0 or number = 1 and has l", 0);
        saidOf(x, "(number = 0 or number = 2) and has l", 2);
        saidOf(x, "has l and number = 1 or number = 3", 3);
        saidOf(x, "not number = 0 and whole", 1, 2, 3);
        saidOf(x, "not (number = 0 or whole)");
        saidOf(x, "not not number = 3", 3);
        saidOf(x, "has l and (number = 0 or number = 2)", 2);
        saidOf(x, "number = 0 and (has l or ready)", 0);
        saidOf(x, "number = 1 and (ready)", 1);
        saidOf(x, "number = 1 and not (has m)", 1);
        saidOf(x, "number=0 or number=1 or not number<3", 0, 1, 3);
        x.days(1);
        x.go(2);
        x.go(1);
        x.go(0);
        x.free(0);
        saidOf(x, "ready", 3);
        saidOf(x, "hanging", 2);
        saidOf(x, "pooled", 1);
        saidOf(x, "out", 0);
        saidOf(x, "pooled and whole", 1);
        x.unload(3);
        saidOf(x, "has m");
        saidOf(x, "parts > 0", 1, 2);
        due("as it is now", sentence(x, "ready"), 1);
        due("d", x.said(0), 3);
        x.go(3);
        due("none", x.said(0), NONE);
        due("none", x.said(NONE), 0);
        GoingOver y = of("");
        due("sentence()", sentence(y, "ready"), 1);
        due("of none", y.said(NONE), 0);
        due("of none", y.said(0), NONE);
    }

    private static void image() {
        GoingOver x = of(TWO);
        due("image(2)", x.image(2), false);
        due("image(-1)", x.image(-1), false);
        due("nothing is kept", x.restore(0), false);
        due("nothing is kept", x.restore(1), false);
        due("image(0)", x.image(0), true);
        due("nothing is kept in 1", x.restore(1), false);
        x.go(0);
        due("image(1)", x.image(1), true);
        due("undo() goes on", x.undo(), 0);
        x.days(1);
        due("restore(1)", x.restore(1), true);
        due("POOLED", x.person(0, 1), 2);
        due("restore(0)", x.restore(0), true);
        due("READY", x.person(0, 1), 0);
        x.days(5);
        due("image(0) anew", x.image(0), true);
        x.days(1);
        due("restore(0)", x.restore(0), true);
        due("DAY 5", x.now(0), 5);
    }

    private static void restore() {
        GoingOver x = of(TWO);
        sentence(x, "has pin");
        x.go(0);
        x.days(4);
        x.unload(3);
        x.lighten(1);
        due("image(0)", x.image(0), true);
        type(x, HANGS);
        x.falls();
        sentence(x, "weight = 10");
        due("said(0)", x.said(0), 0);
        x.days(1);
        due("lighten(0)", x.lighten(0), 2);
        due("keep(0)", x.keep(0), 4);
        x.tag(0);
        heights(x, 0, 1);
        book(x, 0, "p frees;");
        sentence(x, "(");
        due("fault()", x.fault(), 1);
        type(x, "person x 1;");
        due("restore(-1)", x.restore(-1), false);
        due("restore(2)", x.restore(2), false);
        due("restore(1)", x.restore(1), false);
        due("the DAY", x.now(0), 1);
        due("restore(0)", x.restore(0), true);
        due("nothing can be undone", x.undo(), NONE);
        due("PERSONS", x.count(0), 2);
        due("HIGH", x.count(3), 8);
        due("the DAY", x.now(0), 4);
        due("POOLED", x.now(4), 1);
        due("DROPPED", x.now(7), 1);
        due("broken", x.now(6), 6);
        due("oak", x.item(3, 2), 0);
        due("the SENTENCE", x.said(0), 1);
        due("the SENTENCE", x.said(NONE), 1);
        due("the tape stays", x.count(5), 11);
        due("lightened() stays", x.lightened(), 6);
        due("keeps() stays", x.keeps(), 1);
        due("lowest() stays", x.lowest(), 1);
        due("watch() stays", x.watch(), 0);
        due("told() stays", x.told(0), 11);
        due("fault() stays", x.fault(), 1);
        due("the TAG stays", x.byteAt(0), 'p');
        due("book(1)", book(x, 1, "ann frees;"), NONE);
        due("and again", x.restore(0), true);
        due("POOLED", x.now(4), 1);
        GoingOver y = of(TWO);
        y.image(1);
        sentence(y, "ready");
        y.restore(1);
        due("no SENTENCE", y.said(NONE), NONE);
    }

    private static void count() {
        GoingOver x = of(TWO);
        int[] all = {2, 5, 3, 8, 20, 0};
        for (int k = 0; k < 6; k++) due("count(" + k + ")", x.count(k), all[k]);
        due("count(6)", x.count(6), NONE);
        due("count(-1)", x.count(-1), NONE);
        x.feed(0, 0, 0, 0, 0);
        due("the tape", x.count(5), 20);
        due("FLOW as told, whatever the rain", x.count(4), 20);
    }
}
