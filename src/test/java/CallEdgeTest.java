import java.util.ArrayList;
import java.util.List;

/** What may be done and asked: each sentence at the last input that is allowed and at the first that is not. */
public final class CallEdgeTest extends Checks {
    private static final int LEAST = Integer.MIN_VALUE;
    private static final int MOST = Integer.MAX_VALUE;
    /** A text without a FAULT that would tell other FALLS: by it a call that must not read the tape is found out. */
    private static final String OTHER = "falls 3 4;";

    public static void main(String[] args) {
        at = "what throws changes nothing";
        throwsChangeNothing();
        at = "what answers NONE changes nothing";
        noneChangesNothing();
        at = "new FALLS";
        newFalls();
        at = "the tape";
        tape();
        at = "FLOW and rain";
        flowAndRain();
        at = "to GO";
        going();
        at = "who DROPS";
        dropping();
        at = "to FREE, UNLOAD, LOAD, BIND";
        why();
        at = "DAY 0 to 400";
        daysInAll();
        at = "undo()";
        undoing();
        at = "no such ones";
        noSuchOnes();
        at = "PARTS";
        parts();
        at = "STRAW";
        straws();
        at = "LIGHTEN";
        lightening();
        at = "KEEP";
        keeping();
        at = "APART and CRACK";
        apartAndCrack();
        at = "DROPS";
        drops();
        at = "WHO";
        whose();
        at = "HEIGHTS";
        heightsOf();
        at = "WATCH";
        watching();
        at = "HEAVIEST and MEAN";
        heaviestAndMean();
        at = "TAG";
        tags();
        at = "DRAWN";
        drawing();
        at = "odds()";
        odds();
        at = "book()";
        books();
        at = "said()";
        saying();
        at = "image() and restore()";
        images();
        at = "all that image() keeps";
        imagesOfAll();
        at = "ahead of any, and the latest";
        latest();
        ends("the calls' edges are as due");
    }

    private static void same(String what, GoingOver x, String before) {
        due("all that is so behind " + what, state(x), before);
    }

    /** One of whom all is told: OUT, HANGING, READY; something is out, something broken; answers are there. */
    private static GoingOver busy() {
        GoingOver x = of("falls 8 9;rain 4 3;person a 2;person b 0;person c 1;item i a 4;item k a 5;item l b 10;"
            + "item m b 9;item n c 3;item o c 4;join i k 5;join l m 9;join n o 7;");
        sentence(x, "hanging or has o");
        x.days(1);
        x.go(0);
        x.free(0);
        x.go(1);
        x.unload(4);
        x.lighten(1);
        x.keep(1);
        heights(x, 1, 2);
        book(x, 0, "c goes;c goes;");
        x.tag(2);
        type(x, OTHER);
        return x;
    }

    /** "A call that throws changes nothing." */
    private static void throwsChangeNothing() {
        GoingOver x = busy();
        String before = state(x);
        dueThrow("person(3, 0)", () -> x.person(3, 0));
        dueThrow("person(-1, 0)", () -> x.person(-1, 0));
        dueThrow("person(0, 6)", () -> x.person(0, 6));
        dueThrow("person(0, -1)", () -> x.person(0, -1));
        dueThrow("mean(3, 0)", () -> x.mean(3, 0));
        dueThrow("mean(-1, 0)", () -> x.mean(-1, 0));
        dueThrow("mean(0, 2)", () -> x.mean(0, 2));
        dueThrow("mean(0, -1)", () -> x.mean(0, -1));
        same("calls that throw", x, before);
        due("undo()", x.undo(), 4);
        due("the tape is what it was", x.falls(), 1);
        due("HIGH", x.count(3), 3);
    }

    private static void noneChangesNothing() {
        GoingOver x = busy();
        String before = state(x);
        for (int none : new int[] {-1, 16, LEAST, MOST}) {
            due("go", x.go(none), NONE);
            due("free", x.free(none), NONE);
            due("unload", x.unload(none), NONE);
            due("load", x.load(none), NONE);
            due("bind", x.bind(none), NONE);
            due("lighten", x.lighten(none), NONE);
            due("keep", x.keep(none), NONE);
            due("tag", x.tag(none), NONE);
            due("image", x.image(none), false);
            due("restore", x.restore(none), false);
        }
        for (int none : new int[] {0, 61, -1, LEAST, MOST}) {
            due("days", x.days(none), NONE);
            due("drawn", x.drawn(none, 7), NONE);
        }
        for (int none : new int[] {2, -1, LEAST, MOST}) due("book", x.book(none), -1000);
        due("restore(0)", x.restore(0), false);
        due("restore(1)", x.restore(1), false);
        due("lighten: OUT", x.lighten(0), NONE);
        due("keep: OUT", x.keep(0), NONE);
        due("odds", x.odds(2, 3, 7) >= 0, true);
        due("image(0)", x.image(0), true);
        due("end(-1)", x.end(-1), false);
        due("end(11)", x.end(11), false);
        same("calls that are not done", x, before);
        due("undo()", x.undo(), 4);
        GoingOver y = busy();
        due("go", y.go(0), 1);
        due("go", y.go(1), 1);
        due("free", y.free(0), 1);
        due("free", y.free(1), 1);
        due("free", y.free(2), 1);
        due("unload", y.unload(4), 1);
        due("unload", y.unload(0), 2);
        due("load", y.load(5), 1);
        due("bind", y.bind(1), 1);
        due("bind", y.bind(2), 2);
        same("acts that can't be", y, before);
        due("undo()", y.undo(), 4);
    }

    /** "New FALLS: DAY 0, all READY, all ITEMS in barrels, all JOINS whole, no SENTENCE." */
    private static void newFalls() {
        GoingOver x = busy();
        String text = "falls 9 6;person a 3;person b 4;item i a 5;item k a 5;item l b 5;item m b 7;join i k 3;join l m 1;";
        due("falls()", falls(x, text), 9);
        int[] now = {0, 6, 3, 0, 0, 0, 0, 0};
        for (int k = 0; k < 8; k++) due("now(" + k + ")", x.now(k), now[k]);
        int[] count = {2, 4, 2, 9, 6, 0};
        for (int k = 0; k < 6; k++) due("count(" + k + ")", x.count(k), count[k]);
        for (int i = 0; i < 4; i++) due("in", x.item(i, 2), 1);
        for (int j = 0; j < 2; j++) due("whole", x.join(j, 3), 1);
        for (int p = 0; p < 2; p++) due("READY", x.person(p, 1), 0);
        due("said(NONE)", x.said(NONE), NONE);
        due("said(0)", x.said(0), NONE);
        due("undo()", x.undo(), NONE);
        due("fault()", x.fault(), 0);
        due("an empty tape is FALLS too", x.falls(), 0);
        due("PERSONS", x.count(0), 0);
        due("READY", x.now(2), 0);
        due("HIGH", x.count(3), 10);
        due("FLOW", x.now(1), 20);
        dueThrow("person(0, 0)", () -> x.person(0, 0));
        due("item(0, 0)", x.item(0, 0), NONE);
        due("join(0, 0)", x.join(0, 0), NONE);
        GoingOver y = busy();
        String before = state(y);
        due("a FAULT", falls(y, "falls 9 9;person a 3;item i a 5;rain 1 1;sun 1 1;"), -42);
        due("fault()", y.fault(), 1);
        due("a FAULT", falls(y, "falls 9 9;person a 3;falls"), -22);
        due("fault()", y.fault(), 3);
        type(y, OTHER);
        due("book(0) without a FAULT", book(y, 0, "c goes;c goes;"), 1);
        type(y, OTHER);
        same("FALLS with a FAULT", y, before);
        tagIs(y, 0, "a out 2");
        due("undo()", y.undo(), 4);
    }

    private static void tape() {
        GoingOver x = new GoingOver();
        for (int k = 1; k <= 46; k++) due("feed " + k, x.feed(0x20202020, 0x20202020, 0x20202020, 0x20202020, 0x20202020), 20 * k);
        due("to 940", x.feed(-1, -1, -1, -1, -1), 940);
        due("none come", x.feed(0, 0, 0, 0, 0), NONE);
        due("the tape", x.count(5), 940);
        due("end(940)", x.end(940), true);
        due("end(941)", x.end(941), false);
        due("end(939)", x.end(939), true);
        due("a feed to 959", x.feed(0, 0, 0, 0, 0), NONE);
        due("end(921)", x.end(921), true);
        due("a feed to 941", x.feed(0, 0, 0, 0, 0), NONE);
        due("the tape", x.count(5), 921);
        due("end(920)", x.end(920), true);
        due("a feed to 940", x.feed(0x20202020, 0x20202020, 0x20202020, 0x20202020, 0x20202020), 940);
        due("end(901)", x.end(901), true);
        due("end(902)", x.end(902), false);
        due("901 blanks", x.falls(), -901);
        due("the tape", x.count(5), 0);
        due("end(1)", x.end(1), false);
        due("end(0)", x.end(0), true);
        due("end(-1)", x.end(-1), false);
        due("feed", x.feed(0x66616c6c, 0x73203720, 0x393b7261, 0x696e2035, 0x20363b3b), 20);
        due("end(19)", x.end(19), true);
        due("end(20)", x.end(20), false);
        due("falls 7 9;rain 5 6;", x.falls(), 2);
        due("HIGH", x.count(3), 7);
        due("FLOW", x.now(1), 15);
        GoingOver y = new GoingOver();
        y.feed(0xff0180fe, 0, 0, 0, 0);
        y.end(4);
        due("bytes above 127 weigh nothing that is there", y.who(), 0);
        for (String empties : new String[] {"falls", "book", "sentence", "who", "heights"}) {
            for (String text : new String[] {"", "day 1;", "ready", "falls 3 4;", "X", "0123456789ab"}) {
                GoingOver z = of(TWO);
                type(z, text);
                switch (empties) {
                    case "falls" -> z.falls();
                    case "book" -> z.book(0);
                    case "sentence" -> z.sentence();
                    case "who" -> z.who();
                    default -> z.heights();
                }
                due("the tape behind " + empties + "() of '" + text + "'", z.count(5), 0);
                due("the next feed", z.feed(0, 0, 0, 0, 0), 20);
            }
        }
    }

    /** "The FLOW of DAY d is as told, and N more, if 'rain' was told and d is divided by EVERY." */
    private static void flowAndRain() {
        GoingOver x = of("falls 5 7;");
        for (int d = 0; d < 12; d++) {
            due("FLOW without rain", x.now(1), 7);
            x.days(1);
        }
        for (int every = 1; every <= 9; every++) {
            GoingOver y = of("falls 5 7;rain " + every + " 4;");
            for (int d = 0; d < 20; d++) {
                due("rain each " + every + " on DAY " + d, y.now(1), d % every == 0 ? 11 : 7);
                y.days(1);
            }
        }
        GoingOver z = of("falls 5 7;rain 8 4;");
        days(z, 399);
        due("DAY 399", z.now(1), 7);
        z.days(1);
        due("DAY 400", z.now(1), 11);
    }

    /** "1 he is not READY: he DROPS, if his WEIGHT is not above the FLOW of the DAY, else he is HANGING." */
    private static void going() {
        for (int flow = 9; flow <= 11; flow++) {
            GoingOver x = of("falls 5 " + flow + ";person a 0;item i a 4;item k a 6;");
            due("go(0)", x.go(0), 0);
            due("10 by a FLOW of " + flow, x.person(0, 1), flow < 10 ? 1 : 2);
            due("DROPPED", x.now(7), flow < 10 ? 0 : 1);
            due("again", x.go(0), 1);
        }
        for (int rain = 1; rain <= 3; rain++) {
            GoingOver x = of("falls 5 8;rain 1 " + rain + ";person a 0;item i a 10;");
            x.go(0);
            due("10 by a FLOW of 8 and " + rain, x.person(0, 1), rain < 2 ? 1 : 2);
        }
        GoingOver y = of("falls 5 1;person a 0;person b 0;item i b 1;");
        due("with nothing", y.go(0), 0);
        due("POOLED", y.person(0, 1), 2);
        due("in no PARTS", y.person(0, 3), 0);
        due("1 by 1", y.go(1), 0);
        due("POOLED", y.now(4), 3);
        due("DROPPED", y.now(7), 2);
        due("free(0)", y.free(0), 0);
        due("OUT goes not", y.go(0), 1);
        due("POOLED goes not", y.go(1), 1);
    }

    /** "each JOIN of his that holds less (its N) than HIGH less his STRAW breaks" */
    private static void dropping() {
        for (int straw = 0; straw <= 9; straw++) {
            GoingOver x = of("falls 12 90;person a " + straw + ";person b 9;item i a 1;item k a 1;item l a 1;item m a 1;item n b 1;"
                + "item o b 1;join i k " + (11 - straw) + ";join k l " + (12 - straw) + ";join l m " + (13 - straw) + ";join n o 1;");
            due("fate", x.fate(0), 2);
            x.go(0);
            due("broken with a STRAW of " + straw, x.now(6), 1);
            due("PARTS", x.person(0, 3), 2);
        }
        for (int high = 1; high <= 4; high++) {
            GoingOver x = of("falls " + high + " 90;person a 2;item i a 1;item k a 1;join i k 1;");
            x.go(0);
            due("broken by a HIGH of " + high, x.now(6), high < 4 ? 0 : 1);
        }
        GoingOver y = of("falls 30 90;person a 0;item i a 1;item k a 1;item l a 1;join i k 30;join k l 29;");
        y.go(0);
        due("30 holds, 29 does not", y.now(6), 2);
        GoingOver z = of("falls 9 5;rain 2 4;person a 0;person b 0;item i a 9;item k b 8;item l b 1;item m b 1;join k l 1;join l m 9;");
        z.days(1);
        z.go(0);
        z.go(1);
        due("both hang", z.now(3), 3);
        due("none broke", z.now(6), 0);
        z.days(1);
        due("9 drops by 9, 10 does not", z.now(4), 1);
        due("b's JOINS are whole", z.now(6), 0);
        due("unload(2)", z.unload(2), 0);
        due("9 drops at once", z.now(4), 3);
        due("broken", z.now(6), 3);
        due("DROPPED", z.now(7), 2);
    }

    /** "why not, the least" */
    private static void why() {
        String text = "falls 9 9;person a 0;person b 0;item i a 4;item k a 5;item l b 5;item m b 6;item n b 7;join i k 3;join l m 4;join m n 5;";
        GoingOver x = of(text);
        due("free: READY", x.free(0), 1);
        due("load: in", x.load(0), 1);
        due("bind: whole", x.bind(0), 1);
        due("unload", x.unload(0), 0);
        due("unload: not in", x.unload(0), 1);
        due("bind: one is not in", x.bind(0), 2);
        due("unload", x.unload(1), 0);
        due("bind: both are not in", x.bind(0), 2);
        due("load", x.load(0), 0);
        due("bind: the other is not in", x.bind(0), 2);
        due("load: in", x.load(0), 1);
        due("load", x.load(1), 0);
        due("broken still", x.now(6), 1);
        due("bind", x.bind(0), 0);
        due("whole", x.now(6), 0);
        due("bind: whole", x.bind(0), 1);
        due("b goes", x.go(1), 0);
        due("HANGING", x.person(1, 1), 1);
        due("free: HANGING", x.free(1), 1);
        due("load: in, HANGING", x.load(2), 1);
        due("bind: whole, HANGING", x.bind(1), 1);
        due("unload: HANGING", x.unload(2), 0);
        due("13 hangs", x.person(1, 1), 1);
        due("load: HANGING", x.load(2), 2);
        due("unload: not in, HANGING", x.unload(2), 1);
        due("bind: not in, HANGING", x.bind(1), 2);
        due("unload", x.unload(4), 0);
        due("6 drops", x.person(1, 1), 2);
        due("load: POOLED", x.load(4), 2);
        due("load: in, POOLED", x.load(3), 1);
        due("unload: POOLED", x.unload(3), 2);
        due("unload: not in, POOLED", x.unload(4), 1);
        due("bind: not in, POOLED", x.bind(2), 2);
        due("a goes", x.go(0), 0);
        due("bind: POOLED", x.bind(0), 3);
        due("free", x.free(0), 0);
        due("free: OUT", x.free(0), 1);
        due("bind: OUT", x.bind(0), 3);
        due("unload: OUT", x.unload(0), 2);
        due("load: in, OUT", x.load(0), 1);
        due("go: OUT", x.go(0), 1);
        due("free", x.free(1), 0);
        due("load: OUT", x.load(2), 2);
        due("unload: not in, OUT", x.unload(2), 1);
        GoingOver y = of(text);
        y.unload(2);
        y.load(2);
        y.unload(3);
        y.load(3);
        y.go(1);
        due("bind: HANGING", y.bind(1), 3);
        due("bind: HANGING", y.bind(2), 3);
        due("broken", y.now(6), 6);
        GoingOver z = of("falls 9 9;person a 0;item i a 4;item k a 4;item l a 4;join i k 9;join k l 9;join i l 9;");
        due("l", z.unload(2), 0);
        due("all its JOINS break, and no others", z.now(6), 6);
        due("WEIGHT", z.person(0, 2), 8);
        due("in the barrel", z.person(0, 4), 3);
        due("his all the same", z.person(0, 5), 7);
        due("it drops not, as he is READY", z.now(2), 1);
    }

    /** "A DAY (0 to 399; 400: all are over)"; "n (1 to 60) DAYS go by: how many did" */
    private static void daysInAll() {
        GoingOver x = of("falls 9 9;person a 0;item i a 10;");
        due("days(1)", x.days(1), 1);
        due("days(60)", x.days(60), 60);
        days(x, 338);
        due("DAY 399", x.now(0), 399);
        due("go(0)", x.go(0), 0);
        due("days(2)", x.days(2), 1);
        due("DAY 400", x.now(0), 400);
        due("days(1)", x.days(1), 0);
        due("days(60)", x.days(60), 0);
        due("days(0)", x.days(0), NONE);
        due("days(61)", x.days(61), NONE);
        due("drawn(1, 7)", x.drawn(1, 7), 0);
        due("drawn(60, 7)", x.drawn(60, 7), 0);
        due("drawn(61, 7)", x.drawn(61, 7), NONE);
        due("DAY 400 still", x.now(0), 400);
        due("he hangs still", x.now(3), 1);
        due("undo()", x.undo(), 7);
        due("DAY 399", x.now(0), 399);
        due("days(1)", x.days(1), 1);
        due("DAY 400", x.now(0), 400);
        GoingOver y = of("falls 9 9;");
        days(y, 340);
        due("days(60) to 400", y.days(60), 60);
        due("DAY 400", y.now(0), 400);
        y.undo();
        y.days(1);
        due("days(60) at 341", y.days(60), 59);
        GoingOver z = of("falls 9 9;rain 9 9;person a 0;item i a 10;");
        z.days(1);
        z.go(0);
        due("days(7)", z.days(7), 7);
        due("he hangs on DAY 8", z.now(3), 1);
        due("days(9)", z.days(9), 9);
        due("he dropped on DAY 9", z.now(4), 1);
        due("DROPPED once", z.now(7), 1);
    }

    /** "8 at most are kept" */
    private static void undoing() {
        GoingOver x = of("falls 9 9;person a 0;item i a 4;item k a 4;join i k 3;");
        due("none", x.undo(), NONE);
        for (int k = 0; k < 8; k++) x.days(1);
        for (int k = 7; k >= 0; k--) {
            due("undo()", x.undo(), k);
            due("DAY", x.now(0), k);
        }
        due("none", x.undo(), NONE);
        for (int k = 0; k < 9; k++) x.days(1);
        for (int k = 7; k >= 0; k--) due("undo()", x.undo(), k);
        due("none", x.undo(), NONE);
        due("DAY 1 stays", x.now(0), 1);
        for (int k = 0; k < 30; k++) x.days(1);
        due("undo()", x.undo(), 7);
        due("undo()", x.undo(), 6);
        due("undo()", x.undo(), 5);
        for (int k = 0; k < 2; k++) x.days(1);
        due("undo() of seven", x.undo(), 6);
        for (int k = 0; k < 5; k++) x.days(1);
        for (int k = 7; k >= 0; k--) {
            due("undo()", x.undo(), k);
            due("DAY", x.now(0), 26 + k);
        }
        due("none", x.undo(), NONE);
        each();
        GoingOver y = of("falls 9 9;person a 0;item i a 4;item k a 4;join i k 3;");
        y.go(0);
        y.lighten(0);
        y.tag(0);
        sentence(y, "pooled");
        type(y, "day 1;");
        due("undo()", y.undo(), 0);
        due("the tape stays", y.count(5), 6);
        due("the TAG stays", y.byteAt(2), 'i');
        due("the SENTENCE stays", y.said(NONE), 0);
        due("READY", y.now(2), 1);
        due("whole", y.now(6), 0);
        due("DROPPED", y.now(7), 0);
    }

    /** Each sort that can be undone, alone; and each that was not done leaves nothing to undo. */
    private static void each() {
        String text = "falls 9 9;person a 0;item i a 4;item k a 4;join i k 3;";
        for (int act = 0; act < 8; act++) {
            GoingOver x = of(text);
            if (act == 1 || act == 4) due("ahead", act == 1 ? x.go(0) : x.unload(0), 0);
            if (act == 5) book(x, 1, "unload i;load i;");
            String before = state(x);
            String all = whole(x);
            int done = switch (act) {
                case 0 -> x.go(0);
                case 1 -> x.free(0);
                case 2 -> x.unload(1);
                case 3 -> x.days(3) - 3;
                case 4 -> x.load(0);
                case 5 -> x.bind(0);
                case 6 -> x.drawn(5, 99) - 5;
                default -> x.days(60) - 60;
            };
            due("act " + act, done, 0);
            due("it changed something", state(x).equals(before), false);
            due("undo()", x.undo(), act == 1 || act == 4 || act == 5 ? 1 : 0);
            same("act " + act + " and undo()", x, before);
            due("all behind act " + act + " and undo()", whole(x), all);
        }
        GoingOver y = of(text);
        due("a BOOK of no LINES", book(y, 1, ""), NONE);
        due("undo()", y.undo(), NONE);
        due("the first LINE is WRONG", book(y, 1, "a frees;day 1;"), 0);
        due("undo()", y.undo(), NONE);
        due("judged", book(y, 0, "day 1;a goes;"), NONE);
        due("undo()", y.undo(), NONE);
        due("a FAULT", book(y, 1, "day 1;a goes;X"), -15);
        due("undo()", y.undo(), NONE);
        due("the second LINE is WRONG", book(y, 1, "day 1;a frees;"), 1);
        due("undo()", y.undo(), 0);
        due("DAY 0", y.now(0), 0);
        due("many LINES are undone as one", book(y, 1, "day 1;a goes;day 2;"), NONE);
        due("undo()", y.undo(), 0);
        due("DAY 0", y.now(0), 0);
        due("READY", y.now(2), 1);
        due("odds", y.odds(0, 5, 5) >= 0, true);
        due("undo()", y.undo(), NONE);
        days(y, 400);
        for (int k = 0; k < 7; k++) y.undo();
        due("none", y.undo(), NONE);
        GoingOver z = of(text);
        days(z, 400);
        for (int k = 0; k < 3; k++) {
            due("days() of none", z.days(5), 0);
            due("drawn() of none", z.drawn(5, 5), 0);
        }
        due("the seven that went", z.undo(), 6);
        due("DAY 360", z.now(0), 360);
    }

    private static void noSuchOnes() {
        GoingOver x = of(TWO);
        for (int p : new int[] {-1, 2, 5, LEAST, MOST}) {
            for (int what = 0; what < 6; what++) {
                int w = what;
                dueThrow("person(" + p + ", " + w + ")", () -> x.person(p, w));
            }
            dueThrow("mean(" + p + ", 0)", () -> x.mean(p, 0));
            dueThrow("mean(" + p + ", 1)", () -> x.mean(p, 1));
            due("go(" + p + ")", x.go(p), NONE);
            due("free(" + p + ")", x.free(p), NONE);
            due("fate(" + p + ")", x.fate(p), NONE);
            due("straw(" + p + ")", x.straw(p), NONE);
            due("lighten(" + p + ")", x.lighten(p), NONE);
            due("keep(" + p + ")", x.keep(p), NONE);
            due("crack(" + p + ")", x.crack(p), NONE);
            due("drops(" + p + ")", x.drops(p), NONE);
            due("tag(" + p + ")", x.tag(p), NONE);
            due("odds(" + p + ")", x.odds(p, 1, 1), NONE);
        }
        for (int i : new int[] {-1, 5, 10, LEAST, MOST}) {
            for (int what = 0; what < 5; what++) due("item(" + i + ", " + what + ")", x.item(i, what), NONE);
            due("unload(" + i + ")", x.unload(i), NONE);
            due("load(" + i + ")", x.load(i), NONE);
            due("apart(" + i + ", 0)", x.apart(i, 0), NONE);
            due("apart(0, " + i + ")", x.apart(0, i), NONE);
            due("apart of both", x.apart(i, i), NONE);
        }
        for (int j : new int[] {-1, 3, 16, LEAST, MOST}) {
            for (int what = 0; what < 4; what++) due("join(" + j + ", " + what + ")", x.join(j, what), NONE);
            due("bind(" + j + ")", x.bind(j), NONE);
        }
        int[] of = {6, 5, 4, 8, 6, 4};
        for (int k = 0; k < 6; k++) {
            for (int what : new int[] {-1, of[k], LEAST, MOST}) {
                switch (k) {
                    case 0 -> dueThrow("person(0, " + what + ")", () -> x.person(0, what));
                    case 1 -> due("item(0, " + what + ")", x.item(0, what), NONE);
                    case 2 -> due("join(0, " + what + ")", x.join(0, what), NONE);
                    case 3 -> due("now(" + what + ")", x.now(what), NONE);
                    case 4 -> due("count(" + what + ")", x.count(what), NONE);
                    default -> due("told(" + what + ")", x.told(what), NONE);
                }
            }
        }
        due("the last PERSON", x.person(1, 5), 24);
        due("the last ITEM", x.item(4, 4), 3);
        due("the last JOIN", x.join(2, 3), 1);
        due("the last of now()", x.now(7), 0);
        due("the last of count()", x.count(5), 0);
        for (int what : new int[] {2, -1, LEAST, MOST}) dueThrow("mean(0, " + what + ")", () -> x.mean(0, what));
        due("go(1)", x.go(1), 0);
        due("free(1)", x.free(1), 0);
        due("fate(1)", x.fate(1), 2);
        due("tag(1)", x.tag(1), 9);
        due("nothing else was done", x.now(2), 1);
        due("undo()", x.undo(), 1);
    }

    /** "those that whole JOINS hold together, directly or by others, are one PART; none: 0" */
    private static void parts() {
        StringBuilder s = new StringBuilder("falls 30 99;person a 0;");
        for (char c = 'b'; c < 'l'; c++) s.append("item ").append(c).append(" a 1;");
        GoingOver apart = of(s.toString());
        due("ten PARTS", apart.person(0, 3), 10);
        due("FATE", apart.fate(0), 10);
        due("straw(0)", apart.straw(0), NONE);
        for (int i = 0; i < 10; i++) due("itself", apart.item(i, 4), i);
        String chain = "join k f 30;join f b 30;join j c 30;join c i 30;join h d 30;join g d 30;join e g 30;join b e 30;join i h 30;";
        GoingOver x = of(s + chain);
        due("one PART by others", x.person(0, 3), 1);
        for (int i = 0; i < 10; i++) due("the least ITEM", x.item(i, 4), 0);
        due("FATE", x.fate(0), 1);
        due("straw(0)", x.straw(0), 0);
        x.unload(0);
        due("two PARTS without the first", x.person(0, 3), 2);
        int[] least = {0, 1, 1, 1, 4, 1, 1, 1, 1, 4};
        int[] order = {0, 1, 2, 3, 4, 5, 6, 7, 8, 9};
        // Without b: f and k; c, d, e, g, h, i, j.
        least[4] = 4;
        for (int i : order) due("the least ITEM of " + i, x.item(i, 4), least[i]);
        due("apart", x.apart(4, 1), 1);
        due("not apart", x.apart(4, 9), 0);
        for (int i = 1; i < 10; i++) x.unload(i);
        due("none: 0", x.person(0, 3), 0);
        due("FATE of none", x.fate(0), 0);
        due("not whole with none", sentence(x, "whole"), 1);
        due("said(NONE)", x.said(NONE), 0);
        GoingOver y = of("falls 9 99;person a 0;person b 0;item i a 1;item k b 1;item l a 1;item m b 1;join i l 9;join k m 8;");
        due("his own alone", y.person(0, 3), 1);
        due("his own alone", y.person(1, 3), 1);
        due("FATE", y.fate(0), 1);
        due("FATE", y.fate(1), 2);
        due("a PART now", y.item(3, 4), 1);
        y.go(1);
        due("then apart", y.item(3, 4), 3);
        due("FATE of one POOLED is as he is", y.fate(1), 2);
        y.free(1);
        due("and OUT", y.fate(1), 2);
        GoingOver z = of("falls 9 5;person a 0;item i a 3;item k a 3;join i k 8;");
        z.go(0);
        due("HANGING in one", z.person(0, 3), 1);
        due("if he DROPPED now, whatever the FLOW", z.fate(0), 2);
    }

    /** "how much he should have, at least, to be whole then (0 and on; those JOINS that are whole now)" */
    private static void straws() {
        for (int n = 1; n <= 30; n++) {
            GoingOver x = of("falls 12 99;person a 5;item i a 1;item k a 1;join i k " + n + ";");
            due("JOIN of " + n, x.straw(0), n < 12 ? 12 - n : 0);
        }
        due("the most", of("falls 30 99;person a 0;item i a 1;item k a 1;join i k 1;").straw(0), 29);
        due("HIGH 1", of("falls 1 99;person a 0;item i a 1;item k a 1;join i k 1;").straw(0), 0);
        due("one ITEM", of("falls 30 99;person a 0;item i a 1;").straw(0), 0);
        due("no JOIN", of("falls 1 99;person a 0;item i a 1;item k a 1;").straw(0), NONE);
        due("nothing", of("falls 1 99;person a 0;").straw(0), NONE);
        GoingOver x = of("falls 9 9;person a 0;item i a 1;item k a 1;item l a 9;join i k 5;join k l 7;join i l 3;");
        due("by the firmest two", x.straw(0), 4);
        x.unload(0);
        due("k and l", x.straw(0), 2);
        x.load(0);
        due("i is not joined now", x.straw(0), NONE);
        x.bind(2);
        due("i by l", x.straw(0), 6);
        x.go(0);
        due("HANGING", x.straw(0), 6);
        x.unload(2);
        due("POOLED", x.straw(0), NONE);
        x.free(0);
        due("OUT", x.straw(0), NONE);
        GoingOver y = of("falls 9 9;person a 0;item i a 1;");
        y.go(0);
        due("POOLED and whole", y.straw(0), NONE);
    }

    /** "the fewest ITEMS to UNLOAD now so that his WEIGHT is not above the FLOW; of as many those that weigh least, then the least as bits" */
    private static void lightening() {
        GoingOver x = of("falls 9 20;rain 2 1;person a 0;item i a 6;item k a 5;item l a 6;item m a 5;");
        due("22 by 21: one", x.lighten(0), 1);
        due("the first that weighs 5", x.lightened(), 2);
        x.days(1);
        due("22 by 20: one", x.lighten(0), 1);
        due("the first that weighs 5", x.lightened(), 2);
        x.unload(1);
        due("17 by 20", x.lighten(0), 0);
        due("none", x.lightened(), 0);
        for (int flow = 1; flow <= 21; flow++) {
            GoingOver y = of("falls 9 " + flow + ";person a 0;item i a 7;item k a 8;item l a 5;");
            int[] bits = flow >= 20 ? new int[] {0, 0} : flow >= 15 ? new int[] {1, 4} : flow >= 13 ? new int[] {1, 1}
                : flow == 12 ? new int[] {1, 2} : flow >= 8 ? new int[] {2, 5} : flow == 7 ? new int[] {2, 6}
                : flow >= 5 ? new int[] {2, 3} : new int[] {3, 7};
            due("20 by " + flow, y.lighten(0), bits[0]);
            due("which by " + flow, y.lightened(), bits[1]);
            y.go(0);
            due("HANGING, or POOLED", y.lighten(0), flow < 20 ? bits[0] : NONE);
            due("the latest", y.lightened(), bits[1]);
        }
        GoingOver z = of("falls 9 3;person a 0;person b 0;item i a 3;item k b 4;item l b 4;");
        due("3 by 3", z.lighten(0), 0);
        due("none", z.lightened(), 0);
        due("both of b", z.lighten(1), 2);
        due("as bits of all", z.lightened(), 6);
        z.unload(1);
        due("the other alone", z.lighten(1), 1);
        due("as bits of all", z.lightened(), 4);
        z.unload(2);
        due("nothing in it", z.lighten(1), 0);
        due("none", z.lightened(), 0);
        z.go(0);
        z.free(0);
        due("OUT", z.lighten(0), NONE);
        StringBuilder s = new StringBuilder("falls 1 1;person a 0;");
        for (char c = 'b'; c < 'l'; c++) s.append("item ").append(c).append(" a 20;");
        GoingOver w = of(s.toString());
        due("200 by 1: all ten", w.lighten(0), 10);
        due("all ten", w.lightened(), 1023);
    }

    /** "the most WEIGHT of some ITEMS in his barrel that is not above the FLOW and would DROP as one PART, all others being UNLOADED; of like ones the least as bits" */
    private static void keeping() {
        for (int flow = 1; flow <= 16; flow++) {
            GoingOver x = of("falls 9 " + flow + ";person a 1;item i a 4;item k a 5;item l a 6;join i k 8;join k l 8;join i l 7;");
            int[] due = flow >= 15 ? new int[] {15, 7} : flow >= 11 ? new int[] {11, 6} : flow >= 9 ? new int[] {9, 3}
                : flow >= 6 ? new int[] {6, 4} : flow == 5 ? new int[] {5, 2} : flow == 4 ? new int[] {4, 1} : new int[] {0, 0};
            due("KEEP by " + flow, x.keep(0), due[0]);
            due("which by " + flow, x.keeps(), due[1]);
        }
        due("an ITEM of 1 by a FLOW of 1", of("falls 9 1;person a 0;item i a 1;").keep(0), 1);
        GoingOver less = of("falls 9 1;person a 0;item i a 2;item k a 1;item l a 1;join k l 9;");
        due("one of two", less.keep(0), 1);
        due("the least as bits", less.keeps(), 2);
        GoingOver y = of("falls 9 10;person a 0;item i a 5;item k a 5;item l a 5;join k l 9;join i l 9;");
        due("two of 10: i and l before k and l", y.keep(0), 10);
        due("the least as bits", y.keeps(), 5);
        y.unload(0);
        due("of those in his barrel", y.keep(0), 10);
        due("k and l", y.keeps(), 6);
        y.load(0);
        due("i is not joined now", y.keep(0), 10);
        due("k and l", y.keeps(), 6);
        y.unload(1);
        due("i and l are not joined", y.keep(0), 5);
        due("i before l", y.keeps(), 1);
        y.unload(0);
        y.unload(2);
        due("nothing in it", y.keep(0), 0);
        due("nothing", y.keeps(), 0);
        GoingOver z = of("falls 9 10;person a 0;person b 0;item i a 6;item k a 6;item l b 4;join i k 9;");
        due("one of them", z.keep(0), 6);
        due("which", z.keeps(), 1);
        z.go(0);
        due("HANGING", z.keep(0), 6);
        z.unload(0);
        due("POOLED", z.keep(0), NONE);
        due("the latest", z.keeps(), 1);
        due("b's", z.keep(1), 4);
        due("as bits of all", z.keeps(), 4);
        z.go(1);
        z.free(1);
        due("OUT", z.keep(1), NONE);
        due("the latest", z.keeps(), 4);
    }

    private static void apartAndCrack() {
        GoingOver x = of("falls 9 99;person a 0;person b 0;item i a 1;item k a 1;item l a 1;item m b 1;item n b 1;"
            + "join m n 1;join i k 9;join k l 8;join i l 8;");
        due("JOINS of 9 hold", x.apart(0, 1), 0);
        due("those of 8 do not", x.apart(1, 2), 1);
        due("those of 8 do not", x.apart(2, 0), 1);
        due("alike", x.apart(1, 1), NONE);
        due("of two PERSONS", x.apart(2, 3), NONE);
        due("of two PERSONS", x.apart(3, 2), NONE);
        due("the first that holds least", x.crack(0), 2);
        due("b's", x.crack(1), 0);
        x.go(0);
        due("POOLED: those that are whole", x.crack(0), 1);
        due("POOLED: k and l", x.apart(1, 2), 1);
        due("POOLED: i and k", x.apart(1, 0), 0);
        x.free(0);
        due("OUT", x.crack(0), 1);
        due("OUT", x.apart(0, 1), 0);
        x.unload(3);
        due("all are broken", x.crack(1), NONE);
        due("m is not in the barrel", x.apart(3, 4), NONE);
        due("m is not in the barrel", x.apart(4, 3), NONE);
        x.load(3);
        due("m is in it, apart", x.apart(4, 3), 1);
        due("broken still", x.crack(1), NONE);
        x.bind(0);
        due("whole again", x.crack(1), 0);
        due("nothing in it", of("person a 0;").crack(0), NONE);
        due("no JOINS", of("person a 0;item i a 1;").crack(0), NONE);
        GoingOver y = of("person a 0;item i a 1;item k a 1;item l a 1;join i k 30;join k l 30;");
        due("of like ones the first", y.crack(0), 0);
        y.unload(0);
        due("then the other", y.crack(0), 1);
    }

    /** "behind how many DAYS he DROPS, if nothing else is done"; "NONE: not in 99 (DAY 400 no matter)" */
    private static void drops() {
        for (int every = 2; every <= 9; every++) {
            GoingOver x = of("falls 5 5;rain " + every + " 5;person a 0;item i a 10;");
            x.days(1);
            x.go(0);
            for (int d = 1; d < every; d++) {
                due("rain each " + every + ", on DAY " + d, x.drops(0), every - d);
                x.days(1);
            }
            due("POOLED", x.drops(0), NONE);
            due("he dropped", x.now(4), 1);
        }
        GoingOver never = of("falls 5 5;rain 2 5;person a 0;item i a 11;");
        due("READY", never.drops(0), NONE);
        never.go(0);
        due("11 by 10", never.drops(0), NONE);
        never.days(1);
        due("11 by 10", never.drops(0), NONE);
        never.unload(0);
        never.free(0);
        due("OUT", never.drops(0), NONE);
        GoingOver late = of("falls 5 5;rain 9 5;person a 0;item i a 10;");
        days(late, 397);
        late.go(0);
        due("on DAY 405, though it does not come", late.drops(0), 8);
        late.days(3);
        due("DAY 400", late.now(0), 400);
        due("on DAY 405", late.drops(0), 5);
        GoingOver last = of("falls 5 5;rain 8 5;person a 0;item i a 10;item k a 1;");
        days(last, 400);
        due("go(0) on DAY 400", last.go(0), 0);
        due("11 by 10 on DAY 400", last.person(0, 1), 1);
        due("never", last.drops(0), NONE);
        due("unload(1) on DAY 400", last.unload(1), 0);
        due("10 drops at once", last.person(0, 1), 2);
    }

    /** "1 to 6 bytes: WEIGHTS of PARTS, in whatever order" */
    private static void whose() {
        GoingOver x = of("falls 9 99;person a 0;person b 0;person c 0;item i a 1;item k a 2;item l a 2;item m a 3;item n a 4;"
            + "item o a 5;item p b 7;item q b 20;join p q 9;");
        due("six", who(x, 1, 2, 2, 3, 4, 5), 1);
        due("six in another order", who(x, 5, 2, 4, 1, 3, 2), 1);
        due("six that are others", who(x, 1, 2, 2, 3, 4, 4), 0);
        due("six, one twice", who(x, 1, 1, 2, 3, 4, 5), 0);
        due("five of them", who(x, 1, 2, 2, 3, 4), 0);
        due("seven", who(x, 1, 2, 2, 3, 4, 5, 1), NONE);
        due("none", who(x), NONE);
        due("one", who(x, 27), 2);
        due("one more", who(x, 28), 0);
        due("one and nothing", who(x, 27, 0), 0);
        due("nothing", who(x, 0), 0);
        due("eight", who(x, 0, 0, 0, 0, 0, 0, 0, 0), NONE);
        due("255", who(x, 255), 0);
        x.unload(7);
        due("those in his barrel", who(x, 7), 2);
        due("not those out of it", who(x, 7, 20), 0);
        x.load(7);
        due("apart now", who(x, 20, 7), 2);
        x.go(0);
        due("POOLED", who(x, 5, 4, 3, 2, 2, 1), 1);
        x.free(0);
        due("OUT", who(x, 5, 4, 3, 2, 2, 1), 1);
        GoingOver y = of("falls 9 9;person a 0;person b 1;person c 0;item i a 5;item k a 5;item l b 5;item m b 5;item n c 5;item o c 5;"
            + "join i k 8;join l m 8;join n o 9;");
        due("by FATE: a", who(y, 5, 5), 1);
        due("by FATE: b and c", who(y, 10), 6);
        y.go(1);
        due("HANGING", who(y, 10), 6);
        StringBuilder s = new StringBuilder("falls 1 99;");
        for (char p = 'a'; p < 'f'; p++) s.append("person p").append(p).append(" 0;item i").append(p).append(" p").append(p).append(" 9;");
        due("all five", who(of(s.toString()), 9), 31);
        StringBuilder t = new StringBuilder("falls 1 99;person a 0;");
        for (char c = 'b'; c < 'l'; c++) t.append("item ").append(c).append(" a 20;");
        for (char c = 'c'; c < 'l'; c++) t.append("join b ").append(c).append(" 1;");
        due("200, above 127", who(of(t.toString()), 200), 1);
        GoingOver seven = of("falls 9 99;person a 0;item i a 1;item k a 1;item l a 1;item m a 1;item n a 1;item o a 1;item p a 1;");
        due("six of seven", who(seven, 1, 1, 1, 1, 1, 1), 0);
        due("seven of seven", who(seven, 1, 1, 1, 1, 1, 1, 1), NONE);
        due("none at all", who(of(""), 5), 0);
    }

    /** "pairs of bytes: a PERSON, PARTS; 1 to 5 of them"; "HIGH of 1 to 30" */
    private static void heightsOf() {
        GoingOver x = of("falls 9 9;person a 2;person b 0;item i a 1;item k a 1;item l b 8;item m b 8;join i k 8;join l m 20;");
        due("a in 1: HIGH to 10", heights(x, 0, 1), 10);
        due("lowest()", x.lowest(), 1);
        due("a in 2: from 11", heights(x, 0, 2), 20);
        due("lowest()", x.lowest(), 11);
        due("b in 1: to 20", heights(x, 1, 1), 20);
        due("b in 2: from 21", heights(x, 1, 2), 10);
        due("lowest()", x.lowest(), 21);
        due("a in 2, b in 1", heights(x, 0, 2, 1, 1), 10);
        due("lowest()", x.lowest(), 11);
        due("a in 1, b in 2: never", heights(x, 0, 1, 1, 2), 0);
        due("five", heights(x, 0, 2, 1, 1, 0, 2, 1, 1, 0, 2), 10);
        due("five, the last otherwise", heights(x, 0, 2, 1, 1, 0, 2, 1, 1, 1, 2), 0);
        due("six", heights(x, 0, 2, 1, 1, 0, 2, 1, 1, 0, 2, 0, 2), NONE);
        due("a byte less than five", heights(x, 0, 2, 1, 1, 0, 2, 1, 1, 0), NONE);
        due("a byte more than five", heights(x, 0, 2, 1, 1, 0, 2, 1, 1, 0, 2, 0), NONE);
        due("one byte", heights(x, 0), NONE);
        due("three", heights(x, 0, 1, 1), NONE);
        due("none", heights(x), NONE);
        due("no PERSON 2", heights(x, 2, 1), NONE);
        due("no PERSON 2 at last", heights(x, 0, 2, 1, 1, 0, 2, 1, 1, 2, 0), NONE);
        due("no PERSON 255", heights(x, 255, 1), NONE);
        due("PARTS as many as a byte can tell", heights(x, 0, 255), 0);
        due("in none", heights(x, 0, 0), 0);
        due("lowest() stays", x.lowest(), 11);
        x.go(1);
        due("HANGING", heights(x, 1, 2), 10);
        due("lowest()", x.lowest(), 21);
        x.unload(2);
        due("POOLED in 1: all", heights(x, 1, 1), 30);
        due("lowest()", x.lowest(), 1);
        due("POOLED in 1, not 2", heights(x, 1, 2), 0);
        x.go(0);
        due("POOLED in 1, whatever would be", heights(x, 0, 1), 30);
        x.free(0);
        due("OUT in 1", heights(x, 0, 1), 30);
        due("OUT in 2", heights(x, 0, 2), 0);
        GoingOver y = of("person a 0;person b 0;item i a 1;item k a 1;item l b 1;item m b 1;join i k 29;join l m 30;");
        due("HIGH 30 alone", heights(y, 0, 2), 1);
        due("lowest()", y.lowest(), 30);
        due("never, as 30 is the most", heights(y, 1, 2), 0);
        due("all", heights(y, 1, 1), 30);
        GoingOver z = of("person a 9;person b 0;person c 0;item i a 1;item k a 1;join i k 1;item l b 1;item m b 1;join l m 1;");
        due("HIGH 1 to 10 by a STRAW of 9", heights(z, 0, 1), 10);
        due("HIGH 1 alone", heights(z, 1, 1), 1);
        due("lowest()", z.lowest(), 1);
        due("c in none by all", heights(z, 2, 0), 30);
        due("c in one by none", heights(z, 2, 1), 0);
    }

    /** "the greatest number of these that may still be left is the least (of like ones the first)" */
    private static void watching() {
        String text = "person a 0;person b 0;person c 0;item i a 1;item k a 1;item l b 1;item m b 1;item n c 1;item o c 1;";
        GoingOver x = of(text + "join i k 20;join l m 14;join n o 16;");
        due("all", heights(x, 0, 1), 20);
        due("b leaves 14 or 6, c 16 or 4", x.watch(), 1);
        due("b in 1", heights(x, 1, 1), 14);
        due("all leave 14: the first", x.watch(), 0);
        due("b in 2", heights(x, 1, 2), 16);
        due("a leaves 10 or 6, c 14 or 2", x.watch(), 0);
        due("a in 2", heights(x, 0, 2), 10);
        due("all leave 10", x.watch(), 0);
        due("c in 1, b in 2", heights(x, 2, 1, 1, 2), 2);
        due("lowest()", x.lowest(), 15);
        due("all leave 2", x.watch(), 0);
        due("b in 2, a in 1", heights(x, 0, 1, 1, 2), 6);
        due("c leaves 2 or 4", x.watch(), 2);
        due("none", heights(x, 0, 1, 0, 2), 0);
        due("it stays", x.watch(), 2);
        due("NONE", heights(x, 0), NONE);
        due("it stays", x.watch(), 2);
        x.go(2);
        due("it stays, though c has gone", x.watch(), 2);
        due("lowest() stays", x.lowest(), 15);
        due("b in 2, a in 1", heights(x, 0, 1, 1, 2), 6);
        due("c is POOLED: all leave 6", x.watch(), 0);
        GoingOver y = of(text + "join i k 10;join l m 15;join n o 15;");
        due("c in 1", heights(y, 2, 1), 15);
        due("a leaves 10 or 5", y.watch(), 0);
        due("c in 2", heights(y, 2, 2), 15);
        due("all leave 15", y.watch(), 0);
        y.go(0);
        due("a is POOLED", heights(y, 0, 1), 30);
        due("b and c leave 15: b", y.watch(), 1);
        y.free(0);
        due("b in 1", heights(y, 1, 1), 15);
        due("all leave 15: a, who is OUT, is the first", y.watch(), 0);
        GoingOver h = of("person a 0;person b 0;person c 0;item i a 1;item k a 1;item l a 1;item m a 1;item n b 1;item o b 1;item p b 1;"
            + "join i k 12;join k l 18;join l m 24;join n o 11;join o p 22;");
        due("any", heights(h, 2, 0), 30);
        due("a leaves 12, 6, 6 or 6, b leaves 11, 11 or 8: the greatest counts", h.watch(), 1);
        GoingOver z = of("person a 0;person b 0;item i a 1;item k a 1;item l a 1;item m b 1;item n b 1;join i k 10;join k l 20;join m n 14;");
        due("b in whatever it is", heights(z, 0, 3), 10);
        due("all leave 10", z.watch(), 0);
        due("a in 2", heights(z, 0, 2), 10);
        due("b leaves 4 or 6", z.watch(), 1);
    }

    private static void heaviestAndMean() {
        GoingOver x = of("falls 9 9;person a 0;person b 0;person c 0;item i a 4;item k b 5;item l c 5;item m c 1;");
        due("6", x.heaviest(), 2);
        x.unload(3);
        due("5, the first", x.heaviest(), 1);
        x.unload(1);
        due("5", x.heaviest(), 2);
        x.unload(2);
        due("4", x.heaviest(), 0);
        x.unload(0);
        due("all have nothing: the first", x.heaviest(), 0);
        for (int p = 0; p < 3; p++) {
            int q = p;
            dueThrow("nothing in it", () -> x.mean(q, 0));
            dueThrow("nothing in it", () -> x.mean(q, 1));
        }
        due("no PERSONS", new GoingOver().heaviest(), NONE);
        GoingOver y = of("falls 9 9;person a 0;item i a 6;item k a 3;item l a 3;item m a 8;");
        int[][] means = {{5, 1}, {14, 3}, {11, 2}, {8, 1}};
        for (int out = 0; out < 4; out++) {
            due("above, without " + out, y.mean(0, 0), means[out][0]);
            due("below, without " + out, y.mean(0, 1), means[out][1]);
            y.unload(out);
        }
        GoingOver z = of("falls 9 99;person a 0;item i a 1;item k a 20;");
        z.go(0);
        due("POOLED", z.mean(0, 0), 21);
        due("POOLED", z.mean(0, 1), 2);
        StringBuilder s = new StringBuilder("person a 0;");
        for (char c = 'b'; c < 'l'; c++) s.append("item ").append(c).append(" a 20;");
        due("200 by 10", of(s.toString()).mean(0, 0), 20);
        due("200 by 10", of(s.toString()).mean(0, 1), 1);
        due("154 by 10", of(s.toString().replace("b a 20", "b a 4").replace("c a 20", "c a 4").replace("d a 20", "d a 6")).mean(0, 0), 77);
        due("154 by 10", of(s.toString().replace("b a 20", "b a 4").replace("c a 20", "c a 4").replace("d a 20", "d a 6")).mean(0, 1), 5);
    }

    private static void tags() {
        GoingOver x = of("falls 9 9;person a 0;person bcdefgh 0;person c 0;item i a 1;item k bcdefgh 10;item l bcdefgh 4;");
        due("ahead of any", x.byteAt(0), NONE);
        tagIs(x, 1, "bcdefgh ready");
        x.go(1);
        tagIs(x, 1, "bcdefgh hangs");
        due("the last byte", x.byteAt(12), 's');
        due("behind it", x.byteAt(13), NONE);
        due("ahead of it", x.byteAt(-1), NONE);
        due("least", x.byteAt(LEAST), NONE);
        due("most", x.byteAt(MOST), NONE);
        x.unload(2);
        tagIs(x, 1, "bcdefgh hangs");
        x.unload(1);
        tagIs(x, 1, "bcdefgh in 0");
        x.free(1);
        tagIs(x, 1, "bcdefgh out 0");
        x.go(0);
        due("no such one", x.tag(3), NONE);
        due("the latest stays", x.byteAt(0), 'b');
        tagIs(x, 0, "a in 1");
        due("a longer one is gone", x.byteAt(6), NONE);
        StringBuilder s = new StringBuilder("falls 9 99;person a 0;");
        for (char c = 'b'; c < 'l'; c++) s.append("item ").append(c).append(" a 1;");
        GoingOver y = of(s + "join b c 8;");
        tagIs(y, 0, "a ready");
        y.go(0);
        tagIs(y, 0, "a in 10");
        y.free(0);
        tagIs(y, 0, "a out 10");
        GoingOver z = of(s + "join b c 9;");
        z.go(0);
        tagIs(z, 0, "a in 9");
    }

    private static int draw(long[] x, int n) {
        x[0] = (x[0] * 1103515245L + 12345L) & 0xffffffffL;
        return (int) ((x[0] >> 8) % n);
    }

    /** The DAYS by draws told step by step, as the document tells them, by the acts of the class. */
    private static void drawnByHand(GoingOver y, int n, int seed) {
        long[] x = {seed & 0xffffffffL};
        for (int d = 0; d < n && y.now(0) < 400; d++) {
            for (int p = 0; p < y.count(0); p++) {
                int drawn = draw(x, 8);
                if (drawn == 0) y.go(p);
                if (drawn == 1) y.free(p);
            }
            int drawn = draw(x, 4);
            if (drawn == 0 && y.count(1) > 0) {
                int i = draw(x, y.count(1));
                if (y.item(i, 2) == 1) y.unload(i);
                else y.load(i);
            }
            if (drawn == 1 && y.count(2) > 0) y.bind(draw(x, y.count(2)));
            y.days(1);
        }
    }

    /** "x becomes x * 1103515245 + 12345 (an int, wrapping), the draw is (x >>> 8) % n" */
    private static void drawing() {
        String[] texts = {TWO, HANGS, "falls 9 9;", "person a 0;person b 1;", "falls 9 5;person a 0;item i a 6;",
            "falls 9 9;person a 0;person b 1;person c 2;person d 3;person e 4;item i a 5;item k a 6;item l c 10;join i k 9;"};
        int[] seeds = {0, 1, -1, 7, MOST, LEAST, 0x7fffff00, 0x80000001, 123456789, -987654321};
        for (String text : texts) {
            for (int seed : seeds) {
                GoingOver x = of(text);
                GoingOver y = of(text);
                due("drawn(30, " + seed + ")", x.drawn(30, seed), 30);
                drawnByHand(y, 30, seed);
                same("DAYS drawn by " + seed + " of '" + text + "'", x, state(y));
                due("undo()", x.undo(), 0);
                due("DAY 0", x.now(0), 0);
                due("all READY", x.now(2), (1 << x.count(0)) - 1);
            }
        }
        GoingOver x = of(TWO);
        due("drawn(1, 1)", x.drawn(1, 1), 1);
        due("drawn(60, 1)", x.drawn(60, 1), 60);
        due("DAY 61", x.now(0), 61);
        due("drawn(0, 1)", x.drawn(0, 1), NONE);
        due("drawn(61, 1)", x.drawn(61, 1), NONE);
        due("undo()", x.undo(), 1);
        for (int seed = 0; seed < 40; seed++) {
            GoingOver late = of(TWO);
            GoingOver twin = of(TWO);
            days(late, 399);
            days(twin, 399);
            due("drawn(60) on DAY 399", late.drawn(60, seed), 1);
            drawnByHand(twin, 1, seed);
            same("one DAY drawn by " + seed, late, state(twin));
            due("drawn() on DAY 400", late.drawn(60, seed), 0);
            same("none drawn", late, state(twin));
        }
    }

    /** "Of n (1 to 30) seeds x, x and 1, .. by how many a PERSON is POOLED or OUT and whole behind 20 DAYS DRAWN from now on" */
    private static void odds() {
        String text = "falls 9 12;rain 5 9;person a 3;person b 0;item i a 5;item k a 6;item l b 10;item m b 9;join i k 6;join l m 9;";
        for (int first : new int[] {0, MOST - 12, -7, LEAST}) {
            boolean[][] whole = new boolean[2][30];
            for (int k = 0; k < 30; k++) {
                GoingOver y = of(text);
                y.days(2);
                y.unload(2);
                y.drawn(20, first + k);
                for (int p = 0; p < 2; p++) whole[p][k] = y.person(p, 1) >= 2 && y.person(p, 3) == 1;
            }
            GoingOver x = of(text);
            x.days(2);
            x.unload(2);
            String before = state(x);
            for (int p = 0; p < 2; p++) {
                int sum = 0;
                for (int n = 1; n <= 30; n++) {
                    sum += whole[p][n - 1] ? 1 : 0;
                    due("odds(" + p + ", " + n + ", " + first + ")", x.odds(p, n, first), sum);
                }
                due("odds of none", x.odds(p, 0, first), NONE);
                due("odds of 31", x.odds(p, 31, first), NONE);
                due("odds of fewer than none", x.odds(p, LEAST, first), NONE);
                due("odds of many", x.odds(p, MOST, first), NONE);
            }
            same("odds()", x, before);
            due("undo()", x.undo(), 1);
        }
        GoingOver last = of("person a 0;item i a 1;");
        days(last, 400);
        due("on DAY 400 no DAY is drawn", last.odds(0, 30, 1), 0);
        last.go(0);
        due("and who is POOLED is so", last.odds(0, 30, 1), 30);
        last.free(0);
        due("or OUT", last.odds(0, 30, 1), 30);
        StringBuilder star = new StringBuilder("falls 9 1;person a 0;");
        for (char c = 'b'; c < 'l'; c++) star.append("item ").append(c).append(" a 20;");
        for (char c = 'c'; c < 'l'; c++) star.append("join b ").append(c).append(" 9;");
        GoingOver hangs = of(star.toString());
        hangs.go(0);
        due("who hangs in one PART is not down", hangs.odds(0, 30, 1), 0);
        due("he hangs", hangs.now(3), 1);
        due("in one PART", hangs.person(0, 3), 1);
        GoingOver none = of("person a 0;");
        none.go(0);
        due("nothing is not whole", none.odds(0, 30, 1), 0);
        GoingOver two = of("person a 0;item i a 1;item k a 1;");
        two.go(0);
        due("two PARTS are not whole", two.odds(0, 30, 1), 0);
        GoingOver late = of("person a 0;item i a 1;");
        days(late, 399);
        int sum = 0;
        for (int seed = 0; seed < 30; seed++) sum += draw(new long[] {seed}, 8) == 0 ? 1 : 0;
        due("on DAY 399 one is drawn", late.odds(0, 30, 0), sum);
        due("some go", sum > 0 && sum < 30, true);
    }

    /** "judged, all staying as it is (lives 0), or lived as far as it is not WRONG (1)" */
    private static void books() {
        String text = "falls 9 9;person a 0;person b 0;item i a 4;item k a 5;item l b 5;item m b 5;join i k 3;join l m 9;";
        String[] lines = {"day 60;a goes;a goes;", "a frees;", "unload i;unload i;", "a goes;unload i;", "load i;",
            "unload k;b goes;a goes;load k;", "bind 0;", "unload l;bind 1;", "a goes;bind 0;", "day 3;bind 2;", "bind 15;",
            "a goes;a frees;bind 0;", "b goes;load l;", "unload l;load l;b goes;bind 1;", "a goes;a frees;a frees;",
            "b goes;b frees;"};
        int[][] told = {{1, 2, 60, 1}, {11, 0, 0, 0}, {21, 1, 0, 1}, {22, 1, 0, 1}, {31, 0, 0, 0}, {32, 3, 0, 1}, {41, 0, 0, 0},
            {42, 1, 0, 2}, {43, 1, 0, 1}, {49, 1, 3, 0}, {49, 0, 0, 0}, {43, 2, 0, 1}, {31, 1, 0, 0}, {43, 3, 0, 2}, {11, 2, 0, 1},
            {11, 1, 0, 0}};
        for (int k = 0; k < lines.length; k++) {
            for (int lives = 0; lives < 2; lives++) {
                GoingOver x = of(text);
                due("book(" + lives + ") of '" + lines[k] + "'", book(x, lives, lines[k]), told[k][1]);
                due("fault()", x.fault(), 0);
                toldIs(x, told[k][0], told[k][1], told[k][2], told[k][3]);
                due("the DAY", x.now(0), lives * told[k][2]);
                due("broken", x.now(6), lives * told[k][3]);
                due("undo()", x.undo(), lives == 1 && told[k][1] > 0 ? 0 : NONE);
                due("the DAY", x.now(0), 0);
                due("broken", x.now(6), 0);
            }
        }
        GoingOver late = of(text);
        days(late, 340);
        due("60 are left", book(late, 0, "day 60;"), NONE);
        toldIs(late, 0, 1, 400, 0);
        late.days(1);
        due("59 are left", book(late, 0, "day 60;"), 0);
        toldIs(late, 51, 0, 341, 0);
        due("59 are left", book(late, 1, "day 59;a goes;day 1;b goes;"), 2);
        toldIs(late, 51, 2, 400, 1);
        due("DAY 400", late.now(0), 400);
        due("acts on DAY 400", book(late, 1, "a frees;unload l;load l;bind 1;day 1;"), 4);
        toldIs(late, 51, 4, 400, 1);
        GoingOver y = of(text);
        type(y, "day 5;");
        for (int lives : new int[] {2, -1, LEAST, MOST}) {
            due("book(" + lives + ")", y.book(lives), -1000);
            due("the tape stays", y.count(5), 6);
            due("told(0)", y.told(0), NONE);
        }
        due("book(1)", y.book(1), NONE);
        due("the DAY", y.now(0), 5);
        toldIs(y, 0, 1, 5, 0);
        due("a FAULT", book(y, 1, "day 1;day"), -11);
        toldIs(y, 0, 1, 5, 0);
        due("a FAULT at 0", book(y, 1, "X"), -2);
        due("a FAULT at the 400th", book(y, 1, padded("day 1;", 401)), -402);
        type(y, "X");
        due("book(2)", y.book(2), -1000);
        due("fault() stays", y.fault(), 1);
        toldIs(y, 0, 1, 5, 0);
        due("the DAY", y.now(0), 5);
        due("an empty BOOK", book(y, 1, ""), NONE);
        toldIs(y, 0, 0, 5, 0);
        due("fault()", y.fault(), 0);
        due("the 40th is WRONG", book(y, 0, "day 1;".repeat(39) + "a frees;"), 39);
        toldIs(y, 11, 39, 44, 0);
    }

    private static void saidOf(GoingOver x, String text, int... those) {
        due("fault() of '" + text + "'", sentence(x, text) > 0, true);
        due("how many of '" + text + "'", x.said(NONE), those.length);
        for (int k = 0; k < those.length; k++) due("the " + k + "-th of '" + text + "'", x.said(k), those[k]);
        due("one more of '" + text + "'", x.said(those.length), NONE);
    }

    private static void saying() {
        GoingOver x = of("falls 9 9;person a 0;person b 9;person c 5;person d 4;person e 4;item i b 5;item k c 5;item l c 4;item m d 10;join k l 9;");
        due("no SENTENCE", x.said(NONE), NONE);
        due("no SENTENCE", x.said(0), NONE);
        saidOf(x, "ready", 0, 1, 2, 3, 4);
        due("said(4)", x.said(4), 4);
        for (int k : new int[] {5, -2, LEAST, MOST}) due("said(" + k + ")", x.said(k), NONE);
        saidOf(x, "weight<9", 0, 1, 4);
        saidOf(x, "weight=9", 2);
        saidOf(x, "weight>9", 3);
        saidOf(x, "weight>8", 2, 3);
        saidOf(x, "weight=0", 0, 4);
        saidOf(x, "weight>999");
        saidOf(x, "weight<999", 0, 1, 2, 3, 4);
        saidOf(x, "parts<1", 0, 4);
        saidOf(x, "parts=1", 1, 2, 3);
        saidOf(x, "whole", 1, 2, 3);
        saidOf(x, "straw<4", 0);
        saidOf(x, "straw=4", 3, 4);
        saidOf(x, "straw>4", 1, 2);
        saidOf(x, "straw>9");
        saidOf(x, "number<1", 0);
        saidOf(x, "number=4", 4);
        saidOf(x, "number>3", 4);
        saidOf(x, "number>4");
        saidOf(x, "has i", 1);
        saidOf(x, "has l", 2);
        saidOf(x, "has m or has k", 2, 3);
        saidOf(x, "number=0 or number=1 and number=2", 0);
        saidOf(x, "number=1 and number=2 or number=0", 0);
        saidOf(x, "(number=0 or number=1) and number=1", 1);
        saidOf(x, "not number=0 and number<2", 1);
        saidOf(x, "not (number=0 and number<2)", 1, 2, 3, 4);
        saidOf(x, "not number=0 or number=0", 0, 1, 2, 3, 4);
        saidOf(x, "number=3 or not number<2 and not number=4", 2, 3);
        x.unload(2);
        saidOf(x, "has l");
        saidOf(x, "has k and whole and weight=5", 2);
        x.load(2);
        saidOf(x, "has l and not whole and parts=2", 2);
        x.go(1);
        x.go(3);
        x.go(4);
        x.free(4);
        saidOf(x, "ready", 0, 2);
        saidOf(x, "hanging", 3);
        saidOf(x, "pooled", 1);
        saidOf(x, "out", 4);
        saidOf(x, "pooled or out", 1, 4);
        due("a FAULT", sentence(x, "hanging and"), -12);
        due("it stays", x.said(1), 4);
        due("a FAULT", sentence(x, ""), -1);
        due("it stays", x.said(NONE), 2);
        GoingOver now = of("falls 9 9;person a 0;person b 0;item i a 1;item k a 1;item l b 1;item m b 1;join i k 8;");
        saidOf(now, "whole", 0);
        saidOf(now, "parts=1", 0);
        saidOf(now, "parts=2 and not whole", 1);
        now.go(0);
        saidOf(now, "whole");
        saidOf(now, "parts=2", 0, 1);
        GoingOver none = new GoingOver();
        due("said of none", sentence(none, "ready"), 1);
        due("how many", none.said(NONE), 0);
        due("said(0)", none.said(0), NONE);
        due("new FALLS have none", falls(none, "person a 0;"), 1);
        due("said(NONE)", none.said(NONE), NONE);
    }

    private static void images() {
        GoingOver x = new GoingOver();
        due("nothing is kept", x.restore(0), false);
        due("nothing is kept", x.restore(1), false);
        for (int k : new int[] {-1, 2, LEAST, MOST}) {
            due("image(" + k + ")", x.image(k), false);
            due("restore(" + k + ")", x.restore(k), false);
        }
        due("nothing is kept", x.restore(0), false);
        due("image(1)", x.image(1), true);
        due("nothing is kept in 0", x.restore(0), false);
        falls(x, TWO);
        sentence(x, "pooled");
        x.go(0);
        x.days(2);
        x.unload(4);
        due("image(0)", x.image(0), true);
        String kept = state(x);
        due("undo() goes on behind image()", x.undo(), 2);
        falls(x, HANGS);
        sentence(x, "ready");
        x.days(7);
        due("image(1) anew", x.image(1), true);
        String other = state(x);
        x.go(0);
        x.unload(1);
        type(x, "");
        due("restore(0)", x.restore(0), true);
        same("restore(0)", x, kept);
        due("nothing can be undone", x.undo(), NONE);
        same("an undo() of none", x, kept);
        tagIs(x, 0, "ann in 2");
        due("bob goes", book(x, 1, "bob goes;bob frees;"), NONE);
        due("undo() of what came behind", x.undo(), 0);
        x.go(1);
        due("restore(1)", x.restore(1), true);
        due("nothing can be undone", x.undo(), NONE);
        tagIs(x, 0, "p ready");
        due("the DAY", x.now(0), 7);
        due("said(NONE)", x.said(NONE), 1);
        due("restore(0) once more", x.restore(0), true);
        due("undo()", x.undo(), NONE);
        due("broken", x.now(6), 6);
        due("DROPPED", x.now(7), 1);
        due("SENTENCE", x.said(0), 0);
        due("restore(0) twice", x.restore(0), true);
        due("broken", x.now(6), 6);
        x.go(1);
        due("restore(2) does nothing", x.restore(2), false);
        due("undo() goes on", x.undo(), 0);
        due("what was kept differs", kept.equals(other), false);
        GoingOver y = of(TWO);
        y.image(0);
        sentence(y, "ready");
        type(y, "day 1;");
        y.go(0);
        y.restore(0);
        due("there was no SENTENCE", y.said(NONE), NONE);
        due("the tape stays", y.count(5), 6);
        due("and is a BOOK", y.book(1), NONE);
        due("DAY 1", y.now(0), 1);
        due("new FALLS do not touch what is kept", y.falls(), 0);
        due("restore(0)", y.restore(0), true);
        due("PERSONS", y.count(0), 2);
    }

    /** "FALLS, all that is so and the SENTENCE are kept": each number of them, with others ahead of it and behind. */
    private static void imagesOfAll() {
        String first = "falls 12 13;rain 4 5;person a 3;person b 7;item i a 4;item k b 9;item l a 6;item m b 6;join l i 8;join k m 11;";
        String second = "falls 7 30;rain 3 2;person x 1;person y 2;item q y 3;item r y 2;item s x 1;item t y 5;item u x 20;"
            + "join q r 2;join t r 7;join s u 30;";
        for (int k = 0; k < 2; k++) {
            GoingOver x = of(first);
            sentence(x, "weight > 11 and not number = 0");
            x.days(3);
            x.unload(2);
            x.load(2);
            x.go(1);
            String one = whole(x);
            due("image()", x.image(k), true);
            falls(x, second);
            sentence(x, "weight < 20 or hanging");
            x.days(1);
            x.go(1);
            x.unload(4);
            String two = whole(x);
            due("they are others", one.equals(two), false);
            due("image() of the others", x.image(1 - k), true);
            due("restore()", x.restore(k), true);
            due("all as kept", whole(x), one);
            due("the NAMES of PERSONS", book(x, 0, "a goes;b goes;"), 1);
            due("the NAMES of ITEMS: b drops without k", book(x, 0, "unload i;unload l;unload k;unload m;"), 3);
            due("so m can't be unloaded", x.told(0), 22);
            due("FLOW on DAY 3", x.now(1), 13);
            x.days(1);
            due("FLOW on DAY 4", x.now(1), 18);
            due("restore() of the others", x.restore(1 - k), true);
            due("all as kept", whole(x), two);
            due("the NAMES of ITEMS", book(x, 0, "load u;unload u;unload s;unload q;"), 3);
            x.days(1);
            due("FLOW on DAY 2", x.now(1), 30);
            x.days(1);
            due("FLOW on DAY 3", x.now(1), 32);
            due("restore()", x.restore(k), true);
            due("all as kept", whole(x), one);
        }
        GoingOver none = of(first);
        none.image(0);
        falls(none, "falls 2 3;");
        none.image(1);
        none.restore(0);
        due("rain again", none.now(1), 18);
        none.restore(1);
        due("no rain", none.now(1), 3);
        due("no PERSONS", none.count(0), 0);
        due("'falls' can be told anew", falls(none, "falls 4 5;rain 1 1;"), 2);
        none.restore(0);
        due("'falls' can be told anew", falls(none, "falls 4 5;rain 1 1;"), 2);
    }

    /** "ahead of any"; "by the latest .. that was not NONE"; "by the latest heights() above 0" */
    private static void latest() {
        GoingOver x = of(TWO);
        due("fault()", x.fault(), 0);
        for (int round = 0; round < 2; round++) {
            due("lightened()", x.lightened(), NONE);
            due("keeps()", x.keeps(), NONE);
            due("lowest()", x.lowest(), NONE);
            due("watch()", x.watch(), NONE);
            due("byteAt(0)", x.byteAt(0), NONE);
            for (int k = -1; k < 5; k++) due("told(" + k + ")", x.told(k), NONE);
            due("lighten(2)", x.lighten(2), NONE);
            due("keep(2)", x.keep(2), NONE);
            due("heights() of none", heights(x, 0, 9), 0);
            due("heights() NONE", heights(x, 9, 0), NONE);
            due("tag(2)", x.tag(2), NONE);
            due("book(3)", x.book(3), -1000);
            due("a FAULT", book(x, 0, "day"), -5);
        }
        due("lighten(0)", x.lighten(0), 0);
        due("lightened()", x.lightened(), 0);
        due("keep(0)", x.keep(0), 12);
        due("keeps()", x.keeps(), 3);
        due("heights()", heights(x, 0, 2), 4);
        due("book(0)", book(x, 0, "ann goes;ann goes;"), 1);
        x.tag(0);
        List<String> seen = new ArrayList<>();
        String last = x.lightened() + " " + x.keeps() + " " + x.lowest() + " " + x.watch() + " " + x.byteAt(0) + " " + x.told(0);
        seen.add(last);
        x.go(0);
        x.free(0);
        due("OUT", x.lighten(0), NONE);
        due("OUT", x.keep(0), NONE);
        due("heights() of none", heights(x, 0, 9), 0);
        due("heights() NONE", heights(x, 0, 2, 0), NONE);
        x.tag(-1);
        book(x, 1, "bob");
        x.book(5);
        x.undo();
        falls(x, HANGS);
        falls(x, "X");
        x.image(0);
        x.restore(0);
        seen.add(x.lightened() + " " + x.keeps() + " " + x.lowest() + " " + x.watch() + " " + x.byteAt(0) + " " + x.told(0));
        due("the latest answers stay", seen.get(1), last);
        due("the kinds", falls(x, "falls 0 0;"), -7);
        due("2", x.fault(), 2);
        due("3", book(x, 0, "cat goes;") == -2 ? x.fault() : 0, 3);
        due("1", sentence(x, "cat") == -1 ? x.fault() : 0, 1);
        due("4", sentence(x, "((((((((ready") == -9 ? x.fault() : 0, 4);
        x.restore(0);
        x.image(1);
        x.days(1);
        due("others leave it", x.fault(), 4);
        due("-1000 leaves it", x.book(9), -1000);
        due("4", x.fault(), 4);
        due("0", sentence(x, "ready") == 1 ? x.fault() : 9, 0);
        due("-1000 leaves it", x.book(-9), -1000);
        due("0", x.fault(), 0);
        due("1", book(x, 1, "day 1") == -7 ? x.fault() : 0, 1);
        due("0", book(x, 1, "day 1;day 1;p frees;") == 2 ? x.fault() : 9, 0);
        due("1", sentence(x, "ready ready") == -7 ? x.fault() : 0, 1);
        due("0", falls(x, "rain 1 1;") == 1 ? x.fault() : 9, 0);
    }
}
