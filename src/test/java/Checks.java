import java.nio.charset.StandardCharsets;
import java.util.NoSuchElementException;

/** What the tests by hand share: answers held against those that are due, and texts fed to the tape. */
class Checks {
    static final int NONE = GoingOver.NONE;

    /** Two PERSONS; ann weighs 21 and needs a STRAW of 3, bob weighs 13 and needs 4. */
    static final String TWO = "falls 8 20;rain 3 5;person ann 2;person bob 0;item hat ann 5;item box ann 7;"
        + "item cup ann 9;item oak bob 12;item pin bob 1;join hat box 9;join box cup 5;join oak pin 4;";
    /** One who weighs 10 and hangs on days without rain: a flow of 5, and 6 more each fourth day. */
    static final String HANGS = "falls 10 5;rain 4 6;person p 1;item a p 4;item b p 3;item c p 3;join a b 9;"
        + "join b c 8;";

    static final String[] KEYWORDS = ("falls rain person item join goes frees unload load bind day or and not ready "
        + "hanging pooled out whole has weight parts straw number").split(" ");

    static int wrong = 0;
    static String at = "";

    private static void tell(String what) {
        wrong++;
        System.out.println(at + ": " + what);
    }

    static void due(String what, long got, long want) {
        if (got != want) tell(what + " answered " + got + ", due is " + want);
    }

    static void due(String what, boolean got, boolean want) {
        due(what, got ? 1 : 0, want ? 1 : 0);
    }

    static void due(String what, String got, String want) {
        if (!got.equals(want)) tell(what + " is '" + got + "', due is '" + want + "'");
    }

    interface Call {
        int answer();
    }

    static void dueThrow(String what, Call call) {
        try {
            tell(what + " answered " + call.answer() + ", due is a NoSuchElementException");
        } catch (NoSuchElementException e) {
            if (e.getClass() != NoSuchElementException.class) tell(what + " threw " + e.getClass());
        }
    }

    /** The tape is these bytes alone; what stands behind them in the last feed() is cut off. */
    static void type(GoingOver x, byte... bytes) {
        x.end(0);
        for (int k = 0; k < bytes.length; k += 20) {
            int[] n = new int[5];
            for (int b = 0; b < 20; b++) n[b / 4] = n[b / 4] << 8 | (k + b < bytes.length ? bytes[k + b] & 255 : 'z');
            x.feed(n[0], n[1], n[2], n[3], n[4]);
        }
        x.end(bytes.length);
    }

    static void type(GoingOver x, String text) {
        type(x, text.getBytes(StandardCharsets.ISO_8859_1));
    }

    static void typeNumbers(GoingOver x, int... numbers) {
        byte[] bytes = new byte[numbers.length];
        for (int k = 0; k < bytes.length; k++) bytes[k] = (byte) numbers[k];
        type(x, bytes);
    }

    static int falls(GoingOver x, String text) {
        type(x, text);
        return x.falls();
    }

    static int book(GoingOver x, int lives, String text) {
        type(x, text);
        return x.book(lives);
    }

    static int sentence(GoingOver x, String text) {
        type(x, text);
        return x.sentence();
    }

    static int who(GoingOver x, int... weights) {
        typeNumbers(x, weights);
        int answer = x.who();
        due("the tape behind who()", x.count(5), 0);
        return answer;
    }

    static int heights(GoingOver x, int... pairs) {
        typeNumbers(x, pairs);
        int answer = x.heights();
        due("the tape behind heights()", x.count(5), 0);
        return answer;
    }

    static GoingOver of(String falls) {
        GoingOver x = new GoingOver();
        int lines = 0;
        for (int k = 0; k < falls.length(); k++) if (falls.charAt(k) == ';') lines++;
        due("falls() of '" + falls + "'", falls(x, falls), lines);
        due("fault() of '" + falls + "'", x.fault(), 0);
        return x;
    }

    static String padded(String text, int length) {
        return text + " ".repeat(length - text.length());
    }

    /** What may stand behind a FAULT without being told: it is the first along the text that is. */
    private static final String[] TAILS = {"", " X", " ;", " 5;", " ready", " goes;", " p", " ann goes; cat goes;"};

    private static boolean bears(String text, int place, String tail) {
        return tail.isEmpty() || place < text.length() && text.length() + tail.length() <= 940;
    }

    /** A FAULT of that kind at that place, whatever stands behind it, the FALLS staying. */
    static void fallsFault(String text, int kind, int place) {
        for (String tail : TAILS) if (bears(text, place, tail)) fallsFaultOf(text + tail, kind, place);
    }

    private static void fallsFaultOf(String text, int kind, int place) {
        GoingOver x = of("falls 3 4;");
        due("falls() of '" + text + "'", falls(x, text), -1 - place);
        due("fault() of '" + text + "'", x.fault(), kind);
        due("HIGH behind '" + text + "'", x.count(3), 3);
        due("FLOW behind '" + text + "'", x.count(4), 4);
        due("PERSONS behind '" + text + "'", x.count(0), 0);
        due("the tape behind '" + text + "'", x.count(5), 0);
    }

    static void bookFault(String text, int kind, int place) {
        for (String tail : TAILS) if (bears(text, place, tail)) bookFaultOf(text + tail, kind, place);
    }

    private static void bookFaultOf(String text, int kind, int place) {
        GoingOver x = of(TWO);
        due("book(1) of '" + text + "'", book(x, 1, text), -2 - place);
        due("fault() of '" + text + "'", x.fault(), kind);
        due("told(0) behind '" + text + "'", x.told(0), NONE);
        due("undo() behind '" + text + "'", x.undo(), NONE);
        due("the tape behind '" + text + "'", x.count(5), 0);
    }

    static void sentenceFault(String text, int kind, int place) {
        for (String tail : TAILS) if (bears(text, place, tail)) sentenceFaultOf(text + tail, kind, place);
    }

    private static void sentenceFaultOf(String text, int kind, int place) {
        GoingOver x = of(TWO);
        due("sentence() ahead", sentence(x, "number = 1"), 1);
        due("sentence() of '" + text + "'", sentence(x, text), -1 - place);
        due("fault() of '" + text + "'", x.fault(), kind);
        due("said(0) behind '" + text + "'", x.said(0), 1);
        due("said(NONE) behind '" + text + "'", x.said(NONE), 1);
        due("the tape behind '" + text + "'", x.count(5), 0);
    }

    static void days(GoingOver x, int n) {
        for (int left = n; left > 0; left -= 60) due("days", x.days(Math.min(left, 60)), Math.min(left, 60));
    }

    static void tagIs(GoingOver x, int p, String text) {
        due("tag(" + p + ")", x.tag(p), text.length());
        StringBuilder got = new StringBuilder();
        for (int k = 0; k < text.length(); k++) got.append((char) x.byteAt(k));
        due("the TAG", got.toString(), text);
        due("the byte behind it", x.byteAt(text.length()), NONE);
    }

    static void toldIs(GoingOver x, int why, int lines, int day, int broken) {
        due("told(0)", x.told(0), why);
        due("told(1)", x.told(1), lines);
        due("told(2)", x.told(2), day);
        due("told(3)", x.told(3), broken);
    }

    /** What is so, as one text: what a refused call must not change. */
    static String state(GoingOver x) {
        StringBuilder s = new StringBuilder("counts");
        for (int k = 0; k < 6; k++) s.append(' ').append(x.count(k));
        s.append(" now");
        for (int k = 0; k < 8; k++) s.append(' ').append(x.now(k));
        s.append(" in");
        for (int i = 0; i < x.count(1); i++) s.append(' ').append(x.item(i, 2));
        s.append(" said ").append(x.said(NONE)).append(" told");
        for (int k = 0; k < 4; k++) s.append(' ').append(x.told(k));
        return s.append(" last ").append(x.fault()).append(' ').append(x.lightened()).append(' ').append(x.keeps())
            .append(' ').append(x.lowest()).append(' ').append(x.watch()).append(' ').append(x.byteAt(0)).toString();
    }

    /** All that the FALLS tell and that is so of PERSONS, ITEMS and JOINS, as one text. */
    static String whole(GoingOver x) {
        StringBuilder s = new StringBuilder();
        for (int k = 0; k < 5; k++) s.append(' ').append(x.count(k));
        for (int k = 0; k < 8; k++) s.append(' ').append(x.now(k));
        for (int p = 0; p < x.count(0); p++)
            for (int k = 0; k < 6; k++) s.append(k == 0 ? " person " : " ").append(x.person(p, k));
        for (int i = 0; i < x.count(1); i++)
            for (int k = 0; k < 5; k++) s.append(k == 0 ? " item " : " ").append(x.item(i, k));
        for (int j = 0; j < x.count(2); j++)
            for (int k = 0; k < 4; k++) s.append(k == 0 ? " join " : " ").append(x.join(j, k));
        return s.append(" said ").append(x.said(NONE)).append(' ').append(x.said(0)).append(' ').append(x.said(1)).toString();
    }

    static void ends(String allRight) {
        if (wrong > 0) System.exit(1);
        System.out.println(allRight);
    }
}
