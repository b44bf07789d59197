/** The sentences of "Terms" that tell of texts: each at the last input that is allowed and at the first that is not. */
public final class TextEdgeTest extends Checks {
    private static final String ONE = "person p 1;item i p 5;item k p 6;";

    public static void main(String[] args) {
        at = "blanks";
        blanks();
        at = "words";
        words();
        at = "numbers";
        numbers();
        at = "signs";
        signs();
        at = "tokens go on";
        tokensGoOn();
        at = "falls and rain";
        fallsAndRain();
        at = "persons and items";
        personsAndItems();
        at = "joins";
        joins();
        at = "names";
        names();
        at = "so many of a sort";
        soManyOfASort();
        at = "the most bytes of FALLS";
        bytesOfFalls();
        at = "a BOOK";
        bookLines();
        at = "40 LINES";
        bookOfForty();
        at = "the most bytes of a BOOK";
        bytesOfBook();
        at = "a SENTENCE";
        sentences();
        at = "20 ONES";
        twentyOnes();
        at = "8 within one another";
        eightWithin();
        at = "the most bytes of a SENTENCE";
        bytesOfSentence();
        at = "the first FAULT along the text";
        firstFault();
        at = "the least FAULT of a TOKEN";
        leastFault();
        ends("the texts' edges are as due");
    }

    /** "with blanks (32, 10) between them or not" */
    private static void blanks() {
        GoingOver x = new GoingOver();
        due("32 between", falls(x, "falls 7 8 ;"), 1);
        due("10 between", falls(x, "falls\n6\n9\n;\n"), 1);
        due("HIGH", x.count(3), 6);
        due("both, many, ahead and behind", falls(x, " \n\n  falls \n 5  \n\n11 ; \n \n rain 1   1;  \n"), 2);
        due("HIGH", x.count(3), 5);
        due("FLOW", x.count(4), 11);
        due("none where none is needed", falls(x, "falls 5 6;rain 1 2;person p 3;item i p 4;item k p 5;join i k 6;"), 6);
        due("blanks alone are no LINE", falls(x, " \n \n"), 0);
        due("fault()", x.fault(), 0);
        due("a BOOK of blanks", book(x, 0, " \n"), NONE);
        due("fault()", x.fault(), 0);
        for (int other : new int[] {0, 9, 11, 12, 13, 31, 33, 127, 128, 138, 160, 255}) {
            fallsFault("falls" + (char) other + "5 6;", 1, 5);
            fallsFault("falls 5 6;" + (char) other, 1, 10);
        }
    }

    /** "WORDS: small letters, 1 to 7" */
    private static void words() {
        GoingOver x = of("person a 1;person abcdefg 2;person z 3;person zzzzzzz 4;");
        due("PERSONS", x.count(0), 4);
        tagIs(x, 0, "a ready");
        tagIs(x, 1, "abcdefg ready");
        tagIs(x, 2, "z ready");
        tagIs(x, 3, "zzzzzzz ready");
        of("person azazaza 1;item zazazaz azazaza 1;");
        fallsFault("person abcdefgh 1;", 1, 7);
        fallsFault("person abcdefghijklmnopqrstuvwxyz 1;", 1, 7);
        fallsFault("person aaaaaaaaaaaaaaaaaaaaperson 1;", 1, 7);
        for (char other : new char[] {'@', 'A', 'Z', '[', '`', '{', '_', '.', ',', '-', '\u00e9'}) {
            fallsFault("person " + other + " 1;", 1, 7);
            fallsFault("person b" + other + " 1;", 1, 8);
        }
        fallsFault("Falls 5 6;", 1, 0);
        fallsFault("fallsfalls 5 6;", 1, 0);
        GoingOver y = of("person ab 0;person abc 0;person b 0;person ba 0;person aab 0;");
        due("those that begin alike are others", book(y, 1, "abc goes;ba goes;"), NONE);
        due("abc and ba", y.now(4), 10);
    }

    /** "NUMBERS: 1 to 3 digits" */
    private static void numbers() {
        GoingOver x = of("falls 030 099;rain 009 9;person p 000;person q 009;item i p 020;item k p 01;join i k 005;");
        due("HIGH", x.count(3), 30);
        due("FLOW", x.count(4), 99);
        due("FLOW with rain", x.now(1), 108);
        due("N", x.join(0, 2), 5);
        due("STRAW", x.person(1, 0), 9);
        fallsFault("falls 0030 099;", 1, 6);
        fallsFault("falls 5 0001;", 1, 8);
        fallsFault("falls 5 1000;", 1, 8);
        fallsFault("falls 5 999;", 2, 8);
        fallsFault("falls 99999999999999999999 5;", 1, 6);
        fallsFault("falls 4294967301 5;", 1, 6);
        for (char other : new char[] {'/', ':', '-', '+', '.'}) {
            fallsFault("falls " + other + "5 6;", 1, 6);
            fallsFault("falls 5" + other + " 6;", 1, 7);
        }
        fallsFault("person p ;", 1, 9);
    }

    /** "; < = > ( )" stand in texts where they are told, and can't come elsewhere. */
    private static void signs() {
        for (char sign : "<=>()".toCharArray()) {
            fallsFault("falls 5 6" + sign, 1, 9);
            fallsFault(sign + "falls 5 6;", 1, 0);
            bookFault("day 1;" + sign, 1, 6);
        }
        fallsFault("falls 5 6;;", 1, 10);
        fallsFault("falls; 5 6;", 1, 5);
        bookFault("day 1;;", 1, 6);
        GoingOver x = of(TWO);
        due("the numbers about '0' and ';'", sentence(x, "(weight<13)or(weight=13)or(weight>13)"), 6);
        due("said(NONE)", x.said(NONE), 2);
        for (char other : new char[] {'&', '\'', '*', '?', '!', ',', '/', ':', '.'}) {
            sentenceFault(other + "ready", 1, 0);
            sentenceFault("weight " + other + " 5", 1, 7);
            sentenceFault("(ready" + other, 1, 6);
        }
    }

    /** "A WORD, NUMBER goes on as long as small letters and digits do; what is not as told is no TOKEN" */
    private static void tokensGoOn() {
        fallsFault("falls5 6;", 1, 0);
        fallsFault("falls 5x 6;", 1, 6);
        fallsFault("falls x5 6;", 1, 6);
        fallsFault("falls 5 6rain 1 1;", 1, 8);
        fallsFault("person p1 1;", 1, 7);
        fallsFault("person 1p 1;", 1, 7);
        fallsFault("person p 1p;", 1, 9);
        fallsFault("falls 5 6A;", 1, 9);
        fallsFault("falls 5 6;rainrain", 1, 10);
        fallsFault("falls 5 6;rain\u00e9", 1, 14);
        bookFault("day1;", 1, 0);
        bookFault("day 1;anngoes;", 3, 6);
        bookFault("day 1x;", 1, 4);
        sentenceFault("ready2", 1, 0);
        sentenceFault("notready", 1, 0);
        sentenceFault("weight<5and ready", 1, 7);
        due("a sign ends a TOKEN", sentence(of(TWO), "not(ready)and(weight<5)"), 5);
    }

    /** "'falls' HIGH FLOW (1 to 30; 1 to 99; once; 10, 20 without) | 'rain' EVERY N (1 to 9 DAYS; 1 to 99; once; none without)" */
    private static void fallsAndRain() {
        for (int[] ok : new int[][] {{1, 1}, {30, 99}, {1, 99}, {30, 1}}) {
            GoingOver x = of("falls " + ok[0] + " " + ok[1] + ";");
            due("HIGH", x.count(3), ok[0]);
            due("FLOW", x.count(4), ok[1]);
            due("FLOW of the DAY without rain", x.now(1), ok[1]);
        }
        fallsFault("falls 0 6;", 2, 6);
        fallsFault("falls 31 6;", 2, 6);
        fallsFault("falls 5 0;", 2, 8);
        fallsFault("falls 5 100;", 2, 8);
        fallsFault("falls 5 6;falls 5 6;", 3, 10);
        fallsFault("falls 5 6;rain 2 3; falls", 3, 20);
        GoingOver x = of("rain 1 1;");
        due("HIGH without", x.count(3), 10);
        due("FLOW without", x.count(4), 20);
        due("1 more each DAY", x.now(1), 21);
        x.days(1);
        due("1 more each DAY", x.now(1), 21);
        GoingOver y = of("falls 5 6;rain 9 99;");
        int[] flows = {105, 6, 6, 6, 6, 6, 6, 6, 6, 105, 6};
        for (int d = 0; d < flows.length; d++) {
            due("FLOW of DAY " + d, y.now(1), flows[d]);
            y.days(1);
        }
        due("FLOW as told", y.count(4), 6);
        fallsFault("rain 0 5;", 2, 5);
        fallsFault("rain 10 5;", 2, 5);
        fallsFault("rain 5 0;", 2, 7);
        fallsFault("rain 5 100;", 2, 7);
        fallsFault("rain 1 1;rain 2 2;", 3, 9);
        fallsFault("rain 1 1;person p 1;rain", 3, 20);
        due("once each, behind others", of("person p 1;rain 2 3;item i p 1;falls 7 8;").count(3), 7);
        due("'falls' of a text ahead does not count", falls(x, "falls 5 6;"), 1);
        due("'falls' of a text ahead does not count", falls(x, "falls 5 7;"), 1);
        due("'rain' of a text ahead does not count", falls(x, "rain 5 6;"), 1);
        due("'rain' of a text ahead does not count", falls(x, "rain 5 6;"), 1);
        due("'rain' with a FAULT", falls(x, "rain 5 6;rain"), -10);
        due("and again", falls(x, "rain 5 7;falls 9 9;"), 2);
        due("no rain then", falls(x, "falls 9 8;"), 1);
        due("FLOW", x.now(1), 8);
    }

    /** "'person' NAME STRAW (0 to 9) | 'item' NAME PERSON WEIGHT (1 to 20; it is in his barrel)" */
    private static void personsAndItems() {
        GoingOver x = of("person p 0;person q 9;item i p 1;item k q 20;");
        due("STRAW", x.person(0, 0), 0);
        due("STRAW", x.person(1, 0), 9);
        due("WEIGHT", x.item(0, 1), 1);
        due("WEIGHT", x.item(1, 1), 20);
        due("in his barrel", x.person(0, 4), 1);
        due("in his barrel", x.person(1, 4), 2);
        fallsFault("person p 10;", 2, 9);
        fallsFault("person p;", 1, 8);
        fallsFault("person p 1 1;", 1, 11);
        fallsFault("person 5 1;", 1, 7);
        fallsFault("person p 1;item i p 0;", 2, 20);
        fallsFault("person p 1;item i p 21;", 2, 20);
        fallsFault("person p 1;item i p;", 1, 19);
        fallsFault("person p 1;item i 5;", 1, 18);
        fallsFault("person p 1;item 5 p 5;", 1, 16);
        fallsFault("item i p 5;person p 1;", 3, 7);
        due("a PERSON of other FALLS", falls(x, "item i p 5;"), -8);
        due("fault()", x.fault(), 3);
    }

    /** "'join' ITEM ITEM N (unlike, of one PERSON; 1 to 30; each two once, in whatever order)" */
    private static void joins() {
        GoingOver x = of(ONE + "item l p 7;join k i 1;join i l 30;join l k 2;");
        due("ITEMS as told", x.join(0, 0), 1);
        due("ITEMS as told", x.join(0, 1), 0);
        due("ITEMS as told", x.join(1, 0), 0);
        due("ITEMS as told", x.join(1, 1), 2);
        due("ITEMS as told", x.join(2, 1), 1);
        due("N", x.join(0, 2), 1);
        due("N", x.join(1, 2), 30);
        int n = ONE.length();
        fallsFault(ONE + "join i k 0;", 2, n + 9);
        fallsFault(ONE + "join i k 31;", 2, n + 9);
        fallsFault(ONE + "join i i 5;", 3, n + 7);
        fallsFault(ONE + "join k k 5;", 3, n + 7);
        fallsFault(ONE + "join i k 5;join i k 6;", 3, n + 18);
        fallsFault(ONE + "join i k 5;join k i 6;", 3, n + 18);
        String four = ONE + "person q 1;item l q 5;item m q 5;";
        int m = four.length();
        of(four + "join i k 5;join l m 5;");
        fallsFault(four + "join k l 5;", 3, m + 7);
        fallsFault(four + "join l k 5;", 3, m + 7);
        fallsFault(four + "join p k 5;", 3, m + 5);
        fallsFault(four + "join i q 5;", 3, m + 7);
        fallsFault(four + "join x k 5;", 3, m + 5);
        fallsFault(four + "join i x 5;", 3, m + 7);
        fallsFault(four + "join 5 k 5;", 1, m + 5);
        fallsFault(four + "join i 5 5;", 1, m + 7);
        fallsFault(four + "join i k;", 1, m + 8);
        fallsFault(four + "join i k 5 5;", 1, m + 11);
        fallsFault("join", 1, 4);
    }

    /** "NAME: a WORD, none of those told here, in a BOOK or a SENTENCE; told once." */
    private static void names() {
        for (String word : KEYWORDS) {
            fallsFault("person " + word + " 1;", 1, 7);
            fallsFault(ONE + "item " + word + " p 1;", 1, ONE.length() + 5);
            fallsFault(ONE + "item l " + word + " 1;", 1, ONE.length() + 7);
            fallsFault(ONE + "join " + word + " k 1;", 1, ONE.length() + 5);
            fallsFault(ONE + "join i " + word + " 1;", 1, ONE.length() + 7);
            if (word.length() < 7) {
                GoingOver x = of("person " + word + "s 1;item " + word.substring(1) + "x " + word + "s 2;");
                due("a WORD like '" + word + "'", x.item(0, 0), 0);
                tagIs(x, 0, word + "s ready");
            }
        }
        for (String word : new String[] {"high", "flow", "every", "line", "name", "items", "go", "free", "days", "so"})
            of("person " + word + " 1;");
        fallsFault("person p 1;person p 2;", 3, 18);
        fallsFault("person p 1;item p p 2;", 3, 16);
        fallsFault(ONE + "item i p 2;", 3, ONE.length() + 5);
        fallsFault(ONE + "person k 2;", 3, ONE.length() + 7);
        fallsFault(ONE + "item l k 2;", 3, ONE.length() + 7);
        fallsFault(ONE + "item l l 2;", 3, ONE.length() + 7);
        fallsFault(ONE + "item l x 2;", 3, ONE.length() + 7);
        GoingOver y = of(ONE);
        due("told once in each text", falls(y, ONE), 3);
        due("the other way round", falls(y, "person i 0;item p i 1;"), 2);
    }

    private static String persons(int n) {
        StringBuilder s = new StringBuilder();
        for (int k = 0; k < n; k++) s.append("person p").append((char) ('a' + k)).append(" 1;");
        return s.toString();
    }

    private static String items(int n) {
        StringBuilder s = new StringBuilder(persons(1));
        for (int k = 0; k < n; k++) s.append("item i").append((char) ('a' + k)).append(" pa ").append(k + 1).append(';');
        return s.toString();
    }

    private static String joins(int n) {
        StringBuilder s = new StringBuilder(items(7));
        int told = 0;
        for (char a = 'a'; a < 'h'; a++)
            for (char b = (char) (a + 1); b < 'h' && told < n; b++, told++)
                s.append("join i").append(a).append(" i").append(b).append(' ').append(told + 1).append(';');
        return s.toString();
    }

    /** "5 PERSONS, 10 ITEMS, 16 JOINS at most, numbered from 0 each"; "4 one more than there may be of a sort" */
    private static void soManyOfASort() {
        GoingOver x = of(persons(5));
        due("PERSONS", x.count(0), 5);
        due("READY", x.now(2), 31);
        for (int p = 0; p < 5; p++) tagIs(x, p, "p" + (char) ('a' + p) + " ready");
        String five = persons(5);
        fallsFault(five + "person", 4, five.length());
        fallsFault(five + "person pf 1;", 4, five.length());
        fallsFault(five + "person pa 99;", 4, five.length());
        fallsFault(five + "\n  person person", 4, five.length() + 3);
        fallsFault(five + "persons", 1, five.length());
        GoingOver y = of(items(10));
        due("ITEMS", y.count(1), 10);
        due("in the barrel", y.person(0, 4), 1023);
        for (int i = 0; i < 10; i++) due("WEIGHT of " + i, y.item(i, 1), i + 1);
        String ten = items(10);
        fallsFault(ten + "item ik pa 1;", 4, ten.length());
        fallsFault(ten + "item", 4, ten.length());
        fallsFault(ten + "item 5", 4, ten.length());
        GoingOver z = of(joins(16));
        due("JOINS", z.count(2), 16);
        for (int j = 0; j < 16; j++) due("N of " + j, z.join(j, 2), j + 1);
        String sixteen = joins(16);
        fallsFault(sixteen + "join ig if 5;", 4, sixteen.length());
        fallsFault(sixteen + "join ia ia 5;", 4, sixteen.length());
        fallsFault(sixteen + "join", 4, sixteen.length());
        GoingOver w = of("person pa 1;item ia pa 4;person pb 2;item ib pb 5;item ic pa 6;");
        due("whose", w.item(1, 0), 1);
        due("all of the first", w.person(0, 5), 5);
        due("all of the second", w.person(1, 5), 2);
    }

    /** "FALLS are a text of at most 900 bytes"; "the most bytes told, if there are more and no FAULT is ahead: TOKENS that begin ahead of it are read whole" */
    private static void bytesOfFalls() {
        String two = "falls 5 6;person p 1;";
        due("900 bytes", of(padded(two, 900)).count(0), 1);
        fallsFault(padded(two, 901), 1, 900);
        fallsFault(padded(two, 940), 1, 900);
        GoingOver x = new GoingOver();
        due("the last byte counts", falls(x, padded("falls 5 6;person p 1", 899) + ";"), 2);
        fallsFault(padded("falls 5 6;person p 1", 900) + ";", 1, 900);
        fallsFault(padded("falls 5 6;person p 1", 899) + ";;", 1, 900);
        fallsFault(padded("falls 5 6;person p 1", 899) + ";\n", 1, 900);
        fallsFault(padded("falls 5 6;", 899) + "person p 1;", 1, 900);
        fallsFault(padded("falls 5 6;", 899) + "falls 5 6;", 3, 899);
        fallsFault(padded("falls 5 6;", 900) + "falls 5 6;", 1, 900);
        fallsFault(padded("falls 5 6;", 899) + "personal", 1, 899);
        fallsFault(padded("falls 5", 899) + "100;", 2, 899);
        fallsFault(padded("falls 5", 899) + "1000;", 1, 899);
        fallsFault(padded("falls 5", 899) + "10;", 1, 900);
        fallsFault(padded("falls 5", 900) + "0;", 1, 900);
        fallsFault(padded(persons(5), 899) + "person p 1;", 4, 899);
        fallsFault(padded(persons(5), 900) + "person p 1;", 1, 900);
        fallsFault(padded("rain 1 1;rain 1 1;", 940), 3, 9);
        fallsFault(padded("falls 5", 899), 1, 899);
        fallsFault(padded("falls 5", 900), 1, 900);
        fallsFault(padded("falls 5", 901), 1, 900);
        fallsFault("falls 5", 1, 7);
    }

    /** "A BOOK: PERSON ( 'goes' | 'frees' ) | 'unload' ITEM | 'load' ITEM | 'bind' N (0 to 15) | 'day' N (1 to 60)" */
    private static void bookLines() {
        GoingOver x = of(TWO);
        due("all kinds", book(x, 0, "ann goes;ann frees;unload oak;load oak;bind 2;day 1;\nday 60 ;"), NONE);
        due("bind 15: no such JOIN", book(x, 0, "bind 15;"), 0);
        due("fault()", x.fault(), 0);
        due("bind 0: whole", book(x, 0, "bind 0;"), 0);
        due("fault()", x.fault(), 0);
        bookFault("bind 16;", 2, 5);
        bookFault("bind 999;", 2, 5);
        bookFault("bind 1000;", 1, 5);
        bookFault("bind;", 1, 4);
        bookFault("bind pin;", 1, 5);
        bookFault("day 0;", 2, 4);
        bookFault("day 61;", 2, 4);
        bookFault("day;", 1, 3);
        bookFault("day one;", 1, 4);
        bookFault("cat goes;", 3, 0);
        bookFault("hat goes;", 3, 0);
        bookFault("ann;", 1, 3);
        bookFault("ann", 1, 3);
        bookFault("ann day 1;", 1, 4);
        bookFault("ann bob;", 1, 4);
        bookFault("goes ann;", 1, 0);
        bookFault("5 goes;", 1, 0);
        bookFault("ann goes", 1, 8);
        bookFault("ann goes frees;", 1, 9);
        for (String word : new String[] {"unload", "load"}) {
            int n = word.length() + 1;
            bookFault(word + " cat;", 3, n);
            bookFault(word + " ann;", 3, n);
            bookFault(word + " 0;", 1, n);
            bookFault(word + " load;", 1, n);
            bookFault(word + ";", 1, n - 1);
            bookFault(word + " hat", 1, n + 3);
            bookFault(word + " hat cup;", 1, n + 4);
        }
        for (String word : KEYWORDS)
            if (!word.equals("unload") && !word.equals("load") && !word.equals("bind") && !word.equals("day"))
                bookFault("day 1;" + word + " hat;", 1, 6);
        GoingOver y = new GoingOver();
        due("of FALLS without any", book(y, 0, "p goes;"), -2);
        due("fault()", y.fault(), 3);
        due("of FALLS without any", book(y, 0, "load p;"), -7);
        due("fault()", y.fault(), 3);
        due("of FALLS without any", book(y, 0, "bind 0;"), 0);
        due("no such JOIN", y.told(0), 49);
    }

    private static String forty() {
        return "day 1;ann goes;".repeat(20);
    }

    /** "{ LINE ; }, 40 at most"; "a 41st LINE of a BOOK (at the LINE's first WORD)" */
    private static void bookOfForty() {
        GoingOver x = of(TWO);
        due("forty: WRONG as ann goes again", book(x, 0, forty()), 3);
        due("fault()", x.fault(), 0);
        due("forty DAYS", book(x, 1, "day 1;".repeat(40)), NONE);
        due("LINES", x.told(1), 40);
        due("the DAY", x.now(0), 40);
        due("39 and one more", book(x, 1, "day 1;".repeat(39) + "ann goes;"), NONE);
        int n = forty().length();
        bookFault(forty() + "day 1;", 4, n);
        bookFault(forty() + "ann goes;", 4, n);
        bookFault(forty() + "  bob", 4, n + 2);
        bookFault(forty() + "bind 99;", 4, n);
        bookFault(forty() + "load cat;", 4, n);
        bookFault(forty() + "unload", 4, n);
        bookFault("day 1;".repeat(41), 4, 240);
        bookFault("day 1;".repeat(42), 4, 240);
        bookFault("day 1;".repeat(39) + "day 61;day 1;", 2, 238);
    }

    /** "A BOOK is a text of at most 400 bytes" */
    private static void bytesOfBook() {
        GoingOver x = of(TWO);
        due("400 bytes", book(x, 0, padded("day 1;", 400)), NONE);
        due("fault()", x.fault(), 0);
        due("the last byte counts", book(x, 0, padded("day 1", 399) + ";"), NONE);
        bookFault(padded("day 1;", 401), 1, 400);
        bookFault(padded("day 1;", 940), 1, 400);
        bookFault(padded("day 1", 400) + ";", 1, 400);
        bookFault(padded("day 1", 399) + ";;", 1, 400);
        bookFault(padded("day 1;", 399) + "cat goes;", 3, 399);
        bookFault(padded("day 1;", 400) + "cat goes;", 1, 400);
        bookFault(padded("day 1;", 399) + "ann goes;", 1, 400);
        bookFault(padded("day 1;day", 399) + "61;", 2, 399);
        bookFault(padded("day 1;day", 399) + "60;", 1, 400);
        bookFault(padded(forty(), 399) + "ann goes;", 4, 399);
        bookFault(padded(forty(), 400) + "ann goes;", 1, 400);
        bookFault(padded("day 0;", 500), 2, 4);
        bookFault(padded("day 1", 399), 1, 399);
    }

    /** "COND: ALL { 'or' ALL }. ALL: ONE { 'and' ONE }. ONE: ..", NUMBERS being whatever they are */
    private static void sentences() {
        GoingOver x = of(TWO);
        String[] plain = {"ready", "hanging", "pooled", "out", "whole", "has hat", "weight<0", "parts=999", "straw>000",
            "number=0", "weight<5", "straw=10", "parts>10", "number>5"};
        for (String one : plain) {
            due("sentence() of '" + one + "'", sentence(x, one), 1);
            due("fault() of '" + one + "'", x.fault(), 0);
            due("with not and brackets", sentence(x, "not(not " + one + ")"), 4);
            due("with and, or", sentence(x, one + " and " + one + " or " + one), 3);
        }
        for (String of : new String[] {"weight", "parts", "straw", "number"}) {
            int n = of.length();
            sentenceFault(of, 1, n);
            sentenceFault(of + "<", 1, n + 1);
            sentenceFault(of + "<1000", 1, n + 1);
            sentenceFault(of + "5", 1, 0);
            sentenceFault(of + " 5", 1, n + 1);
            sentenceFault(of + "<<5", 1, n + 1);
            sentenceFault(of + "<hat", 1, n + 1);
            sentenceFault(of + ";5", 1, n);
            sentenceFault(of + "(5", 1, n);
            sentenceFault(of + " and ready", 1, n + 1);
            sentenceFault(of + " or ready", 1, n + 1);
            sentenceFault(of + "< and ready", 1, n + 2);
            sentenceFault("(" + of + ") and ready", 1, n + 1);
            sentenceFault("(" + of + "<1000) and ready", 1, n + 2);
        }
        for (String word : KEYWORDS) {
            boolean first = java.util.List.of(KEYWORDS).indexOf(word) >= 13;
            if (!first) sentenceFault("ready and " + word, 1, 10);
            sentenceFault("has " + word, 1, 4);
            if (!word.equals("and") && !word.equals("or")) sentenceFault("ready " + word, 1, 6);
        }
        sentenceFault("has cat", 3, 4);
        sentenceFault("has bob", 3, 4);
        sentenceFault("has cat and ready", 3, 4);
        sentenceFault("has and ready", 1, 4);
        sentenceFault("not and ready", 1, 4);
        sentenceFault("() and ready", 1, 1);
        sentenceFault("(ready; and ready", 1, 6);
        sentenceFault("has 0", 1, 4);
        sentenceFault("has", 1, 3);
        sentenceFault("ann", 1, 0);
        sentenceFault("7", 1, 0);
        sentenceFault("", 1, 0);
        sentenceFault(" \n ", 1, 3);
        sentenceFault("not", 1, 3);
        sentenceFault("(", 1, 1);
        sentenceFault("()", 1, 1);
        sentenceFault("(ready", 1, 6);
        sentenceFault("(ready or", 1, 9);
        sentenceFault("(ready))", 1, 7);
        sentenceFault(")", 1, 0);
        sentenceFault("and ready", 1, 0);
        sentenceFault("ready and", 1, 9);
        sentenceFault("ready and or out", 1, 10);
        sentenceFault("ready or and out", 1, 9);
        sentenceFault("ready not out", 1, 6);
        sentenceFault("ready;", 1, 5);
        sentenceFault("ready 5", 1, 6);
    }

    /** "20 ONES"; "a 21st ONE (at its first TOKEN)"; "how many ONES (each not, bracket and other one)" */
    private static void twentyOnes() {
        GoingOver x = of(TWO);
        String ten = "ready or (not out and whole) or weight<5 and has hat or not not pooled or out";
        due("eleven", sentence(x, ten), 11);
        String nineteen = "out" + " or out".repeat(18);
        due("nineteen", sentence(x, nineteen), 19);
        due("twenty", sentence(x, nineteen + " or hanging"), 20);
        due("hanging is none", x.said(NONE), 0);
        due("twenty by not", sentence(x, "out" + " or out".repeat(17) + " or not out"), 20);
        due("all are not out", x.said(NONE), 2);
        due("twenty by bracket", sentence(x, "out" + " or out".repeat(17) + " or(ready)"), 20);
        due("twenty in brackets", sentence(x, "(ready and ready)" + " and(ready and ready)".repeat(5) + " and not out"), 20);
        due("said(NONE)", x.said(NONE), 2);
        String ands = "ready" + " and ready".repeat(19);
        due("twenty by and", sentence(x, ands), 20);
        due("said(NONE)", x.said(NONE), 2);
        sentenceFault("out" + " and out".repeat(20), 4, 160);
        sentenceFault("out" + " and out".repeat(20) + " and", 4, 160);
        sentenceFault("out" + " or out".repeat(20), 4, 140);
        sentenceFault("(out" + " and out".repeat(19) + ")", 4, 153);
        int n = nineteen.length();
        sentenceFault(nineteen + " or out or out", 4, n + 11);
        sentenceFault(nineteen + " or out and has", 4, n + 12);
        sentenceFault(nineteen + " or not out", 4, n + 8);
        sentenceFault(nineteen + " or (ready)", 4, n + 5);
        sentenceFault(nineteen + " or out and (", 4, n + 12);
        sentenceFault(nineteen + " or out and not", 4, n + 12);
        sentenceFault(nineteen + " or out and weight", 4, n + 12);
        sentenceFault(nineteen + " or out and hat", 1, n + 12);
        sentenceFault(nineteen + " or out and ;", 1, n + 12);
        sentenceFault(nineteen + " or out and", 1, n + 11);
        sentenceFault(nineteen + " or (", 1, n + 5);
        due("the one ahead does not count", sentence(x, "ready"), 1);
        due("the one ahead does not count", sentence(x, nineteen + " or out"), 20);
    }

    /** "8 within one another"; "a ninth within (at its first TOKEN)" */
    private static void eightWithin() {
        GoingOver x = of(TWO);
        due("eight", sentence(x, "not not not not not not not pooled"), 8);
        due("seven nots", x.said(NONE), 2);
        due("eight", sentence(x, "(((((((ready)))))))"), 8);
        due("said(NONE)", x.said(NONE), 2);
        due("eight", sentence(x, "not(not(not(not ready)))"), 8);
        due("eight, and again", sentence(x, "(((((((ready)))))))and(((((((ready)))))))"), 16);
        due("said(NONE)", x.said(NONE), 2);
        due("eight by many", sentence(x, "((((((not ready or ready)and out)or ready))))"), 11);
        sentenceFault("not not not not not not not not pooled", 4, 32);
        sentenceFault("((((((((ready))))))))", 4, 8);
        sentenceFault("((((((((not", 4, 8);
        sentenceFault("((((((((has", 4, 8);
        sentenceFault("(((((((((", 4, 8);
        sentenceFault("((((((((", 1, 8);
        sentenceFault("(((((((()", 1, 8);
        sentenceFault("((((((((or", 1, 8);
        sentenceFault("(((((((ready and not out", 4, 21);
        sentenceFault("(((((((ready and ready", 1, 22);
        sentenceFault("ready and not not not not not not not not out", 4, 42);
        sentenceFault("(((((((ready)))))))and((((((((ready", 4, 30);
    }

    /** "A SENTENCE is a text of at most 200 bytes" */
    private static void bytesOfSentence() {
        GoingOver x = of(TWO);
        due("200 bytes", sentence(x, padded("ready", 200)), 1);
        due("the last byte counts", sentence(x, padded("not", 195) + "ready"), 2);
        due("the last byte counts", sentence(x, padded("(ready", 199) + ")"), 2);
        due("the last byte counts", sentence(x, padded("weight<", 199) + "5"), 1);
        sentenceFault(padded("ready", 201), 1, 200);
        sentenceFault(padded("ready", 940), 1, 200);
        sentenceFault(padded("not", 196) + "ready", 1, 200);
        sentenceFault(padded("(ready", 200) + ")", 1, 200);
        sentenceFault(padded("(ready", 199) + "))", 1, 200);
        sentenceFault(padded("ready", 199) + ")", 1, 199);
        sentenceFault(padded("ready", 200) + ")", 1, 200);
        sentenceFault(padded("has", 199) + "cat", 3, 199);
        sentenceFault(padded("has", 199) + "cup", 1, 200);
        sentenceFault(padded("has", 200) + "cat", 1, 200);
        sentenceFault(padded("weight<", 199) + "50", 1, 200);
        sentenceFault(padded("weight<", 199) + "5000", 1, 199);
        String twenty = "out" + " or out".repeat(19);
        sentenceFault(padded(twenty + " or", 199) + "out", 4, 199);
        sentenceFault(padded(twenty + " or", 200) + "out", 1, 200);
        sentenceFault(padded("ready ready", 300), 1, 6);
        sentenceFault(padded("ready and", 200), 1, 200);
        sentenceFault(padded("ready and", 199), 1, 199);
    }

    /** "FAULTS, the first along the text" */
    private static void firstFault() {
        fallsFault("falls 0 0;person person 99;", 2, 6);
        fallsFault("falls 5 0 X", 2, 8);
        fallsFault("falls 5 6 7;falls", 1, 10);
        fallsFault("person p 10 X", 2, 9);
        fallsFault("item i p 99;", 3, 7);
        fallsFault("person p 1;item p x 99;", 3, 16);
        fallsFault("person p 1;item i x 99;", 3, 18);
        fallsFault(ONE + "join i i 99;", 3, ONE.length() + 7);
        fallsFault(ONE + "join x y 99;", 3, ONE.length() + 5);
        fallsFault(ONE + "join i k 99", 2, ONE.length() + 9);
        bookFault("day 0;cat goes;", 2, 4);
        bookFault("cat goes;day 0;", 3, 0);
        bookFault("load cat X", 3, 5);
        bookFault("ann goes X", 1, 9);
        sentenceFault("has cat and weight<1000", 3, 4);
        sentenceFault("weight<1000 and has cat", 1, 7);
    }

    /** "of one TOKEN the least" */
    private static void leastFault() {
        String five = persons(5);
        fallsFault(five + "Person", 1, five.length());
        fallsFault(five + "person1", 1, five.length());
        fallsFault("falls 1 1;fallsfalls", 1, 10);
        int n = forty().length();
        bookFault(forty() + "cat goes;", 3, n);
        bookFault(forty() + "hat goes;", 3, n);
        bookFault(forty() + "goes;", 1, n);
        bookFault(forty() + ";", 1, n);
        bookFault(forty() + "5", 1, n);
        bookFault(forty() + "X", 1, n);
        bookFault(forty() + "unloads hat;", 3, n);
        bookFault(forty() + "toolong8 goes;", 1, n);
        sentenceFault("((((((((hat", 1, 8);
        sentenceFault("((((((((5", 1, 8);
        sentenceFault("((((((((X", 1, 8);
    }
}
