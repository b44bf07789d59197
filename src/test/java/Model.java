import java.nio.charset.StandardCharsets;
import java.util.ArrayDeque;
import java.util.ArrayList;
import java.util.Collections;
import java.util.Deque;
import java.util.HashMap;
import java.util.HashSet;
import java.util.List;
import java.util.Map;
import java.util.NoSuchElementException;
import java.util.Set;
import java.util.TreeMap;

/** The document once more, in the plainest form, with the Java library: FuzzTest holds GoingOver against it. */
final class Model {
    static final int NONE = -1;
    static final Set<String> RESERVED = Set.of("falls", "rain", "person", "item", "join", "goes", "frees", "unload",
        "load", "bind", "day", "or", "and", "not", "ready", "hanging", "pooled", "out", "whole", "has", "weight",
        "parts", "straw", "number");

    static final class Fault extends Exception {
        private static final long serialVersionUID = 1L;
        final int kind;
        final int place;

        Fault(int kind, int place) {
            this.kind = kind;
            this.place = place;
        }
    }

    static final class Person {
        String name;
        int straw;
        String how = "ready";

        Person twin() {
            Person t = new Person();
            t.name = name;
            t.straw = straw;
            t.how = how;
            return t;
        }
    }

    static final class Item {
        String name;
        int owner;
        int weight;
        boolean in = true;

        Item twin() {
            Item t = new Item();
            t.name = name;
            t.owner = owner;
            t.weight = weight;
            t.in = in;
            return t;
        }
    }

    static final class Join {
        int a;
        int b;
        int n;
        boolean whole = true;

        Join twin() {
            Join t = new Join();
            t.a = a;
            t.b = b;
            t.n = n;
            t.whole = whole;
            return t;
        }
    }

    static final class World {
        int high = 10;
        int flow = 20;
        int every = 0;
        int rain = 0;
        int day = 0;
        int drops = 0;
        List<Person> persons = new ArrayList<>();
        List<Item> items = new ArrayList<>();
        List<Join> joins = new ArrayList<>();

        World twin() {
            World t = new World();
            t.high = high;
            t.flow = flow;
            t.every = every;
            t.rain = rain;
            t.day = day;
            t.drops = drops;
            for (Person p : persons) t.persons.add(p.twin());
            for (Item i : items) t.items.add(i.twin());
            for (Join j : joins) t.joins.add(j.twin());
            return t;
        }

        int flowOf(int d) {
            return flow + (every != 0 && d % every == 0 ? rain : 0);
        }

        int flowNow() {
            return flowOf(day);
        }

        List<Integer> barrel(int p) {
            List<Integer> r = new ArrayList<>();
            for (int i = 0; i < items.size(); i++) if (items.get(i).owner == p && items.get(i).in) r.add(i);
            return r;
        }

        int weight(int p) {
            int w = 0;
            for (int i : barrel(p)) w += items.get(i).weight;
            return w;
        }

        /** The PARTS of some items, by JOINS that are whole and hold at least so much. */
        List<Set<Integer>> parts(List<Integer> of, int least) {
            List<Set<Integer>> r = new ArrayList<>();
            for (int i : of) r.add(new HashSet<>(Set.of(i)));
            for (Join j : joins) {
                if (!j.whole || j.n < least || !of.contains(j.a) || !of.contains(j.b)) continue;
                Set<Integer> x = null;
                Set<Integer> y = null;
                for (Set<Integer> s : r) {
                    if (s.contains(j.a)) x = s;
                    if (s.contains(j.b)) y = s;
                }
                if (x != y) {
                    r.remove(y);
                    r.remove(x);
                    x.addAll(y);
                    r.add(x);
                }
            }
            return r;
        }

        boolean down(int p) {
            return persons.get(p).how.equals("pooled") || persons.get(p).how.equals("out");
        }

        List<Set<Integer>> fate(int p, int highThen) {
            return parts(barrel(p), down(p) ? 0 : highThen - persons.get(p).straw);
        }

        int partsNow(int p) {
            return parts(barrel(p), 0).size();
        }

        void drop(int p) {
            for (Join j : joins)
                if (items.get(j.a).owner == p && j.n < high - persons.get(p).straw) j.whole = false;
            persons.get(p).how = "pooled";
            drops++;
        }

        int go(int p) {
            if (!persons.get(p).how.equals("ready")) return 1;
            if (weight(p) <= flowNow()) drop(p);
            else persons.get(p).how = "hanging";
            return 0;
        }

        int free(int p) {
            if (!persons.get(p).how.equals("pooled")) return 1;
            persons.get(p).how = "out";
            return 0;
        }

        int unload(int i) {
            Item it = items.get(i);
            if (!it.in) return 1;
            if (down(it.owner)) return 2;
            it.in = false;
            for (Join j : joins) if (j.a == i || j.b == i) j.whole = false;
            if (persons.get(it.owner).how.equals("hanging") && weight(it.owner) <= flowNow()) drop(it.owner);
            return 0;
        }

        int load(int i) {
            Item it = items.get(i);
            if (it.in) return 1;
            if (!persons.get(it.owner).how.equals("ready")) return 2;
            it.in = true;
            return 0;
        }

        int bind(int k) {
            Join j = joins.get(k);
            if (j.whole) return 1;
            if (!items.get(j.a).in || !items.get(j.b).in) return 2;
            if (!persons.get(items.get(j.a).owner).how.equals("ready")) return 3;
            j.whole = true;
            return 0;
        }

        boolean passDay() {
            if (day == 400) return false;
            day++;
            for (int p = 0; p < persons.size(); p++)
                if (persons.get(p).how.equals("hanging") && weight(p) <= flowNow()) drop(p);
            return true;
        }

        int brokenBits() {
            int b = 0;
            for (int j = 0; j < joins.size(); j++) if (!joins.get(j).whole) b += 1 << j;
            return b;
        }

        int drawnDays(int n, int seed) {
            int[] x = {seed};
            for (int k = 0; k < n; k++) {
                if (day == 400) return k;
                for (int p = 0; p < persons.size(); p++) {
                    int d = draw(x, 8);
                    if (d == 0) go(p);
                    if (d == 1) free(p);
                }
                int d = draw(x, 4);
                if (d == 0 && !items.isEmpty()) {
                    int i = draw(x, items.size());
                    if (items.get(i).in) unload(i);
                    else load(i);
                }
                if (d == 1 && !joins.isEmpty()) bind(draw(x, joins.size()));
                passDay();
            }
            return n;
        }

        static int draw(int[] x, int n) {
            x[0] = x[0] * 1103515245 + 12345;
            return (x[0] >>> 8) % n;
        }

        int personNamed(String s) {
            for (int p = 0; p < persons.size(); p++) if (persons.get(p).name.equals(s)) return p;
            return NONE;
        }

        int itemNamed(String s) {
            for (int i = 0; i < items.size(); i++) if (items.get(i).name.equals(s)) return i;
            return NONE;
        }
    }

    /** TOKENS one by one; "" is the end, and null is what is no TOKEN. */
    static final class Lexer {
        final String text;
        final int most;
        int at = 0;
        int start;
        String token;

        Lexer(String text, int most) {
            this.text = text;
            this.most = most;
            next();
        }

        void next() {
            while (at < text.length() && " \n".indexOf(text.charAt(at)) >= 0) at++;
            start = at;
            if (at >= text.length() || at >= most) {
                start = Math.min(text.length(), most);
                token = "";
                return;
            }
            int e = at;
            while (e < text.length() && String.valueOf(text.charAt(e)).matches("[a-z0-9]")) e++;
            if (e == at) e++;
            String s = text.substring(at, e);
            token = s.matches("[a-z]{1,7}|[0-9]{1,3}|[;<=>()]") ? s : null;
            at = e;
        }

        Fault fault(int kind) {
            return new Fault(kind, start);
        }

        boolean is(String s) {
            return s.equals(token);
        }

        boolean isIn(String... list) {
            for (String s : list) if (is(s)) return true;
            return false;
        }

        void take(String s) throws Fault {
            if (!is(s)) throw fault(1);
            next();
        }

        void close() throws Fault {
            if (!is("") || text.length() > most) throw fault(1);
        }

        int number(int low, int high) throws Fault {
            if (token == null || !token.matches("[0-9]+")) throw fault(1);
            int v = Integer.parseInt(token);
            if (v < low || v > high) throw fault(2);
            next();
            return v;
        }

        String name() throws Fault {
            if (token == null || !token.matches("[a-z]+") || RESERVED.contains(token)) throw fault(1);
            return token;
        }
    }

    interface Said {
        boolean of(World w, int p);
    }

    static final class SentenceReader {
        final Lexer x;
        final World w;
        int ones = 0;

        SentenceReader(Lexer x, World w) {
            this.x = x;
            this.w = w;
        }

        Said cond(int depth) throws Fault {
            Said left = all(depth);
            while (x.is("or")) {
                x.next();
                Said l = left;
                Said r = all(depth);
                left = (v, p) -> l.of(v, p) | r.of(v, p);
            }
            return left;
        }

        Said all(int depth) throws Fault {
            Said left = one(depth);
            while (x.is("and")) {
                x.next();
                Said l = left;
                Said r = one(depth);
                left = (v, p) -> l.of(v, p) & r.of(v, p);
            }
            return left;
        }

        Said one(int depth) throws Fault {
            if (!x.isIn("not", "(", "ready", "hanging", "pooled", "out", "whole", "has", "weight", "parts", "straw",
                "number")) throw x.fault(1);
            if (depth == 9 || ones == 20) throw x.fault(4);
            ones++;
            String first = x.token;
            x.next();
            if (first.equals("not")) {
                Said s = one(depth + 1);
                return (v, p) -> !s.of(v, p);
            }
            if (first.equals("(")) {
                Said s = cond(depth + 1);
                x.take(")");
                return s;
            }
            if (first.equals("whole")) return (v, p) -> v.partsNow(p) == 1;
            if (first.equals("has")) {
                int i = w.itemNamed(x.name());
                if (i == NONE) throw x.fault(3);
                x.next();
                return (v, p) -> v.barrel(p).contains(i);
            }
            if (Set.of("ready", "hanging", "pooled", "out").contains(first))
                return (v, p) -> v.persons.get(p).how.equals(first);
            if (!x.isIn("<", "=", ">")) throw x.fault(1);
            String sign = x.token;
            x.next();
            int n = x.number(0, 999);
            return (v, p) -> {
                int his = switch (first) {
                    case "weight" -> v.weight(p);
                    case "parts" -> v.partsNow(p);
                    case "straw" -> v.persons.get(p).straw;
                    default -> p;
                };
                return sign.equals("<") ? his < n : sign.equals(">") ? his > n : his == n;
            };
        }
    }

    record Line(String word, int on) { }

    record Kept(World world, Said sentence) { }

    private String tape = "";
    private World w = new World();
    private Said sentence = null;
    private final Deque<World> past = new ArrayDeque<>();
    private final Map<Integer, Kept> images = new HashMap<>();
    private int fault = 0;
    private int lightened = NONE;
    private int keeps = NONE;
    private int lowest = NONE;
    private int watch = NONE;
    private String tag = "";
    private int[] told = null;

    private boolean noPerson(int p) {
        return p < 0 || p >= w.persons.size();
    }

    private boolean noItem(int i) {
        return i < 0 || i >= w.items.size();
    }

    private boolean noJoin(int j) {
        return j < 0 || j >= w.joins.size();
    }

    private static int bits(Iterable<Integer> set) {
        int b = 0;
        for (int i : set) b |= 1 << i;
        return b;
    }

    private void remember(World before) {
        past.addLast(before);
        if (past.size() > 8) past.removeFirst();
    }

    private String takeTape() {
        String t = tape;
        tape = "";
        return t;
    }

    int feed(int a, int b, int c, int d, int e) {
        if (tape.length() + 20 > 940) return NONE;
        byte[] bytes = java.nio.ByteBuffer.allocate(20).putInt(a).putInt(b).putInt(c).putInt(d).putInt(e).array();
        tape += new String(bytes, StandardCharsets.ISO_8859_1);
        return tape.length();
    }

    boolean end(int n) {
        if (n < 0 || n > tape.length()) return false;
        tape = tape.substring(0, n);
        return true;
    }

    int falls() {
        fault = 0;
        try {
            World[] made = {new World()};
            int lines = readFalls(new Lexer(takeTape(), 900), made[0]);
            w = made[0];
            sentence = null;
            past.clear();
            return lines;
        } catch (Fault f) {
            fault = f.kind;
            return -1 - f.place;
        }
    }

    private static int readFalls(Lexer x, World v) throws Fault {
        int lines = 0;
        boolean fallsTold = false;
        for (; !x.is(""); lines++) {
            if (!x.isIn("falls", "rain", "person", "item", "join")) throw x.fault(1);
            String first = x.token;
            if (first.equals("falls") && fallsTold) throw x.fault(3);
            if (first.equals("rain") && v.every != 0) throw x.fault(3);
            if (first.equals("person") && v.persons.size() == 5) throw x.fault(4);
            if (first.equals("item") && v.items.size() == 10) throw x.fault(4);
            if (first.equals("join") && v.joins.size() == 16) throw x.fault(4);
            x.next();
            switch (first) {
                case "falls" -> {
                    fallsTold = true;
                    v.high = x.number(1, 30);
                    v.flow = x.number(1, 99);
                }
                case "rain" -> {
                    v.every = x.number(1, 9);
                    v.rain = x.number(1, 99);
                }
                case "person" -> {
                    Person p = new Person();
                    p.name = newName(x, v);
                    p.straw = x.number(0, 9);
                    v.persons.add(p);
                }
                case "item" -> {
                    Item i = new Item();
                    i.name = newName(x, v);
                    i.owner = v.personNamed(x.name());
                    if (i.owner == NONE) throw x.fault(3);
                    x.next();
                    i.weight = x.number(1, 20);
                    v.items.add(i);
                }
                default -> {
                    Join j = new Join();
                    j.a = v.itemNamed(x.name());
                    if (j.a == NONE) throw x.fault(3);
                    x.next();
                    j.b = v.itemNamed(x.name());
                    if (j.b == NONE || j.a == j.b || v.items.get(j.a).owner != v.items.get(j.b).owner)
                        throw x.fault(3);
                    for (Join k : v.joins)
                        if (k.a == j.a && k.b == j.b || k.a == j.b && k.b == j.a) throw x.fault(3);
                    x.next();
                    j.n = x.number(1, 30);
                    v.joins.add(j);
                }
            }
            x.take(";");
        }
        x.close();
        return lines;
    }

    private static String newName(Lexer x, World v) throws Fault {
        String s = x.name();
        if (v.personNamed(s) != NONE || v.itemNamed(s) != NONE) throw x.fault(3);
        x.next();
        return s;
    }

    int fault() {
        return fault;
    }

    int person(int p, int what) {
        if (noPerson(p) || what < 0 || what > 5) throw new NoSuchElementException();
        List<Integer> his = new ArrayList<>();
        for (int i = 0; i < w.items.size(); i++) if (w.items.get(i).owner == p) his.add(i);
        return switch (what) {
            case 0 -> w.persons.get(p).straw;
            case 1 -> List.of("ready", "hanging", "pooled", "out").indexOf(w.persons.get(p).how);
            case 2 -> w.weight(p);
            case 3 -> w.partsNow(p);
            case 4 -> bits(w.barrel(p));
            default -> bits(his);
        };
    }

    int item(int i, int what) {
        if (noItem(i) || what < 0 || what > 4) return NONE;
        Item it = w.items.get(i);
        switch (what) {
            case 0: return it.owner;
            case 1: return it.weight;
            case 2: return it.in ? 1 : 0;
            case 3:
                int b = 0;
                for (int j = 0; j < w.joins.size(); j++)
                    if (w.joins.get(j).a == i || w.joins.get(j).b == i) b |= 1 << j;
                return b;
            default:
                for (Set<Integer> s : w.parts(w.barrel(it.owner), 0)) if (s.contains(i)) return Collections.min(s);
                return i;
        }
    }

    int join(int j, int what) {
        if (noJoin(j) || what < 0 || what > 3) return NONE;
        Join k = w.joins.get(j);
        return new int[] {k.a, k.b, k.n, k.whole ? 1 : 0}[what];
    }

    int now(int what) {
        if (what == 0) return w.day;
        if (what == 1) return w.flowNow();
        if (what >= 2 && what <= 5) {
            String how = List.of("ready", "hanging", "pooled", "out").get(what - 2);
            int b = 0;
            for (int p = 0; p < w.persons.size(); p++) if (w.persons.get(p).how.equals(how)) b |= 1 << p;
            return b;
        }
        return what == 6 ? w.brokenBits() : what == 7 ? w.drops : NONE;
    }

    private int acted(World before, int why) {
        if (why == 0) remember(before);
        return why;
    }

    int go(int p) {
        return noPerson(p) ? NONE : acted(w.twin(), w.go(p));
    }

    int free(int p) {
        return noPerson(p) ? NONE : acted(w.twin(), w.free(p));
    }

    int unload(int i) {
        return noItem(i) ? NONE : acted(w.twin(), w.unload(i));
    }

    int load(int i) {
        return noItem(i) ? NONE : acted(w.twin(), w.load(i));
    }

    int bind(int j) {
        return noJoin(j) ? NONE : acted(w.twin(), w.bind(j));
    }

    int days(int n) {
        if (n < 1 || n > 60) return NONE;
        World before = w.twin();
        int k = 0;
        while (k < n && w.passDay()) k++;
        if (k > 0) remember(before);
        return k;
    }

    int undo() {
        if (past.isEmpty()) return NONE;
        w = past.removeLast();
        return past.size();
    }

    int fate(int p) {
        return noPerson(p) ? NONE : w.fate(p, w.high).size();
    }

    int straw(int p) {
        if (noPerson(p) || w.down(p)) return NONE;
        for (int s = 0; s < 100; s++) if (w.parts(w.barrel(p), w.high - s).size() == 1) return s;
        return NONE;
    }

    private List<List<Integer>> subsets(int p) {
        List<Integer> in = w.barrel(p);
        List<List<Integer>> r = new ArrayList<>();
        for (int m = 0; m < 1 << in.size(); m++) {
            List<Integer> s = new ArrayList<>();
            for (int k = 0; k < in.size(); k++) if ((m >> k & 1) == 1) s.add(in.get(k));
            r.add(s);
        }
        return r;
    }

    private int weightOf(Iterable<Integer> items) {
        int sum = 0;
        for (int i : items) sum += w.items.get(i).weight;
        return sum;
    }

    int lighten(int p) {
        if (noPerson(p) || w.down(p)) return NONE;
        TreeMap<Long, Integer> good = new TreeMap<>();
        for (List<Integer> s : subsets(p))
            if (w.weight(p) - weightOf(s) <= w.flowNow())
                good.put(s.size() * 1000000L * 10 + weightOf(s) * 10000L + bits(s), bits(s));
        lightened = good.firstEntry().getValue();
        return Integer.bitCount(lightened);
    }

    int lightened() {
        return lightened;
    }

    int keep(int p) {
        if (noPerson(p) || w.down(p)) return NONE;
        int best = 0;
        int which = 0;
        for (List<Integer> s : subsets(p)) {
            int sum = weightOf(s);
            if (s.isEmpty() || sum > w.flowNow()) continue;
            World then = w.twin();
            for (int i : w.barrel(p)) {
                if (s.contains(i)) continue;
                then.items.get(i).in = false;
                for (Join j : then.joins) if (j.a == i || j.b == i) j.whole = false;
            }
            then.drop(p);
            if (then.partsNow(p) != 1) continue;
            if (sum > best || sum == best && bits(s) < which) {
                best = sum;
                which = bits(s);
            }
        }
        keeps = which;
        return best;
    }

    int keeps() {
        return keeps;
    }

    int apart(int i, int k) {
        if (noItem(i) || noItem(k) || i == k || w.items.get(i).owner != w.items.get(k).owner) return NONE;
        if (!w.items.get(i).in || !w.items.get(k).in) return NONE;
        for (Set<Integer> s : w.fate(w.items.get(i).owner, w.high))
            if (s.contains(i)) return s.contains(k) ? 0 : 1;
        return NONE;
    }

    int crack(int p) {
        if (noPerson(p)) return NONE;
        int best = NONE;
        for (int j = w.joins.size() - 1; j >= 0; j--) {
            Join k = w.joins.get(j);
            if (!k.whole || w.items.get(k.a).owner != p) continue;
            if (best == NONE || k.n <= w.joins.get(best).n) best = j;
        }
        return best;
    }

    int drops(int p) {
        if (noPerson(p) || !w.persons.get(p).how.equals("hanging")) return NONE;
        for (int d = 1; d < 100; d++) if (w.flowOf(w.day + d) >= w.weight(p)) return d;
        return NONE;
    }

    int who() {
        String t = takeTape();
        if (t.length() < 1 || t.length() > 6) return NONE;
        List<Integer> asked = new ArrayList<>();
        for (char c : t.toCharArray()) asked.add((int) c);
        Collections.sort(asked);
        int b = 0;
        for (int p = 0; p < w.persons.size(); p++) {
            List<Integer> his = new ArrayList<>();
            for (Set<Integer> s : w.fate(p, w.high)) his.add(weightOf(s));
            Collections.sort(his);
            if (his.equals(asked)) b |= 1 << p;
        }
        return b;
    }

    int heights() {
        String t = takeTape();
        if (t.length() % 2 == 1 || t.isEmpty() || t.length() > 10) return NONE;
        for (int k = 0; k < t.length(); k += 2) if (noPerson(t.charAt(k))) return NONE;
        List<Integer> highs = new ArrayList<>();
        for (int h = 1; h <= 30; h++) {
            boolean ok = true;
            for (int k = 0; k < t.length(); k += 2) ok &= w.fate(t.charAt(k), h).size() == t.charAt(k + 1);
            if (ok) highs.add(h);
        }
        if (highs.isEmpty()) return 0;
        lowest = highs.get(0);
        int least = 1000;
        for (int p = 0; p < w.persons.size(); p++) {
            Map<Integer, Integer> left = new HashMap<>();
            for (int h : highs) left.merge(w.fate(p, h).size(), 1, Integer::sum);
            int most = Collections.max(left.values());
            if (most < least) {
                least = most;
                watch = p;
            }
        }
        return highs.size();
    }

    int lowest() {
        return lowest;
    }

    int watch() {
        return watch;
    }

    int heaviest() {
        int best = NONE;
        for (int p = 0; p < w.persons.size(); p++) if (best == NONE || w.weight(p) > w.weight(best)) best = p;
        return best;
    }

    int mean(int p, int what) {
        if (noPerson(p) || w.barrel(p).isEmpty() || what < 0 || what > 1) throw new NoSuchElementException();
        java.math.BigInteger a = java.math.BigInteger.valueOf(w.weight(p));
        java.math.BigInteger b = java.math.BigInteger.valueOf(w.barrel(p).size());
        return (what == 0 ? a : b).divide(a.gcd(b)).intValue();
    }

    int tag(int p) {
        if (noPerson(p)) return NONE;
        tag = w.persons.get(p).name + switch (w.persons.get(p).how) {
            case "ready" -> " ready";
            case "hanging" -> " hangs";
            case "pooled" -> " in " + w.partsNow(p);
            default -> " out " + w.partsNow(p);
        };
        return tag.length();
    }

    int byteAt(int i) {
        return i < 0 || i >= tag.length() ? NONE : tag.charAt(i);
    }

    int drawn(int n, int seed) {
        if (n < 1 || n > 60) return NONE;
        World before = w.twin();
        int k = w.drawnDays(n, seed);
        if (k > 0) remember(before);
        return k;
    }

    int odds(int p, int n, int seed) {
        if (noPerson(p) || n < 1 || n > 30) return NONE;
        int c = 0;
        for (int k = 0; k < n; k++) {
            World v = w.twin();
            v.drawnDays(20, seed + k);
            if (v.down(p) && v.partsNow(p) == 1) c++;
        }
        return c;
    }

    int book(int lives) {
        if (lives != 0 && lives != 1) return -1000;
        fault = 0;
        List<Line> lines = new ArrayList<>();
        try {
            readBook(new Lexer(takeTape(), 400), lines);
        } catch (Fault f) {
            fault = f.kind;
            return -2 - f.place;
        }
        World v = w.twin();
        int why = 0;
        int good = 0;
        for (Line line : lines) {
            why = live(v, line);
            if (why != 0) break;
            good++;
        }
        told = new int[] {why, good, v.day, v.brokenBits()};
        if (lives == 1 && good > 0) {
            remember(w);
            w = v;
        }
        return why == 0 ? NONE : good;
    }

    private static int live(World v, Line line) {
        int why;
        switch (line.word) {
            case "goes": return v.go(line.on);
            case "frees":
                why = v.free(line.on);
                return why == 0 ? 0 : 10 + why;
            case "unload":
                why = v.unload(line.on);
                return why == 0 ? 0 : 20 + why;
            case "load":
                why = v.load(line.on);
                return why == 0 ? 0 : 30 + why;
            case "bind":
                if (line.on >= v.joins.size()) return 49;
                why = v.bind(line.on);
                return why == 0 ? 0 : 40 + why;
            default:
                if (v.day + line.on > 400) return 51;
                for (int k = 0; k < line.on; k++) v.passDay();
                return 0;
        }
    }

    private void readBook(Lexer x, List<Line> lines) throws Fault {
        while (!x.is("")) {
            if (x.isIn("unload", "load", "bind", "day")) {
                if (lines.size() == 40) throw x.fault(4);
                String first = x.token;
                x.next();
                if (first.equals("bind")) lines.add(new Line(first, x.number(0, 15)));
                else if (first.equals("day")) lines.add(new Line(first, x.number(1, 60)));
                else {
                    int i = w.itemNamed(x.name());
                    if (i == NONE) throw x.fault(3);
                    x.next();
                    lines.add(new Line(first, i));
                }
            } else {
                int p = w.personNamed(x.name());
                if (p == NONE) throw x.fault(3);
                if (lines.size() == 40) throw x.fault(4);
                x.next();
                if (!x.isIn("goes", "frees")) throw x.fault(1);
                lines.add(new Line(x.token, p));
                x.next();
            }
            x.take(";");
        }
        x.close();
    }

    int told(int what) {
        return told == null || what < 0 || what > 3 ? NONE : told[what];
    }

    int sentence() {
        fault = 0;
        try {
            SentenceReader r = new SentenceReader(new Lexer(takeTape(), 200), w);
            Said s = r.cond(1);
            r.x.close();
            sentence = s;
            return r.ones;
        } catch (Fault f) {
            fault = f.kind;
            return -1 - f.place;
        }
    }

    int said(int k) {
        if (sentence == null) return NONE;
        List<Integer> those = new ArrayList<>();
        for (int p = 0; p < w.persons.size(); p++) if (sentence.of(w, p)) those.add(p);
        if (k == NONE) return those.size();
        return k < 0 || k >= those.size() ? NONE : those.get(k);
    }

    boolean image(int k) {
        if (k != 0 && k != 1) return false;
        images.put(k, new Kept(w.twin(), sentence));
        return true;
    }

    boolean restore(int k) {
        if (!images.containsKey(k)) return false;
        w = images.get(k).world.twin();
        sentence = images.get(k).sentence;
        past.clear();
        return true;
    }

    int count(int what) {
        return switch (what) {
            case 0 -> w.persons.size();
            case 1 -> w.items.size();
            case 2 -> w.joins.size();
            case 3 -> w.high;
            case 4 -> w.flow;
            case 5 -> tape.length();
            default -> NONE;
        };
    }
}
