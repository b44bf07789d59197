import java.nio.charset.StandardCharsets;
import java.util.ArrayList;
import java.util.List;
import java.util.NoSuchElementException;
import java.util.Random;

/** Random runs of at most 512 calls, each answer held against Model. Seeds are fixed: each run is the same each time. */
public final class FuzzTest {
    private static final int RUNS = 2500;
    private static final int CALLS = 512;
    private static final String[] PERSONS = {"ann", "bob", "cy", "dee", "evelynn"};
    private static final String[] ITEMS = {"hat", "box", "cup", "oak", "pin", "q", "rrrrrrr", "s", "t", "u"};

    private final Random random;
    private final GoingOver x = new GoingOver();
    private final Model m = new Model();
    private final List<String> calls = new ArrayList<>();
    private boolean wrong = false;
    private List<String> persons = new ArrayList<>();
    private List<String> items = new ArrayList<>();
    private int joins = 0;

    private FuzzTest(long seed) {
        random = new Random(seed);
    }

    public static void main(String[] args) {
        int failed = 0;
        int calls = 0;
        for (int run = 0; run < RUNS && failed < 3; run++) {
            FuzzTest test = new FuzzTest(run);
            test.run();
            calls += test.calls.size();
            if (test.wrong) {
                failed++;
                System.out.println("run of seed " + run + ":");
                for (String call : test.calls) System.out.println("  " + call);
            }
        }
        if (failed > 0) System.exit(1);
        System.out.println(calls + " calls are as the model's");
    }

    private interface Call {
        long answer();
    }

    private static final long THROWN = Long.MIN_VALUE;

    private static long answerOf(Call c) {
        try {
            return c.answer();
        } catch (NoSuchElementException e) {
            return THROWN;
        }
    }

    private void same(String what, Call got, Call due) {
        if (wrong || calls.size() >= CALLS) return;
        long g = answerOf(got);
        long d = answerOf(due);
        calls.add(what + " -> " + (g == THROWN ? "throws" : g));
        if (g != d) {
            wrong = true;
            calls.add("due is " + (d == THROWN ? "throws" : d));
        }
    }

    private static int bit(boolean b) {
        return b ? 1 : 0;
    }

    private int upTo(int n) {
        return random.nextInt(n + 1);
    }

    private int index(int size) {
        int k = random.nextInt(30);
        if (k == 0) return size;
        if (k == 1) return random.nextBoolean() ? -1 : 0;
        if (k == 2) return random.nextInt();
        return size == 0 ? 0 : random.nextInt(size);
    }

    private void feed(byte[] bytes) {
        same("end(0)", () -> bit(x.end(0)), () -> bit(m.end(0)));
        for (int k = 0; k < bytes.length; k += 20) {
            int[] n = new int[5];
            for (int b = 0; b < 20; b++)
                n[b / 4] = n[b / 4] << 8 | (k + b < bytes.length ? bytes[k + b] & 255 : random.nextInt(256));
            same("feed(" + n[0] + ", " + n[1] + ", " + n[2] + ", " + n[3] + ", " + n[4] + ")",
                () -> x.feed(n[0], n[1], n[2], n[3], n[4]), () -> m.feed(n[0], n[1], n[2], n[3], n[4]));
        }
        int n = bytes.length;
        same("end(" + n + ")", () -> bit(x.end(n)), () -> bit(m.end(n)));
        same("count(5)", () -> x.count(5), () -> m.count(5));
    }

    private void feedText(String s) {
        if (!wrong) calls.add("the text: " + s.replace("\n", "\\n"));
        feed(s.getBytes(StandardCharsets.ISO_8859_1));
    }

    private static <T> T pick(Random r, List<T> of, T without) {
        return of.isEmpty() ? without : of.get(r.nextInt(of.size()));
    }

    /** Now and then a text is spoilt, at a place that is chosen at random. */
    private String spoilt(String s) {
        if (random.nextInt(3) > 0) return s;
        if (random.nextInt(3) == 0) return s.replaceFirst("[0-9]+(?=[^0-9]{" + random.nextInt(30) + "})", "" + random.nextInt(110));
        int changes = 1 + random.nextInt(2);
        StringBuilder b = new StringBuilder(s);
        String[] bits = {";", "(", ")", "<", "=", ">", ".", " ", "\n", "a", "7", "X", " 0 ", " 1 ", " 31 ", " 100 ", " 999 ",
            "falls", "rain", "person", "item", "join", " ann ", " hat ", " box ", "goes", "unload", "not ", "and", "\t",
            "number", "out", "\u00e9", "\u00ff", "falls 3 3;", "rain 2 2;", " bind 15;", " 0000 ", " abcdefgh ", " new "};
        for (int k = 0; k < changes; k++) {
            int at = upTo(b.length());
            String bit = bits[random.nextInt(bits.length)];
            switch (random.nextInt(4)) {
                case 0 -> b.insert(at, bit);
                case 1 -> b.delete(at, Math.min(b.length(), at + 1 + random.nextInt(4)));
                case 2 -> b.replace(at, Math.min(b.length(), at + 1 + random.nextInt(3)), bit);
                default -> b.setLength(at);
            }
        }
        return b.toString();
    }

    /** Now and then a text is made as long as may be, and a little more or less, by blanks. */
    private String stretched(String s, int most) {
        if (random.nextInt(12) > 0 || s.length() > most) return s;
        StringBuilder b = new StringBuilder(s);
        int length = Math.min(940, most - 3 + random.nextInt(12));
        while (b.length() < length) {
            int at = random.nextInt(b.length() + 1);
            if (at == 0 || at == b.length() || " ;\n".indexOf(b.charAt(at)) >= 0) b.insert(at, random.nextBoolean() ? ' ' : '\n');
        }
        return b.toString();
    }

    private String gap() {
        return random.nextInt(10) == 0 ? "\n " : " ";
    }

    private String fallsText() {
        persons = new ArrayList<>();
        items = new ArrayList<>();
        joins = 0;
        StringBuilder b = new StringBuilder();
        if (random.nextInt(5) > 0)
            b.append("falls").append(gap()).append(1 + random.nextInt(random.nextBoolean() ? 30 : 12)).append(gap())
                .append(1 + random.nextInt(random.nextInt(4) == 0 ? 99 : random.nextBoolean() ? 40 : 12)).append(";");
        if (random.nextInt(3) > 0)
            b.append("rain ").append(1 + random.nextInt(9)).append(gap()).append(1 + random.nextInt(50)).append(";");
        int p = random.nextInt(8) == 0 ? 0 : 1 + random.nextInt(5);
        int i = p == 0 ? 0 : random.nextInt(3) == 0 ? 10 : random.nextInt(11);
        int owners = p == 0 ? 0 : 1 + random.nextInt(p);
        for (int k = 0; k < p; k++) {
            persons.add(PERSONS[k]);
            b.append("person ").append(PERSONS[k]).append(gap()).append(random.nextInt(10)).append(gap()).append(";");
        }
        List<Integer> owner = new ArrayList<>();
        for (int k = 0; k < i; k++) {
            items.add(ITEMS[k]);
            owner.add(random.nextInt(owners));
            b.append("item ").append(ITEMS[k]).append(gap()).append(PERSONS[owner.get(k)]).append(" ")
                .append(1 + random.nextInt(random.nextBoolean() ? 20 : 5)).append(";\n");
        }
        List<String> pairs = new ArrayList<>();
        for (int k = 0; k < i; k++)
            for (int l = 0; l < i; l++)
                if (k != l && owner.get(k).equals(owner.get(l)) && !pairs.contains(ITEMS[l] + " " + ITEMS[k]))
                    pairs.add(ITEMS[k] + " " + ITEMS[l]);
        java.util.Collections.shuffle(pairs, random);
        int many = Math.min(pairs.size(), random.nextInt(18));
        for (int k = 0; k < many; k++)
            b.append("join ").append(pairs.get(k)).append(" ").append(1 + random.nextInt(30)).append(";");
        joins = Math.min(many, 16);
        if (random.nextInt(40) == 0) b.append("person sixth 1;person seventh 1;");
        if (random.nextInt(40) == 0 && p > 0) b.append("item k ann 1;item l ann 1;item m ann 1;");
        return b.toString();
    }

    private String bookText() {
        StringBuilder b = new StringBuilder();
        int lines = random.nextInt(20) == 0 ? 38 + random.nextInt(5) : random.nextInt(9);
        for (int k = 0; k < lines; k++) {
            switch (random.nextInt(6)) {
                case 0, 1 -> b.append(pick(random, persons, "ann")).append(random.nextInt(3) > 0 ? " goes" : " frees");
                case 2 -> b.append("unload ").append(pick(random, items, "hat"));
                case 3 -> b.append("load ").append(pick(random, items, "hat"));
                case 4 -> b.append("bind ").append(random.nextInt(Math.max(1, Math.min(16, joins + 2))));
                default -> b.append("day ").append(1 + random.nextInt(lines > 20 ? 3 : 60));
            }
            b.append(";");
        }
        return b.toString();
    }

    private String one(int depth) {
        int k = random.nextInt(depth > 8 ? 8 : 12);
        if (k < 5) return new String[] {"ready", "hanging", "pooled", "out", "whole"}[k];
        if (k == 5) return "has " + pick(random, items, "hat");
        if (k < 8) {
            String[] of = {"weight", "parts", "straw", "number"};
            int n = random.nextInt(4);
            return of[n] + "<=>".charAt(random.nextInt(3)) + random.nextInt(n == 0 ? 60 : n == 2 ? 10 : 5);
        }
        if (k < 10) return "not " + one(depth + 1);
        return "(" + condition(depth + 1) + ")";
    }

    private String condition(int depth) {
        StringBuilder b = new StringBuilder(one(depth));
        for (int k = random.nextInt(random.nextInt(15) == 0 ? 20 : 3); k > 0; k--)
            b.append(random.nextBoolean() ? " or " : " and ").append(one(depth));
        return b.toString();
    }

    private String deepText() {
        StringBuilder b = new StringBuilder();
        int deep = 5 + random.nextInt(5);
        StringBuilder close = new StringBuilder();
        for (int k = 0; k < deep; k++) {
            boolean not = random.nextBoolean();
            b.append(not ? "not " : "(");
            if (!not) close.append(")");
        }
        return b.append("ready").append(close).toString();
    }

    private void texts() {
        switch (random.nextInt(12)) {
            case 0, 10, 11 -> {
                feedText(stretched(spoilt(fallsText()), 900));
                same("falls()", x::falls, m::falls);
                knowThoseThatAre();
            }
            case 1, 2, 3 -> {
                feedText(stretched(spoilt(bookText()), 400));
                int lives = random.nextInt(30) == 0 ? random.nextInt() : random.nextInt(2);
                same("book(" + lives + ")", () -> x.book(lives), () -> m.book(lives));
                for (int k = -1; k < 5; k++) told(k);
            }
            case 4, 5, 6 -> {
                feedText(stretched(spoilt(random.nextInt(5) == 0 ? deepText() : condition(1)), 200));
                same("sentence()", x::sentence, m::sentence);
                for (int k = -2; k < 6; k++) said(k);
            }
            case 7 -> {
                byte[] weights = new byte[random.nextInt(20) == 0 ? random.nextInt(9) : 1 + random.nextInt(3)];
                for (int k = 0; k < weights.length; k++) weights[k] = (byte) random.nextInt(25);
                feed(weights);
                same("who()", x::who, m::who);
            }
            case 8 -> {
                byte[] pairs = new byte[random.nextInt(20) == 0 ? random.nextInt(14) : 2 * (1 + random.nextInt(2))];
                for (int k = 0; k < pairs.length; k++)
                    pairs[k] = (byte) (k % 2 == 0 ? random.nextInt(persons.size() + (random.nextInt(9) == 0 || persons.isEmpty() ? 1 : 0))
                        : random.nextInt(3) == 0 ? random.nextInt(6) : m.fate(pairs[k - 1]));
                feed(pairs);
                same("heights()", x::heights, m::heights);
                same("lowest()", x::lowest, m::lowest);
                same("watch()", x::watch, m::watch);
            }
            default -> weighed();
        }
        same("fault()", x::fault, m::fault);
    }

    /** The WEIGHTS that some PERSON's PARTS have now, in an order at random. */
    private void weighed() {
        if (persons.isEmpty() || wrong) return;
        int p = random.nextInt(persons.size());
        List<Integer> weights = new ArrayList<>();
        for (int i = 0; i < m.count(1); i++) {
            if (m.item(i, 0) != p || m.item(i, 2) == 0) continue;
            boolean least = true;
            int sum = m.item(i, 1);
            for (int k = 0; k < m.count(1); k++) {
                if (k == i || m.apart(i, k) != 0) continue;
                least &= k > i;
                sum += m.item(k, 1);
            }
            if (least) weights.add(sum);
        }
        java.util.Collections.shuffle(weights, random);
        byte[] bytes = new byte[weights.size()];
        for (int k = 0; k < bytes.length; k++) bytes[k] = (byte) (int) weights.get(k);
        feed(bytes);
        same("who()", x::who, m::who);
    }

    private void told(int k) {
        same("told(" + k + ")", () -> x.told(k), () -> m.told(k));
    }

    private void said(int k) {
        same("said(" + k + ")", () -> x.said(k), () -> m.said(k));
    }

    private void acts() {
        int p = index(persons.size());
        int i = index(items.size());
        int j = index(joins);
        switch (random.nextInt(12)) {
            case 0, 1 -> same("go(" + p + ")", () -> x.go(p), () -> m.go(p));
            case 2 -> same("free(" + p + ")", () -> x.free(p), () -> m.free(p));
            case 3, 4 -> same("unload(" + i + ")", () -> x.unload(i), () -> m.unload(i));
            case 5, 6 -> same("load(" + i + ")", () -> x.load(i), () -> m.load(i));
            case 7 -> same("bind(" + j + ")", () -> x.bind(j), () -> m.bind(j));
            case 8 -> {
                int n = random.nextInt(8) == 0 ? random.nextInt(63) : random.nextInt(20) == 0 ? random.nextInt() : 1 + random.nextInt(3);
                same("days(" + n + ")", () -> x.days(n), () -> m.days(n));
            }
            case 9 -> {
                int n = random.nextInt(20) == 0 ? random.nextInt() : random.nextInt(8);
                int seed = random.nextInt();
                same("drawn(" + n + ", " + seed + ")", () -> x.drawn(n, seed), () -> m.drawn(n, seed));
            }
            case 10 -> {
                for (int k = random.nextInt(8) == 0 ? 10 : 1; k > 0; k--) same("undo()", x::undo, m::undo);
            }
            default -> {
                int k = random.nextInt(4) - 1;
                if (random.nextInt(3) > 0) {
                    same("image(" + k + ")", () -> bit(x.image(k)), () -> bit(m.image(k)));
                } else {
                    same("restore(" + k + ")", () -> bit(x.restore(k)), () -> bit(m.restore(k)));
                    knowThoseThatAre();
                }
            }
        }
    }

    private void knowThoseThatAre() {
        persons = new ArrayList<>(List.of(PERSONS).subList(0, m.count(0)));
        items = new ArrayList<>(List.of(ITEMS).subList(0, m.count(1)));
        joins = m.count(2);
    }

    private void questions() {
        int p = index(persons.size());
        int i = index(items.size());
        int k = index(items.size());
        int j = index(joins);
        int what = random.nextInt(12) == 0 ? random.nextInt() : random.nextInt(10) - 1;
        switch (random.nextInt(20)) {
            case 0, 1 -> same("person(" + p + ", " + what + ")", () -> x.person(p, what), () -> m.person(p, what));
            case 2, 3 -> same("item(" + i + ", " + what + ")", () -> x.item(i, what), () -> m.item(i, what));
            case 4 -> same("join(" + j + ", " + what + ")", () -> x.join(j, what), () -> m.join(j, what));
            case 5 -> same("now(" + what + ")", () -> x.now(what), () -> m.now(what));
            case 6 -> same("fate(" + p + ")", () -> x.fate(p), () -> m.fate(p));
            case 7 -> same("straw(" + p + ")", () -> x.straw(p), () -> m.straw(p));
            case 8 -> {
                same("lighten(" + p + ")", () -> x.lighten(p), () -> m.lighten(p));
                same("lightened()", x::lightened, m::lightened);
            }
            case 9 -> {
                same("keep(" + p + ")", () -> x.keep(p), () -> m.keep(p));
                same("keeps()", x::keeps, m::keeps);
            }
            case 10 -> same("apart(" + i + ", " + k + ")", () -> x.apart(i, k), () -> m.apart(i, k));
            case 11 -> same("crack(" + p + ")", () -> x.crack(p), () -> m.crack(p));
            case 12 -> same("drops(" + p + ")", () -> x.drops(p), () -> m.drops(p));
            case 13 -> same("heaviest()", x::heaviest, m::heaviest);
            case 14 -> {
                int of = random.nextInt(4) - 1;
                same("mean(" + p + ", " + of + ")", () -> x.mean(p, of), () -> m.mean(p, of));
            }
            case 15 -> {
                same("tag(" + p + ")", () -> x.tag(p), () -> m.tag(p));
                for (int b = -1; b < 15; b++) byteAt(b);
            }
            case 16 -> {
                int n = random.nextInt(10) == 0 ? random.nextInt(40) - 5 : 1 + random.nextInt(5);
                int seed = random.nextInt(10) == 0 ? Integer.MAX_VALUE : random.nextInt();
                same("odds(" + p + ", " + n + ", " + seed + ")", () -> x.odds(p, n, seed), () -> m.odds(p, n, seed));
            }
            case 17 -> same("count(" + what + ")", () -> x.count(what), () -> m.count(what));
            case 18 -> {
                int n = random.nextInt(20) == 0 ? random.nextInt() : random.nextInt(30) - 5;
                same("end(" + n + ")", () -> bit(x.end(n)), () -> bit(m.end(n)));
            }
            default -> said(random.nextInt(8) - 2);
        }
    }

    private void byteAt(int b) {
        same("byteAt(" + b + ")", () -> x.byteAt(b), () -> m.byteAt(b));
    }

    private void newFalls() {
        feedText(stretched(fallsText(), 900));
        same("falls()", x::falls, m::falls);
        knowThoseThatAre();
        if (random.nextInt(6) == 0)
            for (int k = 0; k < 7; k++) {
                int n = 57 + random.nextInt(4);
                same("days(" + n + ")", () -> x.days(n), () -> m.days(n));
            }
    }

    private void run() {
        if (random.nextInt(10) > 0) newFalls();
        while (calls.size() < CALLS && !wrong) {
            int k = random.nextInt(60);
            if (k < 1) newFalls();
            else if (k < 6) texts();
            else if (k < 20) acts();
            else questions();
        }
    }
}
