import java.lang.management.ManagementFactory;
import java.nio.charset.StandardCharsets;

/** All calls of a run live in one room: what is made is made by the constructor, and the dearest calls make nothing. */
public final class RoomTest {
    private static final int ROUNDS = 2000;

    private static void type(GoingOver x, int[] words) {
        for (int k = 0; k < words.length; k += 5)
            x.feed(words[k], words[k + 1], words[k + 2], words[k + 3], words[k + 4]);
    }

    private static int[] packed(String text) {
        byte[] bytes = text.getBytes(StandardCharsets.ISO_8859_1);
        int[] words = new int[(bytes.length + 19) / 20 * 5];
        for (int b = 0; b < words.length * 4; b++)
            words[b / 4] = words[b / 4] << 8 | (b < bytes.length ? bytes[b] : ' ');
        return words;
    }

    private static int all(GoingOver x, int[] falls, int[] book, int[] sentence, int[] pairs) {
        int sum = 0;
        type(x, falls);
        sum += x.falls();
        type(x, book);
        sum += x.book(1);
        type(x, sentence);
        sum += x.sentence() + x.said(-1) + x.said(0);
        type(x, pairs);
        x.end(4);
        sum += x.heights() + x.lowest() + x.watch();
        type(x, pairs);
        x.end(3);
        sum += x.who();
        for (int p = 0; p < 5; p++) {
            sum += x.person(p, 3) + x.fate(p) + x.straw(p) + x.lighten(p) + x.keep(p) + x.crack(p) + x.drops(p) + x.tag(p);
            sum += x.odds(p, 30, p) + x.go(p) + x.free(p);
        }
        for (int i = 0; i < 10; i++) sum += x.item(i, 4) + x.unload(i) + x.load(i) + x.apart(i, 9 - i);
        for (int j = 0; j < 16; j++) sum += x.join(j, 3) + x.bind(j);
        sum += x.image(0) ? 1 : 0;
        sum += x.drawn(60, 7) + x.days(60) + x.undo() + x.heaviest() + x.now(1) + x.told(1) + x.count(0);
        sum += x.restore(0) ? 1 : 0;
        return sum;
    }

    public static void main(String[] args) {
        StringBuilder s = new StringBuilder("falls 9 60;rain 3 9;");
        for (char c = 'a'; c < 'f'; c++) s.append("person p").append(c).append(" 1;");
        for (char c = 'a'; c < 'k'; c++) s.append("item ").append(c).append(" pa 7;");
        for (char c = 'b'; c < 'k'; c++) s.append("join a ").append(c).append(" 9;");
        for (char c = 'c'; c < 'j'; c++) s.append("join ").append(c).append(" b 8;");
        int[] falls = packed(s.toString());
        int[] book = packed("pb goes;pb frees;unload a;load a;bind 0;day 3;");
        int[] sentence = packed("not (ready or weight < 9) and has b or parts > 1");
        int[] pairs = {0x00010101, 0, 0, 0, 0};
        com.sun.management.ThreadMXBean bean = (com.sun.management.ThreadMXBean) ManagementFactory.getThreadMXBean();
        long self = Thread.currentThread().getId();
        GoingOver x = new GoingOver();
        int sum = all(x, falls, book, sentence, pairs);
        bean.getThreadAllocatedBytes(self);
        long before = bean.getThreadAllocatedBytes(self);
        for (int k = 0; k < ROUNDS; k++) sum += all(x, falls, book, sentence, pairs);
        long made = bean.getThreadAllocatedBytes(self) - before;
        // Some bytes a round are left for what the machine itself may make.
        if (made > ROUNDS * 64L) {
            System.out.println(ROUNDS + " rounds made " + made + " bytes");
            System.exit(1);
        }
        System.out.println("the calls make nothing (" + made + " bytes in " + ROUNDS + " rounds, sum " + sum + ")");
    }
}
