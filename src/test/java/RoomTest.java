import com.sun.management.ThreadMXBean;
import java.lang.management.ManagementFactory;

/** Calls make no objects; an object is made of few; the dearest calls end soon; extreme arguments never throw. */
public final class RoomTest {
    private static final Kit KIT = new Kit();
    private static final String DEAR = "strike a;strike b;strike c;strike d;strike e;strike f;hand g;hand h;hand i;hand j;"
        + "person k hand g;person l hand h;person m hand i;person n hand j;person o hand g;person p hand h;"
        + "law a under 1;law b over 99;law c under 2 over 1;law d under 3 over 2;law e under 4 over 3;law f over 98;law a under 98;law b under 1;"
        + "acts k on a to l weight 5;acts l on a to m weight 5;acts m on a to n weight 5;acts n on a to o weight 5;acts o on a to p weight 5;acts p on a to k weight 5;"
        + "letter k l weight 5;letter l m weight 5;letter m n weight 5;letter n o weight 5;";

    private static long allocated() {
        ThreadMXBean bean = (ThreadMXBean) ManagementFactory.getThreadMXBean();
        return bean.getThreadAllocatedBytes(Thread.currentThread().getId());
    }

    private static long all(OddCancel x, int v, int w, boolean deep) {
        long sum = 0;
        sum += x.told(v) + x.worth(v) + x.hand(v) + x.law(v, w) + x.acts(v, w, v) + x.letter(v, w) + x.cover(v, w) + x.strikes(v);
        sum += x.post(v, w, v, w) + x.day(deep ? 99 : v) + x.take(v) + x.wrapped(v, w) + x.lawOf(v, w, v, w) + x.strikeOf(v, w, 5, v);
        sum += x.struckNow(v, w, v, w) + x.lawsOf(v, w, v, w) + x.wrap(v, w, v, w, v) + x.weights(v, w, v, w) + x.weightAt(v, w, v, w, v);
        sum += x.could(v, w, v) + x.idle() + x.via(v, w, v, w) + x.viaFirst(v, w, v, w) + x.echo(v, w) + x.round(v, w) + x.rings() + x.longest();
        sum += x.reads(v, w) + x.isJust(v, w) + x.copyDay(v) + x.spells(v, w) + x.spellAt(v, w, v, w) + x.split(v, w, v, w) + x.splitNext(v, w, v, w);
        sum += x.lawsUsed() + x.game(v) + x.gameFirst(v) + x.brother(v) + x.live(v) + x.lived(v) + x.mark() + x.undo() + x.valley(-1) + x.weeks(-1);
        x.mean(v, w);
        x.sure(v, w, v, w, v);
        x.drink(true);
        x.drink(false);
        x.learn(v, w);
        x.teach(v, w, v, w);
        x.forget(v, w);
        x.sway(v);
        x.pub(v);
        x.pour(v, w, v, w, v);
        x.write(v, w, v);
        return sum + x.read(v, w) + x.fault(v) + (x.tray(v, w, v) ? 1 : 0);
    }

    private static void room() {
        OddCancel x = new OddCancel();
        Kit.valley(x, DEAR);
        KIT.due("dear valley", x.status(), 0);
        Kit.weeks(x, "loop 99;day 20;any;post k l 5;end;");
        all(x, 1, 2, false);
        x.valley(0);
        long before = allocated();
        for (int k = 0; k < 8; k++) {
            all(x, k % 4, (k + 1) % 3, true);
            x.feed(0x7374_7269, 0x6b65_2061, 0x3b6c_6177, 0x2061_3b20, 0x2020_2020);
            x.valley(20);
        }
        long made = allocated() - before;
        KIT.due("bytes made by 500 calls: " + made, made < 4096, true);
        before = allocated();
        OddCancel y = new OddCancel();
        made = allocated() - before;
        KIT.due("bytes of an object: " + made, made < 40000 && y.status() == 0, true);
    }

    private static void extremes() {
        int[] far = {Integer.MIN_VALUE, Integer.MIN_VALUE + 1, -2, -1, 0, 1, 2, 3, 5, 6, 12, 13, 60, 61, 99, 100, Integer.MAX_VALUE - 1, Integer.MAX_VALUE};
        for (int v : far) {
            for (int w : far) {
                OddCancel x = new OddCancel();
                all(x, v, w, false);
                Kit.valley(x, DEAR);
                x.tray(0, 0, 60);
                x.tray(1, 3, 60);
                x.tray(2, 3, 0);
                Kit.weeks(x, "loop 99;day 20;any;post k l 5;end;");
                all(x, v, w, false);
                all(x, w, v, true);
                KIT.due("still there", x.told(0), 6);
            }
        }
    }

    private static void dearest() {
        OddCancel x = new OddCancel();
        Kit.valley(x, DEAR);
        Kit.weeks(x, "loop 99;day 20;any;post k l 5;end;");
        long begun = System.nanoTime();
        for (int k = 0; k < 200; k++) {
            KIT.due("idle", x.idle(), 1 + 2 + 4 + 8 + 16 + 128);
            x.mean(0, 20);
            KIT.due("status", x.status(), 0);
        }
        long seconds = (System.nanoTime() - begun) / 1_000_000_000L;
        KIT.due("seconds of 400 dear calls: " + seconds, seconds < 60, true);
    }

    public static void main(String[] args) {
        room();
        extremes();
        dearest();
        KIT.end("RoomTest");
    }
}
