import java.util.function.Supplier;

/** What the tests of boundaries share. */
final class Bounds {
    static final Sentences DOC = doc();
    static final Kit KIT = DOC.kit;
    static final int NONE = OddCancel.NONE;
    static final int LOW = Integer.MIN_VALUE;
    static final int HIGH = Integer.MAX_VALUE;
    /** Three strikes, two hands, three persons. */
    static final String PEOPLE = "strike ok worth 3;strike dud;strike nie worth 5;hand rnd;hand shp;"
        + "person ann hand rnd;person bob hand shp;person cy hand rnd;";
    static final String BASE = PEOPLE
        + "law ok under 5 by rnd;law dud over 50;law nie from bob to cy;law ok to ann;"
        + "acts bob on ok to cy weight 9;acts cy on nie to ann weight 2;acts bob on dud to ann weight 60;"
        + "letter ann bob weight 3;letter bob cy weight 70;letter cy ann weight 20 by shp;letter ann bob weight 20;";
    /** One STRIKE s under 10, then t; two persons in one hand. */
    static final String TWO = "strike s worth 2;strike t worth 7;hand h;person p hand h;person q hand h;law s under 10;law t;";
    /** Two persons in one hand and one strike, without a law. */
    static final String PAIR = "strike s worth 2;hand h;person p hand h;person q hand h;";
    /** Six strikes a to f, four hands g to j, six persons k to p. */
    static final String MOST = "strike a;strike b;strike c;strike d;strike e;strike f;hand g;hand h;hand i;hand j;"
        + "person k hand g;person l hand h;person m hand i;person n hand j;person o hand g;person p hand h;";

    private Bounds() {
    }

    private static Sentences doc() {
        try {
            return new Sentences();
        } catch (java.io.IOException e) {
            throw new IllegalStateException("../shared/DOC.md can't be read", e);
        }
    }

    static OddCancel of(String valley) {
        OddCancel x = new OddCancel();
        Kit.valley(x, valley);
        KIT.due("status of " + valley, x.status(), 0);
        return x;
    }

    static OddCancel living(String valley, String weeks) {
        OddCancel x = of(valley);
        Kit.weeks(x, weeks);
        KIT.due("status of " + weeks, x.status(), 0);
        return x;
    }

    static OddCancel base() {
        return of(BASE);
    }

    /** Of all there is something: covers, letters, trays, a mark, weeks that were lived, a fraction, a tape. */
    static OddCancel full() {
        OddCancel x = living(BASE, "any;day 1;post ann bob 4;drink;");
        x.live(3);
        x.mark();
        x.day(1);
        x.post(2, 0, 44, 1);
        row(x, 0, 0, 0, 1, 2);
        row(x, 1, 1, 50, 0, 60, 1);
        row(x, 3, 3);
        x.sure(1, 2, 70, 1, 1);
        Kit.feed(x, "strike z;");
        return x;
    }

    static void row(OddCancel x, int tray, int sort, long... numbers) {
        x.tray(tray, sort, numbers.length);
        for (int k = 0; k < numbers.length; k++) {
            x.write(tray, k, numbers[k]);
        }
    }

    static void fraction(String what, OddCancel x, long top, long bottom) {
        KIT.given(what + " status", x, 0, 0);
        KIT.due(what + " top", x.top(), top);
        KIT.due(what + " bottom", x.bottom(), bottom);
    }

    /** A refused call on the full object. */
    static void no(int status, String what, Watch.Call call) {
        Watch.no(KIT, what, Bounds::full, status, call);
    }

    static void no(int status, String what, Supplier<OddCancel> made, Watch.Call call) {
        Watch.no(KIT, what, made, status, call);
    }

    /** A call that asks only, on the full object. */
    static void asks(String what, Watch.Call call) {
        Watch.asks(KIT, what, Bounds::full, call);
    }

    /** A text of a VALLEY with a FAULT where the bar stands, which is no part of it. */
    static void fault(int kind, String marked) {
        OddCancel x = new OddCancel();
        KIT.refused(marked, x, Kit.valley(x, marked.replace("|", "")), 9);
        KIT.due(marked + " fault", x.fault(0), kind);
        KIT.due(marked + " place", x.fault(1), marked.indexOf('|'));
    }

    static void weeksFault(int kind, String marked) {
        OddCancel x = of(PEOPLE);
        KIT.refused(marked, x, Kit.weeks(x, marked.replace("|", "")), 9);
        KIT.due(marked + " fault", x.fault(0), kind);
        KIT.due(marked + " place", x.fault(1), marked.indexOf('|'));
    }

    static void fine(String text, int laws) {
        OddCancel x = new OddCancel();
        KIT.given(text, x, Kit.valley(x, text), laws);
        KIT.due(text + " fault", x.fault(0), 0);
        KIT.due(text + " place", x.fault(1), NONE);
    }

    static void fineWeeks(String text, int steps) {
        OddCancel x = of(PEOPLE);
        KIT.given(text, x, Kit.weeks(x, text), steps);
        KIT.due(text + " fault", x.fault(0), 0);
        KIT.due(text + " place", x.fault(1), NONE);
    }
}
