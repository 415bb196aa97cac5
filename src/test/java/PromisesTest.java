/** Each promise of the document by answers worked out by hand: ordinary ones, edges, wrong inputs. */
public final class PromisesTest {
    private static final Kit KIT = new Kit();
    private static final int NONE = OddCancel.NONE;
    private static final int LOW = Integer.MIN_VALUE;
    private static final int HIGH = Integer.MAX_VALUE;
    private static final String PEOPLE = FaultsTest.VALLEY;
    private static final String BASE = PEOPLE
        + "law ok under 5 by rnd;law dud over 50;law nie from bob to cy;law ok to ann;"
        + "acts bob on ok to cy weight 9;acts cy on nie to ann weight 2;acts bob on dud to ann weight 60;"
        + "letter ann bob weight 3;letter bob cy weight 70;letter cy ann weight 20 by shp;letter ann bob weight 20;";
    /** One STRIKE s under 10, then t; two persons in one hand. */
    private static final String TWO = "strike s worth 2;strike t worth 7;hand h;person p hand h;person q hand h;law s under 10;law t;";

    private static OddCancel of(String valley) {
        OddCancel x = new OddCancel();
        Kit.valley(x, valley);
        return x;
    }

    private static OddCancel base() {
        return of(BASE);
    }

    private static void fraction(String what, OddCancel x, long top, long bottom) {
        KIT.due(what + " top", x.top(), top);
        KIT.due(what + " bottom", x.bottom(), bottom);
    }

    private static void row(OddCancel x, int tray, int sort, long... numbers) {
        x.tray(tray, sort, numbers.length);
        for (int k = 0; k < numbers.length; k++) {
            x.write(tray, k, numbers[k]);
        }
    }

    private static void p1to4() {
        OddCancel x = new OddCancel();
        KIT.due("new status", x.status(), 0);
        fraction("new", x, 0, 1);
        for (int what = 0; what < 12; what++) {
            KIT.given("new told " + what, x, x.told(what), what == 6 ? 4 : 0);
        }
        for (int tray = 0; tray < 4; tray++) {
            KIT.refused("new read", x, x.read(tray, 0), 2);
        }
        KIT.refused("new valley(1)", x, x.valley(1), 1);
        KIT.refused("new live", x, x.live(0), 6);
        KIT.refused("new lived", x, x.lived(0), 6);
        KIT.refused("new undo", x, x.undo(), 6);
        KIT.due("new fault", x.fault(0), NONE);
        KIT.due("new place", x.fault(1), NONE);
        KIT.due("status stays", x.status(), 6);
        x.top();
        x.bottom();
        x.feed(1, 2, 3, 4, 5);
        x.fault(7);
        KIT.due("status of none of these", x.status(), 6);
        OddCancel y = base();
        y.sure(1, 2, 70, 1, 1);
        fraction("sure", y, 3, 4);
        y.sure(1, 2, 70, 1, 9);
        y.told(0);
        fraction("kept", y, 3, 4);
    }

    private static void p5to7() {
        OddCancel x = new OddCancel();
        KIT.given("tray", x, x.tray(0, 0, 60));
        KIT.given("tray of none", x, x.tray(3, 3, 0));
        int[][] wrong = {{-1, 0, 1}, {4, 0, 1}, {0, -1, 1}, {0, 4, 1}, {0, 0, -1}, {0, 0, 61}, {LOW, HIGH, 0}, {0, 0, HIGH}};
        for (int[] w : wrong) {
            KIT.refused("tray wrong", x, x.tray(w[0], w[1], w[2]), 1);
        }
        KIT.given("read 0", x, x.read(0, 59), 0);
        KIT.refused("read behind", x, x.read(0, 60), 3);
        KIT.refused("read ahead", x, x.read(0, -1), 3);
        KIT.refused("read empty", x, x.read(3, 0), 3);
        KIT.refused("read missing", x, x.read(1, 0), 2);
        KIT.refused("read missing ahead", x, x.read(1, -1), 2);
        KIT.refused("read none", x, x.read(4, 0), 1);
        KIT.refused("read low", x, x.read(LOW, LOW), 1);
        KIT.refused("write missing", x, x.write(1, 0, 1), 2);
        KIT.refused("write behind", x, x.write(0, 60, 1), 3);
        KIT.refused("write high", x, x.write(0, HIGH, 1), 3);
        KIT.refused("write none", x, x.write(-1, 0, 1), 1);
        long v = 0x123456789abcdef0L;
        long[] due = {(byte) 0xf0, (short) 0xdef0, 0x9abcdef0, v};
        for (int sort = 0; sort < 4; sort++) {
            x.tray(2, sort, 2);
            KIT.given("write cut", x, x.write(2, 1, v));
            KIT.given("read cut", x, x.read(2, 1), due[sort]);
            x.write(2, 1, -1);
            KIT.given("read -1", x, x.read(2, 1), -1);
        }
        KIT.due("128 by 8 bits", cut(0, 128), -128);
        KIT.due("127 by 8 bits", cut(0, 127), 127);
        KIT.due("32768 by 16 bits", cut(1, 32768), -32768);
        KIT.due("2^31 by 32 bits", cut(2, 1L << 31), LOW);
        KIT.due("low by 64 bits", cut(3, Long.MIN_VALUE), Long.MIN_VALUE);
        x.write(2, 0, 5);
        x.tray(2, 1, 2);
        KIT.due("a tray again is 0s", x.read(2, 0), 0);
        x.tray(2, 9, 2);
        KIT.due("a refused one changes nothing", x.read(2, 1), 0);
    }

    private static long cut(int sort, long v) {
        OddCancel x = new OddCancel();
        x.tray(0, sort, 1);
        x.write(0, 0, v);
        return x.read(0, 0);
    }

    private static void p8() {
        OddCancel x = new OddCancel();
        row(x, 0, 2, 1, 2, 3, 4, 5);
        row(x, 1, 2, 9, 9, 9);
        row(x, 2, 1, 7, 7);
        KIT.given("pour", x, x.pour(0, 1, 1, 0, 2));
        KIT.due("poured", x.read(1, 0) * 100 + x.read(1, 1) * 10 + x.read(1, 2), 239);
        KIT.given("pour on itself, on", x, x.pour(0, 0, 0, 1, 4));
        KIT.due("as they were", digits(x, 0, 5), 11234);
        KIT.given("pour on itself, back", x, x.pour(0, 2, 0, 0, 3));
        KIT.due("as they were then", digits(x, 0, 5), 23434);
        KIT.given("pour none", x, x.pour(0, 5, 1, 3, 0));
        int[][] ones = {{-1, 0, 1, 0, 1}, {4, 0, 1, 0, 1}, {0, 0, -1, 0, 1}, {0, 0, 4, 0, 1}, {0, -1, 1, 0, 1}, {0, 0, 1, -1, 1},
            {0, 0, 1, 0, -1}, {3, 0, 3, 0, LOW}};
        for (int[] a : ones) {
            KIT.refused("pour wrong", x, x.pour(a[0], a[1], a[2], a[3], a[4]), 1);
        }
        KIT.refused("pour from missing", x, x.pour(3, 0, 1, 0, 1), 2);
        KIT.refused("pour to missing", x, x.pour(0, 0, 3, 0, 1), 2);
        KIT.refused("pour unlike", x, x.pour(0, 0, 2, 0, 1), 8);
        KIT.refused("pour unlike, too few", x, x.pour(0, 0, 2, 9, 9), 8);
        KIT.refused("pour too few", x, x.pour(0, 4, 1, 0, 2), 3);
        KIT.refused("pour too few there", x, x.pour(0, 0, 1, 2, 2), 3);
        KIT.refused("pour high", x, x.pour(0, HIGH, 1, 0, HIGH), 3);
        KIT.refused("pour high there", x, x.pour(0, 0, 1, HIGH, 1), 3);
        KIT.refused("pour none from beyond", x, x.pour(0, 6, 1, 0, 0), 3);
        KIT.due("refused: nothing changes", digits(x, 0, 5) * 1000 + digits(x, 1, 3), 23434239);
    }

    private static long digits(OddCancel x, int tray, int many) {
        long d = 0;
        for (int k = 0; k < many; k++) {
            d = d * 10 + x.read(tray, k);
        }
        return d;
    }

    private static void p9to12() {
        OddCancel x = new OddCancel();
        for (int k = 1; k <= 45; k++) {
            KIT.due("feed", x.feed(0x20202020, 0x20202020, 0x20202020, 0x20202020, 0x20202020), 20 * k);
        }
        KIT.due("feed beyond 900", x.feed(1, 1, 1, 1, 1), NONE);
        KIT.refused("valley below 0", x, x.valley(-1), 1);
        KIT.refused("valley beyond the tape", x, x.valley(901), 1);
        KIT.refused("valley low", x, x.valley(LOW), 1);
        KIT.due("no fault told yet", x.fault(0), NONE);
        KIT.refused("weeks above 300", x, x.weeks(301), 1);
        KIT.refused("weeks below 0", x, x.weeks(-1), 1);
        KIT.due("the tape stays", x.feed(1, 1, 1, 1, 1), NONE);
        KIT.given("weeks of blanks", x, x.weeks(300), 0);
        KIT.due("the tape is empty", x.feed(1, 1, 1, 1, 1), 20);
        KIT.refused("weeks beyond the tape", x, x.weeks(21), 1);
        KIT.refused("nothing fits", x, x.valley(20), 9);
        KIT.due("fault", x.fault(0), 1);
        KIT.due("place", x.fault(1), 0);
        KIT.due("fault(2)", x.fault(2), NONE);
        KIT.due("fault(-1)", x.fault(-1), NONE);
        KIT.refused("valley(1) of an empty tape", x, x.valley(1), 1);
        KIT.due("fault stays with 1", x.fault(0), 1);
        Kit.feed(x, "strike s;law s;#####");
        KIT.given("the first bytes alone", x, x.valley(15), 1);
        KIT.due("no fault", x.fault(0), 0);
        KIT.due("no place", x.fault(1), NONE);
        x.feed(0x7374_7269, 0x6b65_2061, 0x3b20_2020, 0x2020_2020, 0x2020_2020);
        KIT.given("the highest byte first", x, x.valley(20), 0);
        KIT.due("a strike", x.told(0), 1);
        KIT.given("valley(0)", x, x.valley(0), 0);
        KIT.due("nothing is there", x.told(0), 0);
        KIT.given("weeks(0)", x, x.weeks(0), 0);
        KIT.given("weeks of nothing are lived", x, x.live(0), 0);
        newValleyForgets();
    }

    private static void newValleyForgets() {
        OddCancel x = base();
        Kit.weeks(x, "any;");
        x.pub(9);
        x.drink(true);
        x.day(2);
        KIT.given("valley", x, Kit.valley(x, TWO), 2);
        int[] due = {2, 1, 2, 2, 0, 0, 4, 0, 0, 0, 0, 0};
        for (int what = 0; what < 12; what++) {
            KIT.given("told " + what, x, x.told(what), due[what]);
        }
        KIT.refused("no weeks then", x, x.live(0), 6);
        KIT.due("strikes begin again", x.strikes(0), 0);
        KIT.refused("acts are gone", x, x.acts(1, 0, 0), 6);
        OddCancel y = base();
        Kit.weeks(y, "day 2;");
        y.drink(true);
        Kit.valley(y, "strike");
        KIT.due("a fault changes nothing", y.told(3) * 100 + y.told(8) * 10 + y.live(0), 411);
    }

    private static void p13to20() {
        OddCancel x = base();
        int[] due = {3, 2, 3, 4, 4, 0, 4, 0, 0, 0, 0, 0};
        for (int what = 0; what < 12; what++) {
            KIT.given("told " + what, x, x.told(what), due[what]);
        }
        KIT.refused("told -1", x, x.told(-1), 1);
        KIT.refused("told 12", x, x.told(12), 1);
        KIT.given("worth 0", x, x.worth(0), 3);
        KIT.given("worth without", x, x.worth(1), 1);
        KIT.refused("worth 3", x, x.worth(3), 1);
        KIT.refused("worth -1", x, x.worth(-1), 1);
        KIT.given("hand", x, x.hand(1), 1);
        KIT.given("hand", x, x.hand(2), 0);
        KIT.refused("hand 3", x, x.hand(3), 1);
        KIT.refused("hand low", x, x.hand(LOW), 1);
        int[][] laws = {{0, 5, NONE, 0, NONE, NONE}, {1, NONE, 50, NONE, NONE, NONE}, {2, NONE, NONE, NONE, 1, 2}, {0, NONE, NONE, NONE, NONE, 0}};
        for (int law = 0; law < 4; law++) {
            for (int what = 0; what < 6; what++) {
                KIT.due("law " + law + " " + what, x.law(law, what), laws[law][what]);
                KIT.due("law status", x.status(), laws[law][what] == NONE ? 6 : 0);
            }
        }
        KIT.refused("law 4", x, x.law(4, 0), 1);
        KIT.refused("law -1", x, x.law(-1, 0), 1);
        KIT.refused("law what", x, x.law(0, 6), 1);
        KIT.refused("law what -1", x, x.law(0, -1), 1);
        KIT.given("acts", x, x.acts(1, 0, 0), 2);
        KIT.given("acts weight", x, x.acts(1, 0, 1), 9);
        KIT.refused("acts not", x, x.acts(0, 0, 0), 6);
        int[][] wrong = {{3, 0, 0}, {-1, 0, 0}, {0, 3, 0}, {0, -1, 0}, {1, 0, 2}, {1, 0, -1}};
        for (int[] w : wrong) {
            KIT.refused("acts wrong", x, x.acts(w[0], w[1], w[2]), 1);
        }
        OddCancel y = of(PEOPLE + "acts ann on ok to bob weight 4;acts ann on ok to cy weight 6;");
        KIT.due("acts told again", y.acts(0, 0, 0) * 10 + y.acts(0, 0, 1), 26);
        KIT.due("odds told", of("odds 11;").told(6), 11);
        p18to20(x);
    }

    private static void p18to20(OddCancel x) {
        int[][] letters = {{0, 1, 3, 0}, {1, 2, 70, 1}, {2, 0, 20, 1}, {0, 1, 20, 0}};
        for (int k = 0; k < 4; k++) {
            for (int what = 0; what < 4; what++) {
                KIT.given("letter", x, x.letter(k, what), letters[k][what]);
            }
        }
        KIT.refused("letter 4", x, x.letter(4, 0), 1);
        KIT.refused("letter -1", x, x.letter(-1, 0), 1);
        KIT.refused("letter what", x, x.letter(0, 4), 1);
        KIT.refused("letter what -1", x, x.letter(0, -1), 1);
        KIT.refused("no cover yet", x, x.cover(0, 0), 1);
        x.day(1);
        int[][] covers = {{2, 0, 20, 1, 0}, {0, 1, 3, 0, 0}, {0, 1, 20, 0, NONE}, {1, 2, 70, 1, 1}};
        for (int k = 0; k < 4; k++) {
            for (int what = 0; what < 5; what++) {
                KIT.due("cover " + k + " " + what, x.cover(k, what), covers[k][what]);
                KIT.due("cover status", x.status(), covers[k][what] == NONE ? 6 : 0);
            }
        }
        KIT.refused("cover 4", x, x.cover(4, 0), 1);
        KIT.refused("cover what", x, x.cover(0, 5), 1);
        KIT.refused("cover what -1", x, x.cover(0, -1), 1);
        KIT.given("strikes 0", x, x.strikes(0), 2);
        KIT.given("strikes 1", x, x.strikes(1), 1);
        KIT.given("strikes 2", x, x.strikes(2), 0);
        KIT.refused("strikes 3", x, x.strikes(3), 1);
        KIT.refused("strikes -1", x, x.strikes(-1), 1);
        x.day(1);
        KIT.due("in all", x.strikes(0) * 100 + x.strikes(1) * 10 + x.strikes(2), 211);
    }

    private static void p21() {
        OddCancel x = of(PEOPLE);
        KIT.given("post", x, x.post(0, 1, 5, 1), 1);
        KIT.due("as told", x.letter(0, 0) * 1000 + x.letter(0, 1) * 100 + x.letter(0, 2) * 10 + x.letter(0, 3), 151);
        int[][] wrong = {{0, 0, 5, 0}, {3, 0, 5, 0}, {-1, 0, 5, 0}, {0, 3, 5, 0}, {0, -1, 5, 0}, {0, 1, 0, 0}, {0, 1, 100, 0}, {0, 1, LOW, 0},
            {0, 1, 5, 2}, {0, 1, 5, -1}};
        for (int[] w : wrong) {
            KIT.refused("post wrong", x, x.post(w[0], w[1], w[2], w[3]), 1);
        }
        for (int k = 2; k <= 12; k++) {
            KIT.given("post", x, x.post(0, 1, k == 2 ? 1 : 99, 0), k);
        }
        KIT.refused("a 13th", x, x.post(0, 1, 5, 0), 4);
        KIT.refused("a 13th, wrong", x, x.post(0, 0, 5, 0), 1);
        KIT.due("12 wait", x.told(4), 12);
    }

    private static void p22() {
        OddCancel x = base();
        KIT.given("a day", x, x.day(1), 4);
        KIT.due("told", x.told(4) * 10000 + x.told(5) * 1000 + x.told(7) * 100 + x.told(9) * 10 + x.told(10), 14141);
        KIT.due("worth", x.told(11), 7);
        KIT.due("answer", x.letter(0, 0) * 1000 + x.letter(0, 1) * 100 + x.letter(0, 2) * 10 + x.letter(0, 3), 1291);
        KIT.given("the next", x, x.day(1), 1);
        KIT.due("nie", x.cover(0, 4), 2);
        KIT.due("worth", x.told(11), 12);
        KIT.given("three more", x, x.day(3), 1);
        KIT.due("told", x.told(4) * 1000 + x.told(5) * 100 + x.told(7) * 10 + x.told(9), 56);
        KIT.due("worth", x.told(11), 15);
        KIT.refused("day 0", x, x.day(0), 1);
        KIT.refused("day 100", x, x.day(100), 1);
        KIT.refused("day low", x, x.day(LOW), 1);
        for (int k = 0; k < 100; k++) {
            x.day(99);
        }
        KIT.due("so far", x.told(7), 9905);
        KIT.refused("above 9,999", x, x.day(95), 4);
        KIT.refused("wrong ahead of above", x, x.day(100), 1);
        KIT.given("to 9,999", x, x.day(94), 0);
        KIT.refused("one more", x, x.day(1), 4);
        KIT.due("9,999", x.told(7), 9999);
        orderOfCovers();
        answersOfTwelve();
    }

    private static void orderOfCovers() {
        OddCancel x = of(PEOPLE + "letter ann cy weight 1;letter bob ann weight 2;letter ann bob weight 3;letter cy ann weight 4;letter bob cy weight 5;letter cy bob weight 6;");
        x.day(1);
        int order = 0;
        for (int k = 0; k < 6; k++) {
            order = order * 10 + x.cover(k, 2);
        }
        KIT.due("by receiver, then as posted", order, 243615);
        KIT.due("all plain", x.told(10), 6);
        KIT.due("no worth", x.told(11), 0);
    }

    private static void answersOfTwelve() {
        OddCancel x = of(TWO + "acts p on s to q weight 3;acts q on s to p weight 4;" + "letter p q weight 5;letter q p weight 6;".repeat(6));
        KIT.given("three days", x, x.day(3), 36);
        KIT.due("12 wait again", x.told(4), 12);
        KIT.due("first answer is the first person's", x.letter(0, 0) * 100 + x.letter(0, 2) * 10 + x.letter(6, 0), 31);
        KIT.due("worth", x.told(11), 72);
        x.learn(0, 0);
        OddCancel y = base();
        y.learn(1, 0);
        y.day(1);
        KIT.due("the answer is in his hand of that day", y.letter(0, 3), 0);
    }

    private static void p23to30() {
        OddCancel x = base();
        KIT.refused("sober is sober", x, x.drink(false), 7);
        KIT.given("drink", x, x.drink(true));
        KIT.refused("drunk is drunk", x, x.drink(true), 7);
        KIT.due("drunk", x.told(8), 1);
        x.day(1);
        KIT.due("drunk strikes", x.cover(0, 4) * 100 + x.cover(1, 4) * 10 + x.cover(3, 4), 112);
        KIT.refused("plain stays", x, x.cover(2, 4), 6);
        KIT.given("sober up", x, x.drink(false));
        KIT.due("sober", x.told(8), 0);
        OddCancel y = base();
        KIT.given("take", y, y.take(1), 3);
        KIT.due("the others close up", y.letter(0, 2) * 10000 + y.letter(1, 2) * 100 + y.letter(2, 2), 32020);
        KIT.refused("take 3", y, y.take(3), 1);
        KIT.refused("take -1", y, y.take(-1), 1);
        KIT.given("take", y, y.take(0), 2);
        KIT.given("take", y, y.take(1), 1);
        KIT.given("take", y, y.take(0), 0);
        KIT.refused("take none", y, y.take(0), 1);
        wrappedAndLearn();
        teachAndForget();
        swayAndPub();
    }

    private static void wrappedAndLearn() {
        OddCancel x = base();
        KIT.given("wrapped", x, x.wrapped(0, 96), 99);
        KIT.due("weighs", x.letter(0, 2), 99);
        KIT.refused("above 99", x, x.wrapped(0, 1), 7);
        KIT.refused("above 99", x, x.wrapped(1, 30), 7);
        KIT.given("to 99", x, x.wrapped(1, 29), 99);
        int[][] wrong = {{4, 1}, {-1, 1}, {2, 0}, {2, 99}, {2, -1}, {2, HIGH}};
        for (int[] w : wrong) {
            KIT.refused("wrapped wrong", x, x.wrapped(w[0], w[1]), 1);
        }
        KIT.given("learn", x, x.learn(0, 1));
        KIT.due("hand", x.hand(0), 1);
        KIT.due("letters stay", x.letter(0, 3), 0);
        int[][] bad = {{3, 0}, {-1, 0}, {0, 2}, {0, -1}};
        for (int[] w : bad) {
            KIT.refused("learn wrong", x, x.learn(w[0], w[1]), 1);
        }
    }

    private static void teachAndForget() {
        OddCancel x = base();
        KIT.given("teach", x, x.teach(0, 2, 2, 99));
        KIT.due("acts", x.acts(0, 2, 0) * 100 + x.acts(0, 2, 1), 299);
        KIT.given("teach again", x, x.teach(1, 0, 0, 1));
        KIT.due("acts", x.acts(1, 0, 0) * 100 + x.acts(1, 0, 1), 1);
        int[][] wrong = {{3, 0, 0, 1}, {-1, 0, 0, 1}, {0, 3, 1, 1}, {0, -1, 1, 1}, {0, 0, 3, 1}, {0, 0, -1, 1}, {0, 0, 0, 1}, {0, 0, 1, 0}, {0, 0, 1, 100}};
        for (int[] w : wrong) {
            KIT.refused("teach wrong", x, x.teach(w[0], w[1], w[2], w[3]), 1);
        }
        KIT.given("forget", x, x.forget(1, 0));
        KIT.refused("acts no more", x, x.acts(1, 0, 0), 6);
        KIT.refused("forget again", x, x.forget(1, 0), 7);
        KIT.refused("forget 3", x, x.forget(3, 0), 1);
        KIT.refused("forget -1", x, x.forget(0, -1), 1);
        KIT.refused("forget strike 3", x, x.forget(0, 3), 1);
        x.day(1);
        KIT.due("nobody answers", x.told(4), 0);
    }

    private static void swayAndPub() {
        OddCancel x = base();
        KIT.given("sway", x, x.sway(1));
        KIT.due("places", x.law(1, 0) * 100 + x.law(1, 4) * 10 + x.law(2, 0), 211);
        KIT.due("over", x.law(2, 2), 50);
        KIT.due("fits now", x.strikeOf(1, 2, 70, 1), 2);
        KIT.given("sway 2", x, x.sway(2));
        KIT.refused("none is behind", x, x.sway(3), 1);
        KIT.refused("sway -1", x, x.sway(-1), 1);
        OddCancel y = of("strike s;law s;");
        KIT.refused("one law", y, y.sway(0), 1);
        KIT.given("pub", x, x.pub(16));
        KIT.due("odds", x.told(6), 16);
        KIT.given("pub 0", x, x.pub(0));
        KIT.refused("pub 17", x, x.pub(17), 1);
        KIT.refused("pub -1", x, x.pub(-1), 1);
        KIT.due("odds stay", x.told(6), 0);
    }

    private static void p31to34() {
        OddCancel x = base();
        KIT.given("lawOf", x, x.lawOf(0, 1, 4, 0), 0);
        KIT.refused("under 5 is below 5", x, x.lawOf(0, 1, 5, 0), 6);
        KIT.refused("over 50 is above 50", x, x.lawOf(0, 1, 50, 0), 6);
        KIT.given("51", x, x.lawOf(0, 1, 51, 0), 1);
        KIT.given("from bob to cy", x, x.lawOf(1, 2, 50, 0), 2);
        KIT.given("to ann", x, x.lawOf(1, 0, 20, 0), 3);
        KIT.refused("by another", x, x.lawOf(0, 1, 4, 1), 6);
        KIT.given("strikeOf", x, x.strikeOf(1, 0, 20, 0), 0);
        KIT.refused("plain", x, x.strikeOf(2, 1, 20, 0), 6);
        KIT.given("sober now", x, x.struckNow(1, 2, 20, 1), 2);
        x.drink(true);
        KIT.given("drunk: behind the last the first", x, x.struckNow(1, 2, 20, 1), 0);
        KIT.given("drunk: the next", x, x.struckNow(1, 2, 70, 1), 2);
        KIT.given("strikeOf is sober", x, x.strikeOf(1, 2, 70, 1), 1);
        KIT.refused("plain stays", x, x.struckNow(2, 1, 20, 0), 6);
        KIT.given("lawsOf", x, x.lawsOf(1, 2, 70, 1), 6);
        KIT.given("lawsOf", x, x.lawsOf(2, 0, 3, 0), 9);
        KIT.given("lawsOf none", x, x.lawsOf(2, 1, 20, 0), 0);
        int[][] wrong = {{0, 0, 5, 0}, {3, 0, 5, 0}, {-1, 0, 5, 0}, {0, 3, 5, 0}, {0, -1, 5, 0}, {0, 1, 0, 0}, {0, 1, 100, 0}, {0, 1, 5, 2}, {0, 1, 5, -1},
            {LOW, HIGH, LOW, HIGH}};
        for (int[] w : wrong) {
            KIT.refused("lawOf wrong", x, x.lawOf(w[0], w[1], w[2], w[3]), 1);
            KIT.refused("strikeOf wrong", x, x.strikeOf(w[0], w[1], w[2], w[3]), 1);
            KIT.refused("struckNow wrong", x, x.struckNow(w[0], w[1], w[2], w[3]), 1);
            KIT.refused("lawsOf wrong", x, x.lawsOf(w[0], w[1], w[2], w[3]), 1);
            KIT.refused("sure wrong", x, x.sure(w[0], w[1], w[2], w[3], 0), 1);
            KIT.refused("wrap wrong", x, x.wrap(w[0], w[1], w[2], w[3], 0), 1);
        }
        KIT.given("all of a law that asks nothing", of(TWO), of(TWO).lawsOf(0, 1, 9, 0), 3);
    }

    private static void p35to40() {
        OddCancel x = base();
        KIT.given("sure", x, x.sure(1, 2, 70, 1, 1));
        fraction("sober part", x, 3, 4);
        x.sure(1, 2, 70, 1, 2);
        fraction("drunk part", x, 1, 4);
        x.sure(1, 2, 20, 1, 0);
        fraction("behind the last", x, 1, 4);
        x.sure(1, 2, 70, 1, 0);
        fraction("never", x, 0, 1);
        x.sure(0, 1, 20, 0, 0);
        fraction("plain", x, 0, 1);
        x.pub(16);
        x.sure(1, 2, 70, 1, 2);
        fraction("always drunk", x, 1, 1);
        x.pub(3);
        x.drink(true);
        x.sure(1, 2, 70, 1, 1);
        fraction("13 sixteenths", x, 13, 16);
        KIT.refused("sure strike 3", x, x.sure(1, 2, 70, 1, 3), 1);
        KIT.refused("sure strike -1", x, x.sure(1, 2, 70, 1, -1), 1);
        fraction("stays", x, 13, 16);
        OddCancel one = of("strike s;hand h;person p hand h;person q hand h;law s;");
        one.sure(0, 1, 1, 0, 0);
        fraction("one strike alone", one, 1, 1);
        wraps(base());
        idles();
    }

    private static void wraps(OddCancel x) {
        x.drink(true);
        KIT.given("wrap", x, x.wrap(1, 2, 20, 1, 1), 31);
        KIT.given("wrap none", x, x.wrap(0, 1, 3, 0, 0), 0);
        KIT.refused("wrap never", x, x.wrap(0, 1, 20, 0, 0), 6);
        KIT.given("wrap at 99", x, x.wrap(0, 1, 99, 0, 1), 0);
        KIT.refused("wrap strike 3", x, x.wrap(0, 1, 3, 0, 3), 1);
        OddCancel y = of("strike s;hand h;person p hand h;person q hand h;law s over 98;");
        KIT.given("wrap 98", y, y.wrap(0, 1, 1, 0, 0), 98);
        KIT.given("weights", x, x.weights(0, 1, 0, 0), 4);
        KIT.given("weights", x, x.weights(0, 1, 0, 1), 49);
        KIT.given("no weights", x, x.weights(0, 1, 0, 2), 0);
        KIT.given("all weights", y, of(TWO.replace("under 10", "")).weights(0, 1, 0, 0), 99);
        KIT.given("least", x, x.weightAt(1, 2, 1, 2, 0), 1);
        KIT.given("greatest", x, x.weightAt(1, 2, 1, 2, 1), 50);
        KIT.given("least", x, x.weightAt(0, 1, 0, 1, 0), 51);
        KIT.given("greatest", x, x.weightAt(0, 1, 0, 1, 1), 99);
        KIT.refused("none", x, x.weightAt(0, 1, 0, 2, 1), 6);
        KIT.refused("what 2", x, x.weightAt(0, 1, 0, 1, 2), 1);
        KIT.refused("what -1", x, x.weightAt(0, 1, 0, 1, -1), 1);
        KIT.refused("weightAt strike", x, x.weightAt(0, 1, 0, 3, 0), 1);
        KIT.refused("weights strike", x, x.weights(0, 1, 0, -1), 1);
        KIT.given("could", x, x.could(1, 2, 0), 7);
        KIT.given("could", x, x.could(0, 1, 0), 3);
        KIT.given("could", x, x.could(0, 1, 1), 2);
        int[][] wrong = {{0, 0, 0}, {3, 0, 0}, {0, 3, 0}, {-1, 0, 0}, {0, -1, 0}, {0, 1, 2}, {0, 1, -1}};
        for (int[] w : wrong) {
            KIT.refused("could wrong", x, x.could(w[0], w[1], w[2]), 1);
            KIT.refused("weights wrong", x, x.weights(w[0], w[1], w[2], 0), 1);
            KIT.refused("weightAt wrong", x, x.weightAt(w[0], w[1], w[2], 0, 0), 1);
        }
    }

    private static void idles() {
        OddCancel x = base();
        KIT.given("none idle", x, x.idle(), 0);
        x = of(PEOPLE + "law ok under 1;law dud over 99;law nie over 97 under 99;");
        KIT.due("that is a fault", x.status(), 9);
        x = of(PEOPLE + "law ok under 1;law dud over 99;law nie under 50 over 49;law ok under 99 over 97;law ok from ann to ann;law nie;law ok by shp;law dud;");
        KIT.given("idle", x, x.idle(), 1 + 2 + 4 + 16 + 64 + 128);
        x = of("strike s;hand h;person p hand h;law s;law s;");
        KIT.given("one person: all are idle", x, x.idle(), 3);
        x = of("strike s;law s;");
        KIT.given("nobody", x, x.idle(), 1);
        x = of("strike s;hand h;hand i;person p hand h;person q hand h;law s by i;");
        KIT.given("any hand, not his own alone", x, x.idle(), 0);
        KIT.given("no laws", x, of("").idle(), 0);
    }

    private static void p41to42() {
        OddCancel x = base();
        KIT.given("one letter", x, x.via(0, 2, 60, 1), 1);
        KIT.given("goes there", x, x.viaFirst(0, 2, 60, 1), 2);
        KIT.given("two letters", x, x.via(0, 2, 3, 2), 2);
        KIT.given("by bob", x, x.viaFirst(0, 2, 3, 2), 1);
        KIT.refused("plain ahead", x, x.via(0, 2, 20, 2), 6);
        KIT.refused("plain ahead", x, x.viaFirst(0, 2, 20, 2), 6);
        x.learn(0, 1);
        KIT.refused("in his hand of now", x, x.via(0, 2, 3, 2), 6);
        int[][] wrong = {{0, 0, 5, 0}, {3, 0, 5, 0}, {-1, 0, 5, 0}, {0, 3, 5, 0}, {0, -1, 5, 0}, {0, 1, 0, 0}, {0, 1, 100, 0}, {0, 1, 5, 3}, {0, 1, 5, -1}};
        for (int[] w : wrong) {
            KIT.refused("via wrong", x, x.via(w[0], w[1], w[2], w[3]), 1);
            KIT.refused("viaFirst wrong", x, x.viaFirst(w[0], w[1], w[2], w[3]), 1);
        }
        String four = "strike s;strike t;hand h;person a hand h;person b hand h;person c hand h;person d hand h;";
        x = of(four + "law s from a to b;law s from a to c;law t from c to d;law t from b to d;");
        KIT.given("two ways", x, x.via(0, 3, 9, 1), 2);
        KIT.given("the first of them", x, x.viaFirst(0, 3, 9, 1), 1);
        x = of(four + "law s from a to b;law s from b to c;law t from c to d;law s from a to d;");
        KIT.given("three letters", x, x.via(0, 3, 9, 1), 3);
        KIT.given("straight with s", x, x.via(0, 3, 9, 0), 1);
        x = of(four + "law s from a to d;law s from d to b;law t from b to d;");
        KIT.given("by way of the last one himself", x, x.via(0, 3, 9, 1), 3);
        KIT.given("the first goes to him", x, x.viaFirst(0, 3, 9, 1), 3);
        x.drink(true);
        KIT.given("he is sober here", x, x.via(0, 3, 9, 1), 3);
        KIT.refused("never", x, x.via(0, 2, 9, 1), 6);
    }

    private static void p43to46() {
        OddCancel x = base();
        x.drink(true);
        KIT.given("echo", x, x.echo(1, 0), 2);
        KIT.given("echo", x, x.echo(2, 2), 1);
        KIT.given("echo", x, x.echo(1, 1), 1);
        KIT.given("echo of none", x, x.echo(0, 0), 0);
        KIT.refused("no ring", x, x.round(1, 0), 6);
        KIT.given("no rings", x, x.rings(), 0);
        KIT.given("longest", x, x.longest(), 10);
        x.teach(0, 0, 1, 20);
        KIT.given("a plain one counts, and ends it", x, x.echo(1, 0), 3);
        x.teach(0, 0, 1, 3);
        KIT.refused("round", x, x.echo(0, 0), 7);
        KIT.given("three in the ring", x, x.round(0, 0), 3);
        KIT.given("three rings", x, x.rings(), 3);
        x.teach(0, 1, 1, 4);
        KIT.refused("comes to the ring", x, x.echo(1, 1), 7);
        KIT.given("the ring alone", x, x.round(1, 1), 3);
        KIT.given("three still", x, x.rings(), 3);
        KIT.given("the least of echoes of 0", x, x.longest(), 2);
        int[][] wrong = {{3, 0}, {-1, 0}, {0, 3}, {0, -1}, {LOW, HIGH}};
        for (int[] w : wrong) {
            KIT.refused("echo wrong", x, x.echo(w[0], w[1]), 1);
            KIT.refused("round wrong", x, x.round(w[0], w[1]), 1);
        }
        OddCancel y = of("strike s;hand h;person p hand h;person q hand h;law s;acts p on s to q weight 5;acts q on s to p weight 5;");
        KIT.refused("all go round", y, y.longest(), 6);
        KIT.given("both come round", y, y.rings(), 2);
        KIT.given("two", y, y.round(1, 0), 2);
        y.forget(1, 0);
        KIT.given("longest", y, y.longest(), 0);
        KIT.given("one letter", y, y.echo(0, 0), 1);
        OddCancel z = of(PEOPLE);
        KIT.given("nobody acts", z, z.longest(), 0);
        OddCancel nothing = new OddCancel();
        KIT.refused("nothing", nothing, nothing.longest(), 6);
        KIT.given("nothing", nothing, nothing.rings(), 0);
    }

    private static void p47to49() {
        OddCancel x = of(TWO + "letter p q weight 1;letter p q weight 20;letter p q weight 2;letter p q weight 30;letter p q weight 3;");
        x.day(1);
        row(x, 0, 0, 0, 1, 0, 1, 0, 0);
        KIT.given("one: three ways", x, x.reads(0, 1), 3);
        KIT.given("s t: 3 ways", x, x.reads(0, 2), 3);
        KIT.given("s t s: 4 ways", x, x.reads(0, 3), 4);
        KIT.given("all", x, x.reads(0, 5), 1);
        KIT.given("too long", x, x.reads(0, 6), 0);
        KIT.given("just", x, x.isJust(0, 5), 1);
        KIT.given("not just", x, x.isJust(0, 4), 0);
        KIT.given("not just", x, x.isJust(0, 6), 0);
        x.write(0, 4, 1);
        KIT.given("unlike", x, x.isJust(0, 5), 0);
        KIT.refused("too few", x, x.reads(0, 7), 3);
        x.write(0, 5, 2);
        KIT.refused("no strike", x, x.reads(0, 6), 5);
        KIT.refused("no strike", x, x.isJust(0, 6), 5);
        KIT.given("not asked", x, x.isJust(0, 4), 0);
        x.write(0, 0, -1);
        KIT.refused("plain is no strike", x, x.reads(0, 1), 5);
        row(x, 2, 3, 1L << 32, 0);
        KIT.refused("not cut", x, x.reads(2, 1), 5);
        int[][] wrong = {{-1, 1}, {4, 1}, {0, 0}, {0, 13}, {1, 13}, {0, LOW}};
        for (int[] w : wrong) {
            KIT.refused("reads wrong", x, x.reads(w[0], w[1]), 1);
            KIT.refused("isJust wrong", x, x.isJust(w[0], w[1]), 1);
            KIT.refused("spells wrong", x, x.spells(w[0], w[1]), 1);
        }
        KIT.refused("missing", x, x.reads(1, 1), 2);
        KIT.refused("missing", x, x.isJust(1, 12), 2);
        KIT.refused("isJust too few", x, x.isJust(0, 7), 3);
        OddCancel y = of(TWO + "letter p q weight 1;".repeat(12));
        y.day(1);
        row(y, 0, 1, 0, 0, 0, 0, 0, 0, 0, 0, 0, 0, 0, 0);
        KIT.given("6 of 12", y, y.reads(0, 6), 924);
        KIT.given("12 of 12", y, y.reads(0, 12), 1);
        copies();
    }

    private static void copies() {
        OddCancel x = base();
        row(x, 0, 0, 9, 9, 9, 9, 9);
        KIT.given("no covers", x, x.copyDay(0), 0);
        x.day(1);
        KIT.given("copyDay", x, x.copyDay(0), 4);
        long[] due = {0, 0, -1, 1, 9};
        for (int k = 0; k < 5; k++) {
            KIT.given("copied", x, x.read(0, k), due[k]);
        }
        x.tray(1, 2, 3);
        KIT.refused("too short", x, x.copyDay(1), 3);
        KIT.refused("missing", x, x.copyDay(2), 2);
        KIT.refused("none", x, x.copyDay(4), 1);
        KIT.refused("none", x, x.copyDay(-1), 1);
        x.tray(3, 0, 4);
        KIT.given("just long enough", x, x.copyDay(3), 4);
    }

    private static void p50to51() {
        OddCancel x = base();
        row(x, 0, 2, 0, 2, 1);
        x.drink(true);
        KIT.given("spells", x, x.spells(0, 3), 1);
        int[][] due = {{1, 0, 1}, {1, 2, 1}, {0, 2, 51}};
        for (int k = 0; k < 3; k++) {
            for (int what = 0; what < 3; what++) {
                KIT.given("spellAt", x, x.spellAt(0, 3, k, what), due[k][what]);
            }
        }
        KIT.due("nothing is posted", x.told(4), 4);
        row(x, 1, 2, 2, 0, 0);
        KIT.given("ok to cy still", x, x.spells(1, 2), 1);
        KIT.due("from ann", x.spellAt(1, 2, 1, 0) * 10 + x.spellAt(1, 2, 1, 1), 2);
        x.learn(0, 1);
        KIT.given("ok to cy no more: nobody writes round but cy", x, x.spells(1, 2), 0);
        KIT.refused("can't be", x, x.spellAt(1, 2, 0, 0), 6);
        int[][] wrong = {{0, 3, 3, 0}, {0, 3, -1, 0}, {0, 3, 0, 3}, {0, 3, 0, -1}, {0, 0, 0, 0}, {0, 13, 0, 0}, {4, 1, 0, 0}, {-1, 1, 0, 0}, {2, 1, 1, 0}, {0, LOW, HIGH, 0}};
        for (int[] w : wrong) {
            KIT.refused("spellAt wrong", x, x.spellAt(w[0], w[1], w[2], w[3]), 1);
        }
        KIT.refused("missing", x, x.spellAt(2, 1, 0, 0), 2);
        KIT.refused("missing", x, x.spells(2, 1), 2);
        KIT.refused("too few", x, x.spellAt(0, 4, 0, 0), 3);
        KIT.refused("too few", x, x.spells(0, 4), 3);
        x.write(0, 2, 3);
        KIT.refused("no strike", x, x.spellAt(0, 3, 0, 0), 5);
        KIT.refused("no strike", x, x.spells(0, 3), 5);
        x.write(0, 2, -1);
        KIT.refused("no strike", x, x.spells(0, 3), 5);
        OddCancel y = of(TWO + "letter p q weight 5;".repeat(12));
        row(y, 0, 0, 1, 0, 1, 0, 1, 0, 1, 0, 1, 0, 1, 0);
        KIT.given("twelve", y, y.spells(0, 12), 1);
        KIT.due("all to p from q", y.spellAt(0, 12, 11, 0) * 100 + y.spellAt(0, 12, 11, 1) * 10 + y.spellAt(0, 12, 11, 2), 101);
        KIT.due("weight", y.spellAt(0, 12, 10, 2), 10);
    }

    private static void p52to53() {
        OddCancel x = of(TWO);
        row(x, 0, 2, 10, 0, 40, 1, 20, 0, 35, 1);
        KIT.given("no covers: all t", x, x.split(0, 0, 0, 1), 100);
        KIT.given("half", x, x.splitNext(0, 0, 0, 1), 50);
        KIT.given("above 10", x, x.split(0, 1, 0, 1), 90);
        KIT.given("11 to 40", x, x.split(0, 2, 0, 1), 30);
        KIT.given("11 to 25, 26 to 40", x, x.splitNext(0, 2, 0, 1), 25);
        KIT.given("21 to 35", x, x.split(0, 4, 0, 1), 15);
        KIT.given("7 or 8: the first", x, x.splitNext(0, 4, 0, 1), 27);
        KIT.given("the other way", x, x.split(0, 2, 1, 0), 0);
        KIT.refused("none", x, x.splitNext(0, 2, 1, 0), 6);
        row(x, 1, 0, 10, 0, 11, 1, 1, 1, 99, 0);
        KIT.given("one", x, x.split(1, 2, 0, 1), 1);
        KIT.refused("not two", x, x.splitNext(1, 2, 0, 1), 6);
        KIT.given("none fits", x, x.split(1, 3, 0, 1), 0);
        row(x, 2, 1, 99, 0, 1, 1, 50, 2, 0, 0, 100, 1);
        KIT.given("100 alone", x, x.split(2, 1, 0, 1), 1);
        KIT.refused("neither", x, x.split(2, 3, 0, 1), 5);
        KIT.refused("neither", x, x.splitNext(2, 3, 0, 1), 5);
        row(x, 2, 1, 0, 0);
        KIT.refused("weight 0", x, x.split(2, 1, 0, 1), 5);
        row(x, 2, 1, 100, 0);
        KIT.refused("weight 100", x, x.split(2, 1, 0, 1), 5);
        KIT.refused("too few", x, x.split(2, 2, 0, 1), 3);
        KIT.refused("too few", x, x.splitNext(2, 30, 0, 1), 3);
        KIT.refused("missing", x, x.split(3, 0, 0, 1), 2);
        KIT.refused("missing", x, x.splitNext(3, 0, 0, 1), 2);
        int[][] wrong = {{-1, 0, 0, 1}, {4, 0, 0, 1}, {0, -1, 0, 1}, {0, 31, 0, 1}, {0, 1, 2, 1}, {0, 1, 0, 2}, {0, 1, -1, 1}, {0, 1, 0, -1}, {0, 1, 1, 1}, {0, HIGH, 0, 1}};
        for (int[] w : wrong) {
            KIT.refused("split wrong", x, x.split(w[0], w[1], w[2], w[3]), 1);
            KIT.refused("splitNext wrong", x, x.splitNext(w[0], w[1], w[2], w[3]), 1);
        }
        OddCancel y = base();
        row(y, 0, 0, 5, 2, 9, 0);
        KIT.given("other couples", y, y.split(0, 2, 2, 0), 4);
        KIT.refused("a strike that is neither", y, y.split(0, 2, 2, 1), 5);
        x.tray(1, 0, 60);
        for (int k = 0; k < 30; k++) {
            x.write(1, 2 * k, k + 1);
        }
        KIT.given("30 covers", x, x.split(1, 30, 0, 1), 70);
    }

    private static void p54() {
        OddCancel x = base();
        KIT.given("no covers", x, x.lawsUsed(), 0);
        x.drink(true);
        x.day(1);
        KIT.given("laws 3, 0, 1, and a plain one", x, x.lawsUsed(), 3);
        x.drink(false);
        x.day(1);
        KIT.given("cy's answer by 0, bob's by 1", x, x.lawsUsed(), 2);
        x.sway(0);
        x.sway(1);
        KIT.given("by the laws as they are now: dud, nie, ok", x, x.lawsUsed(), 2);
        OddCancel y = of(TWO + "letter p q weight 1;letter q p weight 2;");
        y.day(1);
        KIT.given("one law for two", y, y.lawsUsed(), 1);
    }

    private static void p55to57() {
        OddCancel x = base();
        x.drink(true);
        KIT.given("one turn", x, x.game(1), 3);
        KIT.given("the first", x, x.gameFirst(1), 0);
        KIT.given("two turns", x, x.game(2), -2);
        KIT.given("the first", x, x.gameFirst(2), 0);
        KIT.given("three turns", x, x.game(3), 1);
        x.take(0);
        KIT.given("dud 1, ok 3, plain", x, x.gameFirst(1), 1);
        KIT.given("-2 by dud", x, x.game(2), -2);
        KIT.given("dud is as good as ok", x, x.gameFirst(2), 0);
        KIT.given("1 - 3 + 0, 3 - 5 + 0", x, x.game(3), -2);
        KIT.given("brother: nie", x, x.brother(0), 2);
        KIT.given("brother: ok", x, x.brother(1), 0);
        KIT.refused("brother: plain", x, x.brother(2), 6);
        KIT.refused("brother 3", x, x.brother(3), 1);
        KIT.refused("brother -1", x, x.brother(-1), 1);
        for (int turns : new int[] {0, 4, -1, LOW, HIGH}) {
            KIT.refused("game turns", x, x.game(turns), 1);
            KIT.refused("gameFirst turns", x, x.gameFirst(turns), 1);
        }
        OddCancel y = of(TWO + "letter p q weight 20;");
        KIT.given("over after one", y, y.game(3), 7);
        y.take(0);
        KIT.given("over at once", y, y.game(3), 0);
        KIT.refused("none waits", y, y.gameFirst(3), 6);
        OddCancel z = of("strike a worth 1;strike b worth 2;hand h;person p hand h;person q hand h;law a under 10;law b;letter p q weight 5;letter p q weight 6;");
        KIT.given("1 - 2", z, z.game(2), -1);
        KIT.due("nothing is taken", z.told(4), 2);
    }

    private static void p58to59() {
        OddCancel x = base();
        Kit.weeks(x, "day 2;post ann bob 4;drink;drink;sober;sober;when waits > 1;day 1;end;stop;day 1;");
        KIT.given("live", x, x.live(0), 9);
        int[] due = {2, 3, 7, 1, 0};
        for (int what = 0; what < 5; what++) {
            KIT.given("lived " + what, x, x.lived(what), due[what]);
        }
        KIT.due("all is as it is then", x.told(7) * 100 + x.told(9) * 10 + x.told(4), 371);
        KIT.refused("lived 5", x, x.lived(5), 1);
        KIT.refused("lived -1", x, x.lived(-1), 1);
        KIT.refused("live -1", x, x.live(-1), 1);
        KIT.refused("live 10000", x, x.live(10000), 1);
        KIT.due("stays", x.lived(1), 3);
        Kit.valley(x, TWO);
        KIT.refused("no weeks", x, x.live(0), 6);
        KIT.refused("wrong ahead of none", x, x.live(10000), 1);
        KIT.due("lived stays", x.lived(1), 3);
        livesLong();
        livesTests();
        livesDraws();
    }

    private static OddCancel living(String weeks) {
        OddCancel x = of(TWO);
        Kit.weeks(x, weeks);
        return x;
    }

    private static void livesLong() {
        OddCancel x = living("loop 99;any;any;any;end;");
        KIT.given("298", x, x.live(1), 298);
        KIT.due("none is left", x.lived(4), 0);
        x = living("loop 99;any;any;any;end;any;any;");
        KIT.given("just 300", x, x.live(1), 300);
        KIT.due("none is left", x.lived(4), 0);
        x = living("loop 99;any;any;any;end;any;any;any;");
        KIT.given("300", x, x.live(1), 300);
        KIT.due("one is left", x.lived(4), 1);
        x = living("loop 99;any;any;any;end;any;any;stop;");
        KIT.given("300", x, x.live(1), 300);
        KIT.due("a stop is left", x.lived(4), 1);
        x = living("loop 99;any;any;any;end;any;stop;any;");
        KIT.given("300 by stop", x, x.live(1), 300);
        KIT.due("a stop leaves nothing", x.lived(4), 0);
        x = living("loop 3;loop 99;any;end;end;");
        KIT.given("1, 1 and 99, 1 and 99, 1 and 98", x, x.live(1), 300);
        KIT.due("left", x.lived(4), 1);
        x = living("loop 99;loop 99;loop 99;end;end;end;");
        KIT.given("loops of nothing", x, x.live(1), 300);
        KIT.due("left", x.lived(4), 1);
        x = living("loop 99;end;loop 2;loop 3;end;end;day 1;");
        KIT.given("empty loops count once", x, x.live(1), 5);
        x = living("loop 15;post p q 5;end;");
        KIT.given("posts", x, x.live(1), 16);
        KIT.due("12 posted, 3 missed", x.lived(3) * 10 + x.lived(0), 123);
        x = living("loop 13;day 20;end;");
        x.day(99);
        for (int k = 0; k < 97; k++) {
            x.day(99);
        }
        x.day(48);
        KIT.due("day", x.told(7), 9750);
        KIT.given("days", x, x.live(1), 14);
        KIT.due("12 times 20, one missed as a whole", x.lived(1) * 10 + x.lived(0), 2401);
        KIT.due("day", x.told(7), 9990);
        Kit.weeks(x, "day 10;day 9;");
        KIT.given("to 9,999", x, x.live(1), 2);
        KIT.due("to 9,999", x.told(7) * 100 + x.lived(0) * 10 + x.lived(1), 999919);
    }

    private static void livesTests() {
        String[] held = {"when waits = 2", "when waits < 3", "when waits > 1", "when struck s", "when drunk"};
        String[] not = {"when waits = 1", "when waits < 2", "when waits > 2", "when struck t", "when waits > 99", "when waits < 0"};
        String ahead = "post p q 1;day 1;post p q 10;post q p 10;drink;";
        for (String test : held) {
            KIT.due(test, living(ahead + test + ";any;any;end;").live(3), 8);
        }
        for (String test : not) {
            KIT.due(test, living(ahead + test + ";any;any;end;").live(3), 6);
        }
        KIT.due("not drunk", living("when drunk;any;end;").live(0), 1);
        OddCancel x = living("drink;post p q 5;day 1;when struck t;post p q 5;end;when struck s;post p q 5;end;");
        x.live(0);
        KIT.due("drunk: t behind s", x.lived(3), 2);
        OddCancel y = of("strike s;hand h;hand i;person p hand h;person q hand h;law s by i;");
        Kit.weeks(y, "post p q 5;");
        y.learn(0, 1);
        y.live(0);
        KIT.due("in his hand of now", y.letter(0, 3), 1);
        KIT.due("when within loop", living("loop 4;when waits < 2;post p q 5;end;end;").live(0), 7);
    }

    private static void livesDraws() {
        for (int seed : new int[] {0, 1, 2, 77, 9999}) {
            for (int odds = 0; odds <= 16; odds++) {
                int s = seed;
                OddCancel x = living("any;");
                x.pub(odds);
                x.live(seed);
                s = (int) ((s * 3041L + 11261L) % 65536L);
                KIT.due("draw", x.told(8), (s / 8) % 16 < odds ? 1 : 0);
                Kit.weeks(x, "any;any;");
                x.live(seed);
                s = (int) ((s * 3041L + 11261L) % 65536L);
                KIT.due("second draw", x.told(8), (s / 8) % 16 < odds ? 1 : 0);
                KIT.due("any misses nothing", x.lived(0), 0);
            }
        }
        OddCancel x = living("any;");
        x.pub(15);
        x.live(0);
        KIT.due("11261 by 8 by 16 is 15", x.told(8), 0);
        x.pub(16);
        x.live(0);
        KIT.due("15 is below 16", x.told(8), 1);
    }

    private static void p60() {
        OddCancel x = of(TWO + "letter p q weight 5;");
        x.pub(8);
        Kit.weeks(x, "any;day 1;post p q 20;day 1;");
        KIT.given("mean", x, x.mean(0, 1));
        fraction("sober by seed 0: 2 and 7", x, 9, 1);
        int drunk = 0;
        for (int seed = 0; seed < 20; seed++) {
            int s = (seed * 3041 + 11261) % 65536;
            drunk += s / 8 % 16 < 8 ? 1 : 0;
        }
        // drunk it is 7 and 2, and 9 again: alike LETTERS are posted, so that the draws tell
        KIT.due("some are drunk, some are not", drunk > 0 && drunk < 20, true);
        Kit.weeks(x, "any;day 1;post p q 3;day 1;");
        KIT.given("mean of 20", x, x.mean(0, 20));
        long sum = 4L * (20 - drunk) + 14L * drunk;
        long g = java.math.BigInteger.valueOf(sum).gcd(java.math.BigInteger.valueOf(20)).longValue();
        fraction("4 sober, 14 drunk", x, sum / g, 20 / g);
        KIT.due("all stays", x.told(7) * 100 + x.told(4) * 10 + x.told(8), 10);
        KIT.refused("nothing was lived", x, x.lived(0), 6);
        KIT.given("to 9,999", x, x.mean(9980, 20));
        int[][] wrong = {{-1, 1}, {10000, 1}, {0, 0}, {0, 21}, {9981, 20}, {9999, 2}, {HIGH, 1}, {0, HIGH}};
        for (int[] w : wrong) {
            KIT.refused("mean wrong", x, x.mean(w[0], w[1]), 1);
        }
        KIT.given("the last seed", x, x.mean(9999, 1));
        x.day(1);
        KIT.given("with what there was", x, x.mean(0, 1));
        fraction("2 and 2", x, 4, 1);
        Kit.valley(x, TWO);
        KIT.refused("no weeks", x, x.mean(0, 1), 6);
        KIT.refused("wrong ahead of none", x, x.mean(0, 0), 1);
        Kit.weeks(x, "");
        KIT.given("mean of nothing", x, x.mean(3, 7));
        fraction("0 by 1", x, 0, 1);
    }

    private static void p61to62() {
        OddCancel x = base();
        Kit.weeks(x, "day 1;");
        KIT.given("mark", x, x.mark(), 1);
        x.day(2);
        x.drink(true);
        KIT.given("mark", x, x.mark(), 2);
        x.pub(7);
        x.learn(0, 1);
        x.sway(0);
        x.teach(0, 0, 1, 5);
        Kit.weeks(x, "any;any;");
        KIT.given("mark", x, x.mark(), 3);
        KIT.refused("a fourth", x, x.mark(), 4);
        Kit.valley(x, TWO);
        row(x, 0, 0, 5);
        KIT.refused("no weeks", x, x.live(0), 6);
        KIT.given("undo", x, x.undo(), 2);
        KIT.due("laws, odds, hand", x.told(3) * 1000 + x.told(6) * 10 + x.hand(0), 4071);
        KIT.due("law", x.law(0, 0) * 10 + x.acts(0, 0, 0), 11);
        KIT.due("trays stay", x.read(0, 0), 5);
        Kit.weeks(x, "post ann bob 5;");
        KIT.due("names are back", x.status(), 0);
        KIT.given("undo", x, x.undo(), 1);
        KIT.due("odds, hand, drunk, day", x.told(6) * 1000 + x.hand(0) * 100 + x.told(8) * 10 + x.told(7), 4012);
        KIT.due("covers", x.told(9) * 10 + x.cover(0, 4), 52);
        KIT.due("law", x.law(0, 1), 5);
        KIT.refused("no acts", x, x.acts(0, 0, 0), 6);
        KIT.given("undo", x, x.undo(), 0);
        KIT.due("the beginning", x.told(4) * 100 + x.told(5) * 10 + x.told(7) + x.told(8) + x.told(9), 400);
        KIT.due("its weeks", x.live(0), 1);
        KIT.refused("no mark", x, x.undo(), 6);
        KIT.due("lived stays", x.lived(1), 1);
        OddCancel y = base();
        y.sure(1, 2, 70, 1, 1);
        y.mark();
        y.sure(1, 2, 70, 1, 0);
        y.undo();
        fraction("the fraction told latest stays", y, 0, 1);
        y.mark();
        y.post(0, 1, 5, 0);
        y.undo();
        y.mark();
        y.take(0);
        y.wrapped(0, 1);
        y.undo();
        KIT.due("letters are back", y.told(4) * 100 + y.letter(0, 2) * 10 + y.letter(1, 2), 500);
    }

    /** A small VALLEY behind a large one: nothing of that is left to be met. */
    private static void smallBehindLarge() {
        OddCancel x = of("strike a worth 9;strike b worth 9;strike c worth 9;strike zz worth 9;hand h;hand i;"
            + "person p hand h;person q hand i;person r hand h;person t hand h;odds 9;law b under 99;law c;law zz;"
            + "acts p on a to q weight 5;acts q on b to p weight 5;letter p q weight 5;letter q r weight 6;letter r t weight 7;letter t p weight 8;");
        x.day(3);
        x.mark();
        Kit.weeks(x, "drink;day 1;");
        x.mean(0, 2);
        Kit.valley(x, "strike s worth 2;hand h;person p hand h;person q hand h;law s under 10;");
        int[] due = {1, 1, 2, 1, 0, 0, 4, 0, 0, 0, 0, 0};
        for (int what = 0; what < 12; what++) {
            KIT.given("told " + what, x, x.told(what), due[what]);
        }
        KIT.given("lawsOf", x, x.lawsOf(0, 1, 50, 0), 0);
        KIT.refused("lawOf", x, x.lawOf(0, 1, 50, 0), 6);
        KIT.given("could", x, x.could(0, 1, 0), 1);
        KIT.given("rings", x, x.rings(), 0);
        KIT.given("longest", x, x.longest(), 0);
        KIT.refused("via", x, x.via(0, 1, 50, 0), 6);
        KIT.given("idle", x, x.idle(), 0);
        KIT.given("odds once more", x, Kit.valley(x, "odds 5;"), 0);
        KIT.given("and once more", x, Kit.valley(x, "odds 6;"), 0);
        KIT.given("undo", x, x.undo(), 0);
        KIT.due("the large one", x.told(0) * 1000 + x.told(6) * 100 + x.told(7) * 10 + x.told(1), 4932);
    }

    private static void fresh() {
        OddCancel x = base();
        KIT.given("viaFirst on its own", x, x.viaFirst(0, 2, 3, 2), 1);
        KIT.given("brother by law 0", x, x.brother(0), 0);
        x.take(0);
        KIT.due("all of a letter moves up", x.letter(0, 0) * 10000 + x.letter(0, 1) * 1000 + x.letter(0, 2) * 10 + x.letter(0, 3), 12701);
        x.teach(0, 0, 1, 3);
        KIT.given("round on its own", x, x.round(0, 0), 3);
        OddCancel y = of(TWO + "letter p q weight 5;");
        row(y, 0, 0, 10, 0, 40, 1);
        KIT.given("splitNext on its own", y, y.splitNext(0, 2, 0, 1), 25);
        row(y, 0, 0, 0, 7);
        y.day(1);
        y.worth(9);
        KIT.given("reads behind a refused call", y, y.reads(0, 1), 1);
        KIT.given("what stands behind the row is not asked", y, y.isJust(0, 1), 1);
        OddCancel z = of("strike s;strike t;strike u;hand h;person p hand h;person q hand h;person r hand h;"
            + "law s under 2;law t over 98;law u from r to q;law u from q to r;");
        KIT.given("weight 1 alone", z, z.weightAt(0, 1, 0, 0, 1), 1);
        KIT.given("weight 99 alone", z, z.could(0, 1, 0), 3);
        KIT.given("weight 99 alone", z, z.idle(), 0);
        z = of("strike s;strike t;hand h;person p hand h;person q hand h;person r hand h;law s from p to q;law s from q to r;law t from r to q;");
        KIT.given("all three post", z, z.via(0, 1, 5, 1), 3);
        KIT.given("the first goes to q", z, z.viaFirst(0, 1, 5, 1), 1);
    }

    /** Each of the 36 couples leads to the next one. */
    private static void largestRing() {
        OddCancel x = of("strike a;strike b;strike c;strike d;strike e;strike f;hand h;"
            + "person k hand h;person l hand h;person m hand h;person n hand h;person o hand h;person p hand h;"
            + "law a under 10;law b under 20;law c under 30;law d under 40;law e under 50;law f;");
        for (int k = 0; k < 36; k++) {
            int next = (k + 1) % 36;
            x.teach(k % 6, k / 6, next % 6, 10 * (next / 6) + 5);
        }
        KIT.given("36 in the ring", x, x.round(0, 0), 36);
        KIT.given("36 come round", x, x.rings(), 36);
        KIT.refused("all go round", x, x.longest(), 6);
        x.forget(5, 5);
        KIT.given("35 letters", x, x.echo(0, 0), 35);
        KIT.given("the longest", x, x.longest(), 0);
        x.forget(0, 0);
        KIT.given("the longest then", x, x.longest(), 10);
        KIT.given("34 letters", x, x.echo(1, 0), 34);
    }

    /** All there can be, and what stands just behind the bounds. */
    private static void bounds() {
        OddCancel x = of("strike a;strike b;hand g;hand h;hand i;hand j;person k hand g;person l hand h;person m hand i;person n hand j;"
            + "person o hand g;person p hand h;" + "law a under 5;".repeat(7) + "law b;" + "letter k l weight 3;letter o p weight 9;".repeat(6));
        KIT.given("via by six", x, x.via(0, 5, 3, 0), 1);
        KIT.given("viaFirst by six", x, x.viaFirst(0, 5, 3, 0), 5);
        KIT.refused("not by six", x, x.via(0, 5, 3, 1), 6);
        KIT.given("game of twelve", x, x.game(3), 1);
        KIT.given("the first of twelve", x, x.gameFirst(3), 0);
        KIT.given("the last of eight laws", x, x.brother(11), 1);
        KIT.given("all but the first and the last", x, x.idle(), 126);
        KIT.given("take of twelve", x, x.take(0), 11);
        KIT.due("the last one", x.letter(10, 2), 9);
        row(x, 0, 0, 0, 1, 0);
        KIT.given("spells", x, x.spells(0, 3), 1);
        KIT.given("a day of eleven", x, x.day(1), 11);
        OddCancel y = of("strike s;strike t;hand h;person p hand h;person q hand h;law s by h;law t;");
        KIT.given("no hand is left for t", y, y.idle(), 2);
        row(y, 0, 0, 0, 1);
        KIT.given("what stands behind the row is not spelled", y, y.spells(0, 1), 1);
        KIT.given("t is not", y, y.spells(0, 2), 0);
        row(y, 1, 0, 98, 0, 99, 0, 97, 0);
        KIT.given("two are enough", y, y.splitNext(1, 1, 0, 1), 99);
        KIT.due("99 and 100", y.split(1, 1, 0, 1), 2);
        KIT.refused("one is not", y, y.splitNext(1, 2, 0, 1), 6);
        String[] cuts = {"strike a|    ", "strike a|bcd;", "strike a worth 1|2;"};
        for (String cut : cuts) {
            Kit.feed(y, cut.replace("|", ""));
            KIT.refused("cut", y, y.valley(cut.indexOf('|')), 9);
            KIT.due("at the end " + cut, y.fault(0) * 100 + y.fault(1), 200 + cut.indexOf('|'));
        }
        OddCancel z = base();
        Kit.weeks(z, "day 1;");
        z.mean(0, 1);
        Kit.valley(z, TWO + "letter p q weight 50;");
        KIT.due("no covers", z.told(5) * 100 + z.told(9) * 10 + z.told(10), 0);
        Kit.valley(z, "strike s;hand h;person p hand h;person q hand h;law s under 10;letter p q weight 50;");
        KIT.refused("no law of the one ahead", z, z.brother(0), 6);
    }

    private static void livesAgain() {
        OddCancel x = of(TWO + "letter p q weight 5;");
        Kit.weeks(x, "loop 99;loop 9;any;drink;drink;end;end;");
        x.live(0);
        KIT.due("left, missed", x.lived(4) * 10 + (x.lived(0) > 0 ? 1 : 0), 11);
        Kit.weeks(x, "day 2;post p q 5;");
        x.live(0);
        KIT.due("2 days, 1 cover, 1 post", x.lived(1) * 100 + x.lived(2) * 10 + x.lived(3), 211);
        x.live(0);
        KIT.due("again", x.lived(1) * 100 + x.lived(2) * 10 + x.lived(3), 211);
        KIT.due("nothing left, missed", x.lived(4) * 10 + x.lived(0), 0);
        Kit.weeks(x, "loop 1;loop 2;");
        KIT.due("a fault in loops", x.fault(1), 14);
        KIT.given("is over then", x, Kit.weeks(x, "any;"), 1);
        KIT.refused("no end of those", x, Kit.weeks(x, "end;"), 9);
    }

    public static void main(String[] args) {
        smallBehindLarge();
        fresh();
        largestRing();
        livesAgain();
        bounds();
        p1to4();
        p5to7();
        p8();
        p9to12();
        p13to20();
        p21();
        p22();
        p23to30();
        p31to34();
        p35to40();
        p41to42();
        p43to46();
        p47to49();
        p50to51();
        p52to53();
        p54();
        p55to57();
        p58to59();
        p60();
        p61to62();
        KIT.end("PromisesTest");
    }
}
