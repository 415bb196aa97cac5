/** Boundaries that the promises name, one after the other; each refused call is held against a twin. */
final class BoundsOfPromises {
    /** Wrong from, to, weight, hand of a LETTER among three PERSONS in two HANDS. */
    private static final int[][] NO_LETTERS = {{-1, 0, 5, 0}, {3, 0, 5, 0}, {0, -1, 5, 0}, {0, 3, 5, 0}, {1, 1, 5, 0},
        {0, 1, 0, 0}, {0, 1, 100, 0}, {0, 1, -5, 0}, {0, 1, 5, -1}, {0, 1, 5, 2}, {Bounds.LOW, 0, 5, 0}, {0, Bounds.HIGH, 5, 0},
        {0, 1, Bounds.HIGH, 0}, {0, 1, Bounds.LOW, 0}, {0, 1, 5, Bounds.HIGH}};
    private static final int[] NO_STRIKES = {-1, 3, Bounds.LOW, Bounds.HIGH};
    private static final int[] NO_TRAYS = {-1, 4, Bounds.LOW, Bounds.HIGH};

    private BoundsOfPromises() {
    }

    private static void says(int promise, String quote, Runnable test) {
        Bounds.DOC.says("P" + promise, quote, test);
    }

    static void run() {
        newObject();
        trays();
        texts();
        told();
        lettersAndCovers();
        postAndDay();
        whatIsDone();
        teachings();
        strikes();
        wrapsAndWeights();
        ways();
        echoes();
        rows();
        spells();
        splits();
        games();
        weeks();
        marks();
    }

    private static void newObject() {
        says(1, "A VALLEY of nothing; ODDS 4; DAY 0, sober; no WEEKS, MARKS; TRAYS are MISSING; an empty tape; the FRACTION 0 by 1; STATUS 0.", () -> {
            OddCancel x = new OddCancel();
            Bounds.fraction("new", x, 0, 1);
            for (int what = 0; what < 12; what++) {
                Bounds.KIT.given("told " + what, x, x.told(what), what == 6 ? 4 : 0);
            }
            for (int tray = 0; tray < 4; tray++) {
                Bounds.KIT.refused("missing", x, x.copyDay(tray), 2);
            }
            Bounds.KIT.refused("no strike", x, x.worth(0), 1);
            Bounds.KIT.refused("nobody", x, x.hand(0), 1);
            Bounds.KIT.refused("no law", x, x.law(0, 0), 1);
            Bounds.KIT.refused("no letter", x, x.letter(0, 0), 1);
            Bounds.KIT.refused("no cover", x, x.cover(0, 0), 1);
            Bounds.KIT.refused("no weeks", x, x.live(0), 6);
            Bounds.KIT.refused("no marks", x, x.undo(), 6);
            Bounds.KIT.refused("nothing on the tape", x, x.valley(1), 1);
            Bounds.KIT.refused("nothing on the tape", x, x.weeks(1), 1);
            Bounds.KIT.due("its first twenty", x.feed(0, 0, 0, 0, 0), 20);
        });
        says(2, "STATUS of the latest call that has one.", () -> {
            OddCancel x = new OddCancel();
            Bounds.KIT.due("none yet", x.status(), 0);
            x.told(12);
            Bounds.KIT.due("1", x.status(), 1);
            x.undo();
            Bounds.KIT.due("6", x.status(), 6);
            x.feed(0, 0, 0, 0, 0);
            Bounds.KIT.due("6 still", x.status(), 6);
            Bounds.KIT.due("asking does not change it", x.status(), 6);
            x.rings();
            Bounds.KIT.due("0", x.status(), 0);
        });
        says(3, "The top of the FRACTION told latest.", () -> {
            OddCancel x = Bounds.base();
            x.sure(1, 2, 70, 1, 1);
            Bounds.KIT.due("3 by 4", x.top(), 3);
            x.sure(1, 2, 70, 1, 3);
            Bounds.KIT.due("a refused one tells none", x.top(), 3);
            x.sure(1, 2, 70, 1, 0);
            Bounds.KIT.due("0", x.top(), 0);
        });
        says(4, "Its bottom, above 0.", () -> {
            OddCancel x = Bounds.base();
            Bounds.KIT.due("at first", x.bottom(), 1);
            x.sure(1, 2, 70, 1, 1);
            Bounds.KIT.due("4", x.bottom(), 4);
            x.mean(0, 1);
            Bounds.KIT.due("a refused one tells none", x.bottom(), 4);
            x.sure(1, 2, 70, 1, 0);
            Bounds.KIT.due("1 for 0", x.bottom(), 1);
        });
    }

    private static void trays() {
        says(5, "A TRAY is a row of so many 0s (1).", () -> {
            OddCancel x = Bounds.full();
            Bounds.KIT.given("again", x, x.tray(1, 2, 3));
            for (int place = 0; place < 3; place++) {
                Bounds.KIT.given("0", x, x.read(1, place), 0);
            }
            Bounds.KIT.refused("three", x, x.read(1, 3), 3);
            int[][] wrong = {{-1, 0, 1}, {4, 0, 1}, {0, -1, 1}, {0, 4, 1}, {0, 0, -1}, {0, 0, 61}, {Bounds.LOW, 0, 1}, {0, Bounds.HIGH, 1}, {0, 0, Bounds.HIGH}, {0, 0, Bounds.LOW}};
            for (int[] w : wrong) {
                Bounds.no(1, "tray", y -> Watch.yes(y.tray(w[0], w[1], w[2])));
            }
        });
        says(6, "A number comes to a place of a TRAY, cut to its sort (1, 2, 3).", () -> {
            OddCancel x = Bounds.full();
            Bounds.KIT.given("the first place", x, x.write(0, 0, 128));
            Bounds.KIT.given("the last place", x, x.write(0, 2, -129));
            Bounds.KIT.due("cut", x.read(0, 0), -128);
            Bounds.KIT.due("the one between", x.read(0, 1), 1);
            Bounds.KIT.due("cut", x.read(0, 2), 127);
            for (int tray : NO_TRAYS) {
                Bounds.no(1, "no such tray", y -> Watch.yes(y.write(tray, 0, 7)));
            }
            Bounds.no(2, "missing", y -> Watch.yes(y.write(2, 0, 7)));
            Bounds.no(3, "behind", y -> Watch.yes(y.write(0, 3, 7)));
            Bounds.no(3, "ahead", y -> Watch.yes(y.write(0, -1, 7)));
            Bounds.no(3, "far behind", y -> Watch.yes(y.write(0, Bounds.HIGH, 7)));
            Bounds.no(3, "of none", y -> Watch.yes(y.write(3, 0, 7)));
        });
        says(7, "STATUS tells NONE from -1 (1, 2, 3).", () -> {
            OddCancel x = Bounds.full();
            for (int sort = 0; sort < 4; sort++) {
                Bounds.row(x, 0, sort, -1);
                Bounds.KIT.given("-1", x, x.read(0, 0), -1);
                Bounds.KIT.refused("NONE", x, x.read(0, 1), 3);
            }
            for (int tray : NO_TRAYS) {
                Bounds.no(1, "no such tray", y -> y.read(tray, 0));
            }
            Bounds.no(2, "missing", y -> y.read(2, 0));
            Bounds.no(3, "behind", y -> y.read(1, 4));
            Bounds.no(3, "ahead", y -> y.read(1, -1));
            Bounds.no(3, "low", y -> y.read(1, Bounds.LOW));
            Bounds.no(3, "of none", y -> y.read(3, 0));
            Bounds.asks("read", y -> y.read(1, 3));
        });
        says(8, "come to another one's (or its own) place on, as they were (1: below 0, too; 2; 8; 3; asked in this order).", BoundsOfPromises::pours);
    }

    private static void pours() {
        OddCancel x = new OddCancel();
        Bounds.row(x, 0, 2, 1, 2, 3, 4, 5);
        Bounds.row(x, 1, 2, 7, 8);
        Bounds.KIT.given("all of it", x, x.pour(1, 0, 0, 3, 2));
        Bounds.KIT.due("to the last place", x.read(0, 3) * 10 + x.read(0, 4), 78);
        Bounds.KIT.given("to its own, one on", x, x.pour(0, 0, 0, 1, 4));
        Bounds.KIT.due("as they were", digits(x), 11237);
        Bounds.KIT.given("to its own, one back", x, x.pour(0, 1, 0, 0, 4));
        Bounds.KIT.due("as they were then", digits(x), 12377);
        Bounds.KIT.given("to where they are", x, x.pour(0, 0, 0, 0, 5));
        Bounds.KIT.given("none, behind the last", x, x.pour(0, 5, 1, 2, 0));
        Bounds.KIT.due("nothing came", digits(x), 12377);
        int[][] ones = {{-1, 0, 1, 0, 1}, {4, 0, 1, 0, 1}, {0, 0, -1, 0, 1}, {0, 0, 4, 0, 1}, {0, -1, 0, 0, 1}, {0, 0, 0, -1, 1}, {0, 0, 0, 0, -1},
            {2, -1, 2, 0, 1}, {0, -1, 1, 0, 1}, {0, 0, 1, 0, Bounds.LOW}, {Bounds.HIGH, 0, 0, 0, 1}};
        for (int[] w : ones) {
            Bounds.no(1, "pour", y -> Watch.yes(y.pour(w[0], w[1], w[2], w[3], w[4])));
        }
        Bounds.no(2, "from a missing one", y -> Watch.yes(y.pour(2, 0, 0, 0, 1)));
        Bounds.no(2, "to a missing one", y -> Watch.yes(y.pour(0, 0, 2, 0, 1)));
        Bounds.no(2, "missing, none", y -> Watch.yes(y.pour(2, 0, 2, 0, 0)));
        Bounds.no(8, "unlike", y -> Watch.yes(y.pour(0, 0, 1, 0, 1)));
        Bounds.no(8, "unlike, none", y -> Watch.yes(y.pour(0, 0, 1, 0, 0)));
        Bounds.no(8, "unlike, too few", y -> Watch.yes(y.pour(0, 3, 1, 4, 1)));
        Bounds.no(3, "too few from there", y -> Watch.yes(y.pour(0, 1, 0, 0, 3)));
        Bounds.no(3, "too few there", y -> Watch.yes(y.pour(0, 0, 0, 1, 3)));
        Bounds.no(3, "far", y -> Watch.yes(y.pour(0, Bounds.HIGH, 0, 0, Bounds.HIGH)));
        Bounds.no(3, "far there", y -> Watch.yes(y.pour(0, 0, 0, Bounds.HIGH, 1)));
        Bounds.no(3, "many", y -> Watch.yes(y.pour(0, 0, 0, 0, Bounds.HIGH)));
        Bounds.no(3, "none, beyond", y -> Watch.yes(y.pour(0, 4, 0, 0, 0)));
        Bounds.no(3, "none, beyond there", y -> Watch.yes(y.pour(0, 0, 0, 4, 0)));
    }

    private static long digits(OddCancel x) {
        long number = 0;
        for (int place = 0; place < 5; place++) {
            number = number * 10 + x.read(0, place);
        }
        return number;
    }

    private static void texts() {
        says(9, "Twenty bytes come behind those on the tape, the highest of each int first: how many it has; NONE if there would be more than 900.", () -> {
            OddCancel x = new OddCancel();
            for (int k = 1; k <= 45; k++) {
                Bounds.KIT.due("feed " + k, x.feed(0x0a0a0a0a, 0x20202020, 0x0a202020, 0x20202020, 0x2020203b), 20 * k);
            }
            Bounds.KIT.due("920", x.feed(0, 0, 0, 0, 0), Bounds.NONE);
            Bounds.KIT.due("920 again", x.feed(0, 0, 0, 0, 0), Bounds.NONE);
            Bounds.KIT.refused("all of it", x, x.valley(900), 9);
            Bounds.KIT.due("the lowest byte is the last", x.fault(0) * 100 + x.fault(1), 219);
            x.feed(0x73747269, 0x6b652061, 0x3b6c6177, 0x20613b80, 0xffffffff);
            Bounds.KIT.refused("high bytes", x, x.valley(20), 9);
            Bounds.KIT.due("128 is no token", x.fault(0) * 100 + x.fault(1), 115);
        });
        says(10, "The first n bytes of the tape (which is empty then) are the VALLEY: how many LAWS (1: n below 0, or more than the tape has, too; 9: the old one stays).", () -> {
            OddCancel x = new OddCancel();
            Kit.feed(x, "strike a;law a;#####");
            Bounds.KIT.given("the first 15", x, x.valley(15), 1);
            Bounds.KIT.refused("empty then", x, x.valley(1), 1);
            Bounds.KIT.given("of nothing", x, x.valley(0), 0);
            Bounds.KIT.due("there is nothing", x.told(0) + x.told(3), 0);
            Bounds.no(1, "below 0", y -> y.valley(-1));
            Bounds.no(1, "low", y -> y.valley(Bounds.LOW));
            Bounds.no(1, "more than the tape has", y -> y.valley(21));
            Bounds.no(1, "high", y -> y.valley(Bounds.HIGH));
            Watch.faulty(Bounds.KIT, "the old one stays", Bounds::full, y -> y.valley(20));
            OddCancel z = Bounds.full();
            z.valley(21);
            Bounds.KIT.due("the tape stays with 1", z.feed(0, 0, 0, 0, 0), 40);
        });
        says(11, "Likewise the WEEKS: how many STEPS (1: above 300, too; 9).", () -> {
            OddCancel x = Bounds.of(Bounds.PEOPLE);
            Kit.feed(x, "any;day 1;#");
            Bounds.KIT.given("the first 10", x, x.weeks(10), 2);
            Bounds.KIT.refused("empty then", x, x.weeks(1), 1);
            Bounds.KIT.given("of nothing", x, x.weeks(0), 0);
            Bounds.KIT.given("there are weeks, of no step", x, x.live(0), 0);
            for (int k = 0; k < 16; k++) {
                x.feed(0x20202020, 0x20202020, 0x20202020, 0x20202020, 0x20202020);
            }
            Bounds.KIT.refused("301", x, x.weeks(301), 1);
            Bounds.KIT.given("300", x, x.weeks(300), 0);
            Bounds.no(1, "below 0", y -> y.weeks(-1));
            Bounds.no(1, "more than the tape has", y -> y.weeks(21));
            Bounds.no(1, "high", y -> y.weeks(Bounds.HIGH));
            Bounds.no(1, "low", y -> y.weeks(Bounds.LOW));
            Watch.faulty(Bounds.KIT, "the old ones stay", Bounds::full, y -> y.weeks(20));
        });
        says(12, "Of the latest valley() or weeks() with STATUS 0 or 9, what 0: the FAULT (0 without one), 1: its place (NONE without). NONE for others, and ahead of any.", () -> {
            OddCancel x = new OddCancel();
            Bounds.KIT.due("ahead of any", x.fault(0) * 10 + x.fault(1), -11);
            x.valley(1);
            Bounds.KIT.due("with 1 it tells nothing", x.fault(0), Bounds.NONE);
            x.valley(0);
            Bounds.KIT.due("without one", x.fault(0) * 10 + x.fault(1), -1);
            Kit.valley(x, "strike");
            Bounds.KIT.due("2 at 6", x.fault(0) * 10 + x.fault(1), 26);
            x.weeks(1);
            x.valley(-1);
            Bounds.KIT.due("stays with 1", x.fault(0) * 10 + x.fault(1), 26);
            Kit.weeks(x, "#");
            Bounds.KIT.due("1 at 0", x.fault(0) * 10 + x.fault(1), 10);
            for (int what : new int[] {-1, 2, 3, Bounds.LOW, Bounds.HIGH}) {
                Bounds.KIT.due("fault " + what, x.fault(what), Bounds.NONE);
            }
            x.weeks(0);
            Bounds.KIT.due("none again", x.fault(0) * 10 + x.fault(1), -1);
        });
    }

    private static void told() {
        says(13, "How many STRIKES (what 0), HANDS (1), PERSONS (2), LAWS (3), LETTERS that WAIT (4), COVERS of the DAY (5); ODDS (6); the DAY (7); 1 if he is DRUNK, else 0 (8); how many COVERS there were in all (9), how many of them PLAIN (10), WORTH of all of them together (11) (1).", () -> {
            OddCancel x = Bounds.base();
            x.day(1);
            x.drink(true);
            int[] due = {3, 2, 3, 4, 1, 4, 4, 1, 1, 4, 1, 7};
            for (int what = 0; what < 12; what++) {
                Bounds.KIT.given("told " + what, x, x.told(what), due[what]);
            }
            for (int what : new int[] {-1, 12, Bounds.LOW, Bounds.HIGH}) {
                Bounds.no(1, "told " + what, y -> y.told(what));
            }
            Bounds.asks("told", y -> y.told(11));
        });
        says(14, "WORTH of a STRIKE (1).", () -> {
            OddCancel x = Bounds.base();
            Bounds.KIT.due("the first, the last", x.worth(0) * 10 + x.worth(2), 35);
            for (int strike : NO_STRIKES) {
                Bounds.no(1, "worth " + strike, y -> y.worth(strike));
            }
        });
        says(15, "The HAND of a PERSON (1).", () -> {
            OddCancel x = Bounds.of(Bounds.MOST);
            Bounds.KIT.due("the first, the fourth", x.hand(0) * 10 + x.hand(3), 3);
            Bounds.KIT.refused("a seventh", x, x.hand(6), 1);
            for (int person : NO_STRIKES) {
                Bounds.no(1, "hand " + person, y -> y.hand(person));
            }
        });
        says(16, "Of a LAW, what 0: the STRIKE, 1: UNDER, 2: OVER, 3: the HAND, 4: FROM whom, 5: to whom (1; 6: not told).", () -> {
            OddCancel x = Bounds.of(Bounds.PEOPLE + "law nie under 99 over 0 by shp from cy to bob;law ok;");
            int[] due = {2, 99, 0, 1, 2, 1};
            for (int what = 0; what < 6; what++) {
                Bounds.KIT.given("law 0 " + what, x, x.law(0, what), due[what]);
            }
            Bounds.KIT.given("law 1 has a strike", x, x.law(1, 0), 0);
            for (int what = 1; what < 6; what++) {
                Bounds.KIT.refused("law 1 " + what, x, x.law(1, what), 6);
            }
            for (int law : new int[] {-1, 4, Bounds.LOW, Bounds.HIGH}) {
                Bounds.no(1, "law " + law, y -> y.law(law, 0));
            }
            for (int what : new int[] {-1, 6, Bounds.LOW, Bounds.HIGH}) {
                Bounds.no(1, "what " + what, y -> y.law(0, what));
            }
            Bounds.no(6, "not told", y -> y.law(0, 2));
        });
        says(17, "What a PERSON posts for a STRIKE, what 0: to whom, 1: WEIGHT (1; 6: nothing).", () -> {
            OddCancel x = Bounds.base();
            Bounds.KIT.due("bob on ok", x.acts(1, 0, 0) * 100 + x.acts(1, 0, 1), 209);
            for (int what = 0; what < 2; what++) {
                int w = what;
                Bounds.no(6, "nothing", y -> y.acts(2, 1, w));
            }
            for (int wrong : NO_STRIKES) {
                Bounds.no(1, "person " + wrong, y -> y.acts(wrong, 0, 0));
                Bounds.no(1, "strike " + wrong, y -> y.acts(1, wrong, 0));
            }
            for (int what : new int[] {-1, 2, Bounds.LOW, Bounds.HIGH}) {
                Bounds.no(1, "what " + what, y -> y.acts(1, 0, what));
            }
        });
    }

    private static void lettersAndCovers() {
        says(18, "Of the k-th LETTER that WAITS, from 0 on, what 0: FROM whom, 1: to whom, 2: WEIGHT, 3: the HAND (1).", () -> {
            OddCancel x = Bounds.base();
            int[][] due = {{0, 1, 3, 0}, {1, 2, 70, 1}, {2, 0, 20, 1}, {0, 1, 20, 0}};
            for (int k = 0; k < 4; k++) {
                for (int what = 0; what < 4; what++) {
                    Bounds.KIT.given("letter " + k, x, x.letter(k, what), due[k][what]);
                }
            }
            for (int k : new int[] {-1, 4, 12, Bounds.LOW, Bounds.HIGH}) {
                Bounds.no(1, "letter " + k, Bounds::base, y -> y.letter(k, 0));
            }
            for (int what : new int[] {-1, 4, Bounds.LOW, Bounds.HIGH}) {
                Bounds.no(1, "what " + what, Bounds::base, y -> y.letter(0, what));
            }
            x.day(1);
            Bounds.KIT.refused("one alone waits then", x, x.letter(1, 0), 1);
        });
        says(19, "Of the k-th COVER of the DAY, from 0 on, what 0: FROM whom, 1: to whom, 2: WEIGHT, 3: the HAND, 4: the STRIKE (6: PLAIN) (1).", () -> {
            OddCancel x = aDayOn();
            int[][] due = {{2, 0, 20, 1, 0}, {0, 1, 3, 0, 0}, {0, 1, 20, 0, Bounds.NONE}, {1, 2, 70, 1, 1}};
            for (int k = 0; k < 4; k++) {
                for (int what = 0; what < 5; what++) {
                    Bounds.KIT.due("cover " + k, x.cover(k, what), due[k][what]);
                    Bounds.KIT.due("status", x.status(), due[k][what] == Bounds.NONE ? 6 : 0);
                }
            }
            Bounds.no(6, "plain", BoundsOfPromises::aDayOn, y -> y.cover(2, 4));
            for (int k : new int[] {-1, 4, 12, Bounds.LOW, Bounds.HIGH}) {
                Bounds.no(1, "cover " + k, BoundsOfPromises::aDayOn, y -> y.cover(k, 0));
            }
            for (int what : new int[] {-1, 5, Bounds.LOW, Bounds.HIGH}) {
                Bounds.no(1, "what " + what, BoundsOfPromises::aDayOn, y -> y.cover(0, what));
            }
            Bounds.no(1, "no cover on day 0", Bounds::base, y -> y.cover(0, 0));
        });
        says(20, "How many COVERS there were in all with a STRIKE (1).", () -> {
            OddCancel x = aDayOn();
            Bounds.KIT.due("2, 1, 0", x.strikes(0) * 100 + x.strikes(1) * 10 + x.strikes(2), 210);
            x.day(2);
            Bounds.KIT.due("in all", x.strikes(0) * 100 + x.strikes(1) * 10 + x.strikes(2), 311);
            for (int strike : NO_STRIKES) {
                Bounds.no(1, "strikes " + strike, y -> y.strikes(strike));
            }
        });
    }

    private static OddCancel aDayOn() {
        OddCancel x = Bounds.base();
        x.day(1);
        return x;
    }

    private static OddCancel ofTwelve() {
        return Bounds.of(Bounds.PEOPLE + "letter ann bob weight 5;".repeat(12));
    }

    private static OddCancel onDay(int day) {
        OddCancel x = Bounds.living(Bounds.TWO, "day 1;");
        for (int k = 0; k < day / 99; k++) {
            x.day(99);
        }
        if (day % 99 > 0) {
            x.day(day % 99);
        }
        return x;
    }

    private static void postAndDay() {
        says(21, "POST: how many WAIT then (1: WEIGHT, too; 4: a 13th).", () -> {
            OddCancel x = Bounds.of(Bounds.PEOPLE);
            Bounds.KIT.given("weight 1", x, x.post(0, 1, 1, 0), 1);
            Bounds.KIT.given("weight 99", x, x.post(2, 1, 99, 1), 2);
            Bounds.KIT.due("as told", x.letter(1, 0) * 10000 + x.letter(1, 1) * 1000 + x.letter(1, 2) * 10 + x.letter(1, 3), 21991);
            for (int[] w : NO_LETTERS) {
                Bounds.no(1, "post", y -> y.post(w[0], w[1], w[2], w[3]));
            }
            for (int k = 3; k <= 12; k++) {
                Bounds.KIT.given("post", x, x.post(0, 1, 5, 0), k);
            }
            Bounds.no(4, "a 13th", BoundsOfPromises::ofTwelve, y -> y.post(0, 1, 5, 0));
        });
        says(22, "So many DAYS (1 to 99) go by: how many COVERS were brought in them (1; 4: above 9,999).", () -> {
            OddCancel x = Bounds.base();
            Bounds.KIT.given("1", x, x.day(1), 4);
            Bounds.KIT.given("99", x, x.day(99), 2);
            Bounds.KIT.given("100 in all", x, x.told(7), 100);
            for (int many : new int[] {0, -1, 100, Bounds.LOW, Bounds.HIGH}) {
                Bounds.no(1, "day " + many, y -> y.day(many));
            }
            Bounds.no(4, "two from 9,998 on", () -> onDay(9998), y -> y.day(2));
            Bounds.no(4, "one from 9,999 on", () -> onDay(9999), y -> y.day(1));
            Bounds.no(4, "99 from 9,901 on", () -> onDay(9901), y -> y.day(99));
            Bounds.KIT.due("99 from 9,900 on", onDay(9900).day(99), 0);
            Bounds.KIT.due("one from 9,998 on", onDay(9998).day(1), 0);
        });
    }

    private static void whatIsDone() {
        says(23, "He is DRUNK from now on, or sober (1; 7: it is so).", () -> {
            OddCancel x = Bounds.base();
            Bounds.KIT.given("drink", x, x.drink(true));
            Bounds.KIT.given("drunk", x, x.told(8), 1);
            Bounds.KIT.given("sober up", x, x.drink(false));
            Bounds.KIT.given("sober", x, x.told(8), 0);
            Bounds.no(7, "sober he is", Bounds::base, y -> Watch.yes(y.drink(false)));
            Bounds.no(7, "drunk he is", Bounds::full, y -> Watch.yes(y.drink(true)));
        });
        says(24, "The k-th LETTER that WAITS is taken back: how many WAIT still (1).", () -> {
            OddCancel x = Bounds.base();
            Bounds.KIT.given("the last", x, x.take(3), 3);
            Bounds.KIT.given("the first", x, x.take(0), 2);
            Bounds.KIT.due("the others", x.letter(0, 2) * 100 + x.letter(1, 2), 7020);
            Bounds.KIT.given("the first", x, x.take(0), 1);
            Bounds.KIT.given("the only one", x, x.take(0), 0);
            Bounds.KIT.refused("none waits", x, x.take(0), 1);
            for (int k : new int[] {-1, 4, Bounds.LOW, Bounds.HIGH}) {
                Bounds.no(1, "take " + k, Bounds::base, y -> y.take(k));
            }
            OddCancel z = Bounds.base();
            z.take(0);
            int[][] due = {{1, 2, 70, 1}, {2, 0, 20, 1}, {0, 1, 20, 0}};
            for (int j = 0; j < 3; j++) {
                for (int what = 0; what < 4; what++) {
                    Bounds.KIT.given("all of those behind it", z, z.letter(j, what), due[j][what]);
                }
            }
            OddCancel twelve = ofTwelve();
            Bounds.KIT.given("the twelfth", twelve, twelve.take(11), 11);
            Bounds.KIT.given("one more then", twelve, twelve.post(0, 1, 7, 0), 12);
        });
        says(25, "The k-th LETTER weighs so much more (1 to 98): its WEIGHT then (1; 7: above 99).", () -> {
            OddCancel x = Bounds.of(Bounds.PEOPLE + "letter ann bob weight 1;letter ann bob weight 98;letter ann bob weight 99;");
            Bounds.KIT.given("98 more", x, x.wrapped(0, 98), 99);
            Bounds.KIT.given("1 more", x, x.wrapped(1, 1), 99);
            Bounds.KIT.due("they weigh so", x.letter(0, 2) * 100 + x.letter(1, 2), 9999);
            Bounds.KIT.refused("to 100", x, x.wrapped(2, 1), 7);
            for (int more : new int[] {0, -1, 99, Bounds.LOW, Bounds.HIGH}) {
                Bounds.no(1, more + " more", Bounds::base, y -> y.wrapped(0, more));
            }
            for (int k : new int[] {-1, 4, Bounds.LOW, Bounds.HIGH}) {
                Bounds.no(1, "letter " + k, Bounds::base, y -> y.wrapped(k, 1));
            }
            Bounds.no(7, "70 and 30", Bounds::base, y -> y.wrapped(1, 30));
            Bounds.no(7, "3 and 97", Bounds::base, y -> y.wrapped(0, 97));
        });
        says(26, "A PERSON's HAND from now on (1). (LETTERS that WAIT stay.)", () -> {
            OddCancel x = Bounds.base();
            Bounds.KIT.given("learn", x, x.learn(0, 1));
            Bounds.KIT.given("his hand", x, x.hand(0), 1);
            Bounds.KIT.given("the letter stays", x, x.letter(0, 3), 0);
            Bounds.KIT.given("the same again", x, x.learn(0, 1));
            for (int wrong : new int[] {-1, 3, Bounds.LOW, Bounds.HIGH}) {
                Bounds.no(1, "person " + wrong, y -> Watch.yes(y.learn(wrong, 0)));
            }
            for (int wrong : new int[] {-1, 2, Bounds.LOW, Bounds.HIGH}) {
                Bounds.no(1, "hand " + wrong, y -> Watch.yes(y.learn(0, wrong)));
            }
        });
    }

    private static void teachings() {
        says(27, "A PERSON ACTS on a STRIKE by such a LETTER from now on (1: WEIGHT 1 to 99; to itself, too).", () -> {
            OddCancel x = Bounds.base();
            Bounds.KIT.given("weight 1", x, x.teach(0, 0, 1, 1));
            Bounds.KIT.given("weight 99", x, x.teach(2, 2, 1, 99));
            Bounds.KIT.due("so they do", x.acts(0, 0, 1) * 100 + x.acts(2, 2, 1), 199);
            Bounds.KIT.given("again", x, x.teach(0, 0, 2, 7));
            Bounds.KIT.due("the latest", x.acts(0, 0, 0) * 10 + x.acts(0, 0, 1), 27);
            int[][] wrong = {{-1, 0, 1, 5}, {3, 0, 1, 5}, {0, -1, 1, 5}, {0, 3, 1, 5}, {0, 0, -1, 5}, {0, 0, 3, 5}, {0, 0, 0, 5}, {2, 0, 2, 5},
                {0, 0, 1, 0}, {0, 0, 1, 100}, {0, 0, 1, -1}, {Bounds.HIGH, 0, 1, 5}, {0, Bounds.LOW, 1, 5}, {0, 0, Bounds.HIGH, 5}, {0, 0, 1, Bounds.HIGH}};
            for (int[] w : wrong) {
                Bounds.no(1, "teach", y -> Watch.yes(y.teach(w[0], w[1], w[2], w[3])));
            }
        });
        says(28, "He does no more (1; 7: he did not).", () -> {
            OddCancel x = Bounds.base();
            Bounds.KIT.given("forget", x, x.forget(1, 0));
            Bounds.KIT.refused("he does no more", x, x.acts(1, 0, 0), 6);
            Bounds.KIT.refused("nor by weight", x, x.acts(1, 0, 1), 6);
            Bounds.KIT.refused("he did not", x, x.forget(1, 0), 7);
            Bounds.KIT.given("on another strike he does", x, x.acts(1, 1, 0), 0);
            Bounds.no(7, "he never did", y -> Watch.yes(y.forget(0, 0)));
            for (int wrong : NO_STRIKES) {
                Bounds.no(1, "person " + wrong, y -> Watch.yes(y.forget(wrong, 0)));
                Bounds.no(1, "strike " + wrong, y -> Watch.yes(y.forget(1, wrong)));
            }
        });
        says(29, "A LAW changes places with the one behind it (1: none is behind it, too).", () -> {
            OddCancel x = Bounds.base();
            Bounds.KIT.given("the first", x, x.sway(0));
            Bounds.KIT.due("dud, ok", x.law(0, 0) * 10 + x.law(1, 0), 10);
            Bounds.KIT.due("with all they tell", x.law(0, 2) * 10 + x.law(1, 1), 505);
            Bounds.KIT.given("the last but one", x, x.sway(2));
            Bounds.KIT.due("ok to ann, nie", x.law(2, 5) * 10 + x.law(3, 0), 2);
            for (int law : new int[] {-1, 3, 4, Bounds.LOW, Bounds.HIGH}) {
                Bounds.no(1, "sway " + law, y -> Watch.yes(y.sway(law)));
            }
            Bounds.no(1, "one law", () -> Bounds.of("strike s;law s;"), y -> Watch.yes(y.sway(0)));
            Bounds.no(1, "no law", OddCancel::new, y -> Watch.yes(y.sway(0)));
            OddCancel eight = Bounds.of(Bounds.TWO + "law s;".repeat(6));
            Bounds.KIT.given("the seventh of eight", eight, eight.sway(6));
            Bounds.KIT.refused("the eighth of eight", eight, eight.sway(7), 1);
        });
        says(30, "ODDS from now on (0 to 16) (1).", () -> {
            OddCancel x = Bounds.base();
            Bounds.KIT.given("0", x, x.pub(0));
            Bounds.KIT.given("told 0", x, x.told(6), 0);
            Bounds.KIT.given("16", x, x.pub(16));
            Bounds.KIT.given("told 16", x, x.told(6), 16);
            for (int odds : new int[] {-1, 17, Bounds.LOW, Bounds.HIGH}) {
                Bounds.no(1, "pub " + odds, y -> Watch.yes(y.pub(odds)));
            }
        });
    }

    private static void strikes() {
        says(31, "The LAW that FITS a LETTER first (1; 6: none).", () -> {
            OddCancel x = Bounds.base();
            Bounds.KIT.given("the first", x, x.lawOf(0, 1, 4, 0), 0);
            Bounds.KIT.given("the last", x, x.lawOf(1, 0, 20, 0), 3);
            Bounds.no(6, "none", y -> y.lawOf(0, 1, 5, 0));
            Bounds.no(6, "none at 50", y -> y.lawOf(0, 1, 50, 0));
            for (int[] w : NO_LETTERS) {
                Bounds.no(1, "lawOf", y -> y.lawOf(w[0], w[1], w[2], w[3]));
            }
            Bounds.asks("lawOf", y -> y.lawOf(0, 1, 4, 0));
        });
        says(32, "Its STRIKE, sober (1; 6: PLAIN).", () -> {
            OddCancel x = Bounds.base();
            x.drink(true);
            Bounds.KIT.given("sober all the same", x, x.strikeOf(1, 2, 51, 1), 1);
            Bounds.no(6, "plain", y -> y.strikeOf(0, 1, 5, 0));
            for (int[] w : NO_LETTERS) {
                Bounds.no(1, "strikeOf", y -> y.strikeOf(w[0], w[1], w[2], w[3]));
            }
        });
        says(33, "Its STRIKE as he is now (1; 6: PLAIN).", () -> {
            OddCancel x = Bounds.base();
            Bounds.KIT.given("sober", x, x.struckNow(1, 2, 20, 1), 2);
            x.drink(true);
            Bounds.KIT.given("drunk, behind the last", x, x.struckNow(1, 2, 20, 1), 0);
            Bounds.no(6, "plain, drunk", y -> y.struckNow(0, 1, 5, 0));
            Bounds.no(6, "plain, sober", Bounds::base, y -> y.struckNow(0, 1, 5, 0));
            for (int[] w : NO_LETTERS) {
                Bounds.no(1, "struckNow", y -> y.struckNow(w[0], w[1], w[2], w[3]));
            }
        });
        says(34, "The set of LAWS that FIT it (1 for LAW 0 ..) (1).", () -> {
            OddCancel x = Bounds.base();
            Bounds.KIT.given("none", x, x.lawsOf(0, 1, 5, 0), 0);
            Bounds.KIT.given("law 0", x, x.lawsOf(0, 1, 4, 0), 1);
            Bounds.KIT.given("laws 1 and 2", x, x.lawsOf(1, 2, 51, 0), 6);
            OddCancel eight = Bounds.of(Bounds.PAIR + "law s;".repeat(8));
            Bounds.KIT.given("all of eight", eight, eight.lawsOf(0, 1, 99, 0), 255);
            for (int[] w : NO_LETTERS) {
                Bounds.no(1, "lawsOf", y -> y.lawsOf(w[0], w[1], w[2], w[3]));
            }
        });
        says(35, "The FRACTION is SURE of a STRIKE for it (1).", () -> {
            OddCancel x = Bounds.base();
            Bounds.KIT.given("sure", x, x.sure(0, 1, 99, 0, 1));
            Bounds.fraction("12 by 16", x, 3, 4);
            for (int[] w : NO_LETTERS) {
                Bounds.no(1, "sure", y -> Watch.yes(y.sure(w[0], w[1], w[2], w[3], 0)));
            }
            for (int strike : NO_STRIKES) {
                Bounds.no(1, "strike " + strike, y -> Watch.yes(y.sure(0, 1, 5, 0, strike)));
            }
        });
    }

    private static void wrapsAndWeights() {
        says(36, "WRAP (1; 6: not by any).", () -> {
            OddCancel x = Bounds.base();
            Bounds.KIT.given("50 from 1 on", x, x.wrap(0, 1, 1, 0, 1), 50);
            Bounds.no(6, "not by any", y -> y.wrap(0, 1, 5, 0, 0));
            Bounds.no(6, "never at all", y -> y.wrap(0, 1, 1, 0, 2));
            for (int[] w : NO_LETTERS) {
                Bounds.no(1, "wrap", y -> y.wrap(w[0], w[1], w[2], w[3], 0));
            }
            for (int strike : NO_STRIKES) {
                Bounds.no(1, "strike " + strike, y -> y.wrap(0, 1, 5, 0, strike));
            }
        });
        says(37, "How many WEIGHTS there are (1).", () -> {
            OddCancel x = Bounds.base();
            Bounds.KIT.given("1 to 4", x, x.weights(0, 1, 0, 0), 4);
            Bounds.KIT.given("51 to 99", x, x.weights(0, 1, 0, 1), 49);
            Bounds.KIT.given("none", x, x.weights(0, 1, 0, 2), 0);
            noLetterOfAnyWeight("weights", (y, w) -> y.weights(w[0], w[1], w[2], 0));
            for (int strike : NO_STRIKES) {
                Bounds.no(1, "strike " + strike, y -> y.weights(0, 1, 0, strike));
            }
        });
        says(38, "The least (what 0), greatest (1) of these (1; 6: none).", () -> {
            OddCancel x = Bounds.base();
            Bounds.KIT.due("1 to 4", x.weightAt(0, 1, 0, 0, 0) * 10 + x.weightAt(0, 1, 0, 0, 1), 14);
            Bounds.KIT.due("51 to 99", x.weightAt(0, 1, 0, 1, 0) * 100 + x.weightAt(0, 1, 0, 1, 1), 5199);
            Bounds.no(6, "no least", y -> y.weightAt(0, 1, 0, 2, 0));
            Bounds.no(6, "no greatest", y -> y.weightAt(0, 1, 0, 2, 1));
            noLetterOfAnyWeight("weightAt", (y, w) -> y.weightAt(w[0], w[1], w[2], 0, 0));
            for (int strike : NO_STRIKES) {
                Bounds.no(1, "strike " + strike, y -> y.weightAt(0, 1, 0, strike, 0));
            }
            for (int what : new int[] {-1, 2, Bounds.LOW, Bounds.HIGH}) {
                Bounds.no(1, "what " + what, y -> y.weightAt(0, 1, 0, 0, what));
            }
        });
        says(39, "The set of STRIKES that a LETTER in a HAND can get by any WEIGHT (1).", () -> {
            OddCancel x = Bounds.of(Bounds.PEOPLE + "law ok under 2;law nie over 98;");
            Bounds.KIT.given("by 1 and by 99", x, x.could(0, 1, 0), 5);
            Bounds.KIT.given("none", x, Bounds.of(Bounds.PEOPLE).could(0, 1, 0), 0);
            OddCancel six = Bounds.of(Bounds.MOST + "law a under 10;law b under 20;law c under 30;law d under 40;law e under 50;law f;");
            Bounds.KIT.given("all six", six, six.could(5, 0, 3), 63);
            noLetterOfAnyWeight("could", (y, w) -> y.could(w[0], w[1], w[2]));
        });
        says(40, "The set of LAWS that are the first that FITS for no LETTER at all, from any PERSON to any other one, of any WEIGHT (1 to 99), in any HAND.", () -> {
            OddCancel x = Bounds.of(Bounds.PEOPLE + "law ok under 1;law dud over 99;law ok under 2;law dud over 98;law nie from ann to ann;law ok by shp;law nie;law dud;");
            Bounds.KIT.given("0, 1, 4 and 7", x, x.idle(), 1 + 2 + 16 + 128);
            Bounds.KIT.given("nobody: all", x, Bounds.of("strike s;law s;law s;").idle(), 3);
            Bounds.KIT.given("one person: all", x, Bounds.of("strike s;hand h;person p hand h;" + "law s;".repeat(8)).idle(), 255);
            Bounds.KIT.given("no laws", x, new OddCancel().idle(), 0);
            Bounds.KIT.given("a hand that nobody writes", x, Bounds.of("strike s;hand h;hand i;person p hand h;person q hand h;law s by i;").idle(), 0);
            Bounds.KIT.given("from the first to the last, and back", x, Bounds.of(Bounds.PEOPLE + "law ok from ann to cy;law ok from cy to ann;").idle(), 0);
            Bounds.asks("idle", OddCancel::idle);
        });
    }

    private interface LetterCall {
        long on(OddCancel x, int[] letter);
    }

    private static void noLetterOfAnyWeight(String what, LetterCall call) {
        int[][] wrong = {{-1, 0, 0}, {3, 0, 0}, {0, -1, 0}, {0, 3, 0}, {1, 1, 0}, {0, 1, -1}, {0, 1, 2}, {Bounds.LOW, 1, 0}, {0, Bounds.HIGH, 0}, {0, 1, Bounds.HIGH}};
        for (int[] w : wrong) {
            Bounds.no(1, what, x -> call.on(x, w));
        }
    }

    private static void ways() {
        int[][] wrong = {{-1, 0, 5, 0}, {3, 0, 5, 0}, {0, -1, 5, 0}, {0, 3, 5, 0}, {1, 1, 5, 0}, {0, 1, 0, 0}, {0, 1, 100, 0}, {0, 1, 5, -1}, {0, 1, 5, 3},
            {Bounds.LOW, 1, 5, 0}, {0, Bounds.HIGH, 5, 0}, {0, 1, Bounds.LOW, 0}, {0, 1, 5, Bounds.HIGH}};
        says(41, "VIA: how many LETTERS (1; 6: never).", () -> {
            OddCancel x = Bounds.base();
            Bounds.KIT.given("one", x, x.via(0, 2, 51, 1), 1);
            Bounds.KIT.given("two", x, x.via(0, 2, 4, 2), 2);
            Bounds.KIT.given("weight 1", x, x.via(0, 2, 1, 2), 2);
            Bounds.KIT.given("weight 99", x, x.via(0, 2, 99, 1), 1);
            Bounds.no(6, "never by 5", y -> y.via(0, 2, 5, 2));
            for (int[] w : wrong) {
                Bounds.no(1, "via", y -> y.via(w[0], w[1], w[2], w[3]));
            }
        });
        says(42, "The PERSON to whom the first LETTER of that goes, of several the first (1; 6).", () -> {
            OddCancel x = Bounds.base();
            Bounds.KIT.given("himself", x, x.viaFirst(0, 2, 51, 1), 2);
            Bounds.KIT.given("bob", x, x.viaFirst(0, 2, 4, 2), 1);
            OddCancel y = Bounds.of("strike s;strike t;hand h;person a hand h;person b hand h;person c hand h;person d hand h;law t from c to a;law t from b to a;law s to b;law s to c;");
            Bounds.KIT.given("b or c: the first", y, y.viaFirst(3, 0, 9, 1), 1);
            Bounds.KIT.given("two letters", y, y.via(3, 0, 9, 1), 2);
            OddCancel first = Bounds.of("strike s;strike t;hand h;person a hand h;person b hand h;person c hand h;law t from a to c;law s from b to a;");
            Bounds.KIT.given("by way of the first of all", first, first.viaFirst(1, 2, 9, 1), 0);
            Bounds.no(6, "never by 5", z -> z.viaFirst(0, 2, 5, 2));
            for (int[] w : wrong) {
                Bounds.no(1, "viaFirst", z -> z.viaFirst(w[0], w[1], w[2], w[3]));
            }
        });
    }

    private static OddCancel ofARing() {
        return Bounds.of(Bounds.PAIR + "strike t;law s under 10;law t;acts p on s to q weight 5;acts q on s to p weight 5;acts p on t to q weight 9;");
    }

    private static void echoes() {
        says(43, "ECHO: LETTERS (1; 7: it goes ROUND).", () -> {
            OddCancel x = Bounds.base();
            Bounds.KIT.given("0", x, x.echo(0, 0), 0);
            Bounds.KIT.given("2", x, x.echo(1, 0), 2);
            Bounds.no(7, "in the ring", BoundsOfPromises::ofARing, y -> y.echo(0, 0));
            Bounds.no(7, "into the ring", BoundsOfPromises::ofARing, y -> y.echo(0, 1));
            Bounds.KIT.due("beside it", ofARing().echo(1, 1), 0);
            for (int wrong : NO_STRIKES) {
                Bounds.no(1, "person " + wrong, y -> y.echo(wrong, 0));
                Bounds.no(1, "strike " + wrong, y -> y.echo(0, wrong));
            }
        });
        says(44, "How many PERSONS and STRIKES are in the ring of an ECHO that goes ROUND (1; 6: it does not).", () -> {
            OddCancel x = ofARing();
            Bounds.KIT.given("in the ring", x, x.round(1, 0), 2);
            Bounds.KIT.given("into the ring", x, x.round(0, 1), 2);
            Bounds.no(6, "it does not", BoundsOfPromises::ofARing, y -> y.round(1, 1));
            for (int wrong : NO_STRIKES) {
                Bounds.no(1, "person " + wrong, y -> y.round(wrong, 0));
                Bounds.no(1, "strike " + wrong, y -> y.round(0, wrong));
            }
        });
        says(45, "How many couples of a PERSON and a STRIKE come to themselves again.", () -> {
            OddCancel x = ofARing();
            Bounds.KIT.given("two; what leads there does not", x, x.rings(), 2);
            x.forget(1, 0);
            Bounds.KIT.given("none", x, x.rings(), 0);
            Bounds.KIT.given("nobody", x, new OddCancel().rings(), 0);
        });
        says(46, "as 10 times the one and the other, of several the least (6: none).", () -> {
            OddCancel x = ofARing();
            Bounds.KIT.given("1 and 1 alone does not go round", x, x.longest(), 11);
            x.teach(1, 1, 0, 5);
            Bounds.KIT.refused("all go round", x, x.longest(), 6);
            x.forget(1, 0);
            Bounds.KIT.given("t of q: 5 to p, s: 5 to q", x, x.longest(), 11);
            x.forget(1, 1);
            Bounds.KIT.given("s and t of p have one each: the least", x, x.longest(), 0);
            Bounds.no(6, "nobody", OddCancel::new, OddCancel::longest);
            OddCancel y = Bounds.of(Bounds.MOST + "law f;acts p on f to o weight 5;");
            Bounds.KIT.given("the last of all", y, y.longest(), 55);
        });
    }

    private static OddCancel twoCovers() {
        OddCancel x = Bounds.living(Bounds.TWO + "letter p q weight 5;letter p q weight 50;", "day 1;");
        x.day(1);
        Bounds.row(x, 0, 0, 0, 1, 2, -1);
        Bounds.row(x, 1, 3, 1L << 32, 0);
        Bounds.row(x, 3, 1);
        return x;
    }

    private interface RowCall {
        long on(OddCancel x, int tray, int n);
    }

    private static void noRow(String what, RowCall call) {
        for (int tray : NO_TRAYS) {
            Bounds.no(1, what + " tray " + tray, BoundsOfPromises::twoCovers, x -> call.on(x, tray, 1));
        }
        for (int n : new int[] {0, -1, 13, Bounds.LOW, Bounds.HIGH}) {
            Bounds.no(1, what + " n " + n, BoundsOfPromises::twoCovers, x -> call.on(x, 0, n));
        }
        Bounds.no(2, what + " missing", BoundsOfPromises::twoCovers, x -> call.on(x, 2, 1));
        Bounds.no(3, what + " too few", BoundsOfPromises::twoCovers, x -> call.on(x, 0, 5));
        Bounds.no(3, what + " none", BoundsOfPromises::twoCovers, x -> call.on(x, 3, 1));
        Bounds.no(5, what + " no strike 2", BoundsOfPromises::twoCovers, x -> call.on(x, 0, 3));
        Bounds.no(5, what + " no strike at all", BoundsOfPromises::twoCovers, x -> call.on(x, 0, 4));
        Bounds.no(5, what + " not cut", BoundsOfPromises::twoCovers, x -> call.on(x, 1, 1));
    }

    private static void rows() {
        says(47, "READ by the first n (1 to 12) numbers of a TRAY (1; 2; 3; 5: no STRIKE).", () -> {
            OddCancel x = twoCovers();
            Bounds.KIT.given("1", x, x.reads(0, 1), 1);
            Bounds.KIT.given("2", x, x.reads(0, 2), 1);
            Bounds.row(x, 0, 0, 0, 0, 0, 0, 0, 0, 0, 0, 0, 0, 0, 0, 9);
            Bounds.KIT.given("12", x, x.reads(0, 12), 0);
            noRow("reads", OddCancel::reads);
            Bounds.asks("reads", y -> y.reads(0, 3));
        });
        says(48, "1 if the DAY's COVERS are just that row, else 0 (1; 2; 3; 5).", () -> {
            OddCancel x = twoCovers();
            Bounds.KIT.given("fewer", x, x.isJust(0, 1), 0);
            Bounds.KIT.given("just", x, x.isJust(0, 2), 1);
            Bounds.row(x, 0, 0, 0, 1, 1);
            Bounds.KIT.given("more", x, x.isJust(0, 3), 0);
            Bounds.row(x, 0, 0, 0, 0);
            Bounds.KIT.given("the last is another", x, x.isJust(0, 2), 0);
            Bounds.row(x, 0, 0, 1, 1);
            Bounds.KIT.given("the first is another", x, x.isJust(0, 2), 0);
            noRow("isJust", OddCancel::isJust);
            OddCancel twelve = Bounds.of(Bounds.TWO + "letter p q weight 5;".repeat(12));
            twelve.tray(0, 0, 12);
            Bounds.KIT.given("no covers", twelve, twelve.isJust(0, 1), 0);
            twelve.day(1);
            Bounds.KIT.given("twelve", twelve, twelve.isJust(0, 12), 1);
            Bounds.KIT.given("eleven", twelve, twelve.isJust(0, 11), 0);
            OddCancel plain = Bounds.of(Bounds.PAIR + "law s under 5;letter p q weight 4;letter p q weight 5;");
            plain.day(1);
            plain.tray(0, 0, 2);
            Bounds.KIT.given("a plain one is no strike", plain, plain.isJust(0, 2), 0);
        });
        says(49, "STRIKES of the DAY's COVERS come to a TRAY (-1: PLAIN): how many (1; 2; 3).", () -> {
            OddCancel x = aDayOn();
            for (int sort = 0; sort < 4; sort++) {
                Bounds.row(x, 0, sort, 9, 9, 9, 9, 9);
                Bounds.KIT.given("four", x, x.copyDay(0), 4);
                long[] due = {0, 0, -1, 1, 9};
                for (int place = 0; place < 5; place++) {
                    Bounds.KIT.given("copied", x, x.read(0, place), due[place]);
                }
            }
            x.tray(0, 0, 4);
            Bounds.KIT.given("just as many", x, x.copyDay(0), 4);
            x.tray(0, 0, 3);
            Bounds.KIT.refused("one too few", x, x.copyDay(0), 3);
            Bounds.KIT.due("nothing came", x.read(0, 0) + x.read(0, 2), 0);
            for (int tray : NO_TRAYS) {
                Bounds.no(1, "copyDay " + tray, BoundsOfPromises::twoCovers, y -> y.copyDay(tray));
            }
            Bounds.no(2, "missing", BoundsOfPromises::twoCovers, y -> y.copyDay(2));
            Bounds.no(3, "of none", BoundsOfPromises::twoCovers, y -> y.copyDay(3));
            OddCancel none = new OddCancel();
            none.tray(0, 0, 0);
            Bounds.KIT.given("no covers to a tray of none", none, none.copyDay(0), 0);
        });
    }

    private static void spells() {
        says(50, "1 if the first n (1 to 12) numbers of a TRAY can be SPELLED, else 0 (1; 2; 3; 5: no STRIKE).", () -> {
            OddCancel x = twoCovers();
            Bounds.KIT.given("1", x, x.spells(0, 1), 1);
            Bounds.KIT.given("2", x, x.spells(0, 2), 1);
            x.tray(0, 0, 12);
            Bounds.KIT.given("12", x, x.spells(0, 12), 1);
            noRow("spells", OddCancel::spells);
            OddCancel never = Bounds.of(Bounds.PAIR);
            never.tray(0, 0, 1);
            Bounds.KIT.given("no law", never, never.spells(0, 1), 0);
            OddCancel nobody = Bounds.of("strike s;hand h;person p hand h;law s;");
            nobody.tray(0, 0, 1);
            Bounds.KIT.given("nobody to post to", nobody, nobody.spells(0, 1), 0);
            Bounds.KIT.given("letters that wait do not matter", x, spellsWhileTwelveWait(), 1);
        });
        says(51, "Of the k-th LETTER of that, what 0: who posts it, 1: to whom, 2: WEIGHT (1: k, what, too; 2; 3; 5; 6: it can't be).", () -> {
            OddCancel x = twoCovers();
            Bounds.KIT.due("the first", x.spellAt(0, 2, 0, 0) * 1000 + x.spellAt(0, 2, 0, 1) * 100 + x.spellAt(0, 2, 0, 2), 1001);
            Bounds.KIT.due("the last", x.spellAt(0, 2, 1, 0) * 1000 + x.spellAt(0, 2, 1, 1) * 100 + x.spellAt(0, 2, 1, 2), 1010);
            x.tray(0, 0, 12);
            Bounds.KIT.given("the twelfth", x, x.spellAt(0, 12, 11, 2), 1);
            noRow("spellAt", (y, tray, n) -> y.spellAt(tray, n, 0, 0));
            for (int k : new int[] {-1, 2, Bounds.LOW, Bounds.HIGH}) {
                Bounds.no(1, "k " + k, BoundsOfPromises::twoCovers, y -> y.spellAt(0, 2, k, 0));
            }
            for (int what : new int[] {-1, 3, Bounds.LOW, Bounds.HIGH}) {
                Bounds.no(1, "what " + what, BoundsOfPromises::twoCovers, y -> y.spellAt(0, 2, 0, what));
            }
            Bounds.no(6, "it can't be", BoundsOfPromises::withoutLaws, y -> y.spellAt(0, 1, 0, 0));
        });
    }

    private static OddCancel withoutLaws() {
        OddCancel x = Bounds.of(Bounds.PAIR);
        x.tray(0, 0, 1);
        return x;
    }

    private static int spellsWhileTwelveWait() {
        OddCancel x = Bounds.of(Bounds.TWO + "letter p q weight 50;".repeat(12));
        x.tray(0, 0, 12);
        return x.spells(0, 12);
    }

    private static OddCancel ofSplits() {
        OddCancel x = Bounds.living(Bounds.PEOPLE, "day 1;");
        Bounds.row(x, 0, 1, 10, 0, 20, 1, 0, 0);
        Bounds.row(x, 1, 1, 10, 2, 100, 0);
        Bounds.row(x, 3, 3, 99, 0, 1L << 32 | 5, 0, 50, 1L << 32);
        return x;
    }

    private interface SplitCall {
        long on(OddCancel x, int tray, int n, int below, int above);
    }

    private static void noSplit(String what, SplitCall call) {
        int[][] wrong = {{-1, 0, 0, 1}, {4, 0, 0, 1}, {0, -1, 0, 1}, {0, 31, 0, 1}, {0, 1, -1, 1}, {0, 1, 3, 1}, {0, 1, 0, -1}, {0, 1, 0, 3}, {0, 1, 1, 1}, {0, 1, 0, 0},
            {Bounds.LOW, 0, 0, 1}, {0, Bounds.HIGH, 0, 1}, {0, Bounds.LOW, 0, 1}, {0, 1, Bounds.LOW, 1}, {0, 1, 0, Bounds.HIGH}};
        for (int[] w : wrong) {
            Bounds.no(1, what, BoundsOfPromises::ofSplits, x -> call.on(x, w[0], w[1], w[2], w[3]));
        }
        Bounds.no(2, what + " missing", BoundsOfPromises::ofSplits, x -> call.on(x, 2, 0, 0, 1));
        Bounds.no(3, what + " too few", BoundsOfPromises::ofSplits, x -> call.on(x, 0, 4, 0, 1));
        Bounds.no(3, what + " far too few", BoundsOfPromises::ofSplits, x -> call.on(x, 0, 30, 0, 1));
        Bounds.no(5, what + " weight 0", BoundsOfPromises::ofSplits, x -> call.on(x, 0, 3, 0, 1));
        Bounds.no(5, what + " strike 2 is neither", BoundsOfPromises::ofSplits, x -> call.on(x, 1, 1, 0, 1));
        Bounds.no(5, what + " weight 100", BoundsOfPromises::ofSplits, x -> call.on(x, 1, 2, 2, 0));
        Bounds.no(5, what + " a weight that is not cut", BoundsOfPromises::ofSplits, x -> call.on(x, 3, 2, 1, 0));
    }

    private static void splits() {
        says(52, "SPLIT by the first n (0 to 30) covers of a TRAY, two numbers each, for two STRIKES: how many t (1: two alike, too; 2; 3; 5: a WEIGHT not 1 to 99, a STRIKE that is neither).", () -> {
            OddCancel x = ofSplits();
            Bounds.KIT.given("no covers", x, x.split(0, 0, 0, 1), 100);
            Bounds.KIT.given("11 to 100", x, x.split(0, 1, 0, 1), 90);
            Bounds.KIT.given("11 to 20", x, x.split(0, 2, 0, 1), 10);
            Bounds.KIT.given("weight 99", x, x.split(3, 1, 0, 1), 1);
            x.tray(1, 0, 60);
            for (int k = 0; k < 30; k++) {
                x.write(1, 2 * k, k + 1);
            }
            Bounds.KIT.given("30 covers", x, x.split(1, 30, 0, 1), 70);
            x.tray(1, 0, 0);
            Bounds.KIT.given("none of a tray of none", x, x.split(1, 0, 0, 1), 100);
            x.tray(1, 0, 59);
            Bounds.KIT.refused("30 of 59 numbers", x, x.split(1, 30, 0, 1), 3);
            noSplit("split", OddCancel::split);
            Bounds.no(5, "a strike that is not cut", () -> {
                OddCancel y = ofSplits();
                Bounds.row(y, 1, 3, 50, 1L << 32);
                return y;
            }, y -> y.split(1, 1, 0, 1));
        });
        says(53, "NEXT of that (1; 2; 3; 5; 6).", () -> {
            OddCancel x = ofSplits();
            Bounds.KIT.given("of all", x, x.splitNext(0, 0, 0, 1), 50);
            Bounds.KIT.given("11 to 20", x, x.splitNext(0, 2, 0, 1), 15);
            noSplit("splitNext", OddCancel::splitNext);
            Bounds.no(6, "100 alone", BoundsOfPromises::ofSplits, y -> y.splitNext(3, 1, 0, 1));
            Bounds.no(6, "none", BoundsOfPromises::ofSplits, y -> y.splitNext(0, 2, 1, 0));
        });
        says(54, "How many unlike LAWS are first for some COVER of the DAY, struck sober (PLAIN ones do not count).", () -> {
            OddCancel x = Bounds.of(Bounds.TWO.replace("law t;", "law t under 20;") + "letter p q weight 50;");
            Bounds.KIT.given("no covers", x, x.lawsUsed(), 0);
            x.day(1);
            Bounds.KIT.given("a plain one", x, x.lawsUsed(), 0);
            x.post(0, 1, 5, 0);
            x.post(1, 0, 6, 0);
            x.post(0, 1, 50, 0);
            x.drink(true);
            x.day(1);
            Bounds.KIT.given("one law for two", x, x.lawsUsed(), 1);
            OddCancel eight = Bounds.of(Bounds.PAIR + "law s under 2;law s under 3;law s under 4;law s under 5;law s under 6;law s under 7;law s under 8;law s under 9;");
            for (int weight = 1; weight <= 12; weight++) {
                eight.post(0, 1, weight, 0);
            }
            eight.day(1);
            Bounds.KIT.given("all eight", eight, eight.lawsUsed(), 8);
        });
    }

    private static void games() {
        says(55, "GAME; STATUS tells NONE from -1 (1).", () -> {
            OddCancel x = Bounds.of("strike a worth 1;strike b worth 2;hand h;person p hand h;person q hand h;law a under 10;law b;letter p q weight 5;letter p q weight 6;");
            Bounds.KIT.given("1 less 2", x, x.game(2), -1);
            for (int turns : new int[] {0, -1, 4, Bounds.LOW, Bounds.HIGH}) {
                Bounds.no(1, "game " + turns, y -> y.game(turns));
            }
            Bounds.KIT.given("no letters", x, new OddCancel().game(3), 0);
            OddCancel most = Bounds.of(Bounds.TWO + "letter p q weight 5;".repeat(12));
            Bounds.KIT.given("twelve letters: 2 less 7 and 2", most, most.game(3), -3);
        });
        says(56, "The LETTER that the first takes first by that, of several the first (1; 6: none WAITS).", () -> {
            OddCancel x = Bounds.of(Bounds.TWO + "letter p q weight 5;".repeat(10) + "letter p q weight 50;letter p q weight 60;");
            Bounds.KIT.given("the 11th", x, x.gameFirst(1), 10);
            x.take(10);
            Bounds.KIT.given("the last", x, x.gameFirst(1), 10);
            x.take(10);
            Bounds.KIT.given("all alike: the first", x, x.gameFirst(3), 0);
            OddCancel z = Bounds.of("strike a worth 1;strike b worth 9;hand h;person p hand h;person q hand h;law a under 10;law b under 20;law a;letter p q weight 5;letter p q weight 15;letter p q weight 25;");
            // the first makes 1, 9, 1 of them, the second 1 of each
            Bounds.KIT.given("9 less 1", z, z.game(2), 8);
            Bounds.KIT.given("the second", z, z.gameFirst(2), 1);
            OddCancel two = Bounds.of("strike a worth 3;strike b worth 5;hand h;person p hand h;person q hand h;law a under 10;law b;letter p q weight 20;letter p q weight 5;");
            Bounds.KIT.given("5 less 5", two, two.game(2), 0);
            Bounds.KIT.given("the first", two, two.gameFirst(2), 0);
            OddCancel deny = Bounds.of("strike a worth 3;strike b worth 4;strike c worth 9;hand h;person p hand h;person q hand h;law b over 15;law a;law c under 10;letter p q weight 20;letter p q weight 9;");
            // to the first 4 and 3, to the second 3 and 9
            Bounds.KIT.given("4 is the most of one turn", deny, deny.gameFirst(1), 0);
            Bounds.KIT.given("3 less 3 rather than 4 less 9", deny, deny.game(2), 0);
            Bounds.KIT.given("the 9 is taken away", deny, deny.gameFirst(2), 1);
            for (int turns : new int[] {0, -1, 4, Bounds.LOW, Bounds.HIGH}) {
                Bounds.no(1, "gameFirst " + turns, y -> y.gameFirst(turns));
            }
            for (int turns = 1; turns <= 3; turns++) {
                int t = turns;
                Bounds.no(6, "none waits", () -> Bounds.of(Bounds.TWO), y -> y.gameFirst(t));
            }
        });
        says(57, "The STRIKE of the k-th LETTER that WAITS by the other brother (LAWS from the last on) (1; 6: PLAIN).", () -> {
            OddCancel x = Bounds.base();
            Bounds.KIT.given("law 0 alone fits", x, x.brother(0), 0);
            Bounds.KIT.given("nie ahead of dud", x, x.brother(1), 2);
            Bounds.KIT.given("ok to ann", x, x.brother(2), 0);
            Bounds.no(6, "plain", Bounds::base, y -> y.brother(3));
            for (int k : new int[] {-1, 4, Bounds.LOW, Bounds.HIGH}) {
                Bounds.no(1, "brother " + k, Bounds::base, y -> y.brother(k));
            }
            Bounds.no(1, "none waits", OddCancel::new, y -> y.brother(0));
        });
    }

    private static void weeks() {
        says(58, "LIVED: how many STEPS were done (1; 6: no WEEKS).", () -> {
            OddCancel x = Bounds.living(Bounds.TWO, "");
            Bounds.KIT.given("no steps", x, x.live(0), 0);
            Kit.weeks(x, "sober;stop;any;");
            Bounds.KIT.given("one missed, and a stop", x, x.live(9999), 2);
            Bounds.no(6, "no weeks", Bounds::base, y -> y.live(0));
            for (int seed : new int[] {-1, 10000, Bounds.LOW, Bounds.HIGH}) {
                Bounds.no(1, "live " + seed, y -> y.live(seed));
            }
        });
        says(59, "Of live() latest with STATUS 0, what 0: MISSED, 1: DAYS, 2: COVERS, 3: LETTERS that were posted (by post alone), 4: 1 if a STEP was left to be done, else 0 (1; 6: there was none).", () -> {
            OddCancel x = Bounds.living(Bounds.TWO + "acts q on s to p weight 50;", "post p q 5;post q p 50;day 2;sober;");
            Bounds.KIT.refused("there was none", x, x.lived(0), 6);
            x.live(10000);
            Bounds.KIT.refused("a refused one is none", x, x.lived(0), 6);
            x.live(0);
            int[] due = {1, 2, 3, 2, 0};
            for (int what = 0; what < 5; what++) {
                Bounds.KIT.given("lived " + what, x, x.lived(what), due[what]);
            }
            x.live(-1);
            Bounds.KIT.given("the latest with 0", x, x.lived(2), 3);
            Kit.weeks(x, "");
            x.live(0);
            for (int what = 0; what < 5; what++) {
                Bounds.KIT.given("of nothing " + what, x, x.lived(what), 0);
            }
            for (int what : new int[] {-1, 5, Bounds.LOW, Bounds.HIGH}) {
                Bounds.no(1, "lived " + what, y -> y.lived(what));
            }
            Bounds.no(6, "none yet", Bounds::base, y -> y.lived(4));
        });
        says(60, "The FRACTION is the mean of WORTH of all COVERS there were (as told(11)) behind the WEEKS, by so many seeds (1 to 20) from one on (1: the last above 9,999, too; 6: no WEEKS); all stays as it is.", BoundsOfPromises::means);
    }

    private static void means() {
        OddCancel x = Bounds.living(Bounds.TWO + "odds 8;letter p q weight 5;", "any;day 1;");
        // draws by seeds 0 to 4: 15, 11, 7, 4, 0; below 8 he is drunk, and strikes 7 for 2
        int[] tops = {2, 2, 11, 9, 5};
        int[] bottoms = {1, 1, 3, 2, 1};
        for (int many = 1; many <= 5; many++) {
            Bounds.KIT.given("mean of " + many, x, x.mean(0, many));
            Bounds.fraction("mean of " + many, x, tops[many - 1], bottoms[many - 1]);
        }
        Bounds.KIT.given("one seed, the last", x, x.mean(9999, 1));
        Bounds.fraction("its draw is 5", x, 7, 1);
        Bounds.KIT.given("twenty seeds to the last", x, x.mean(9980, 20));
        Bounds.KIT.due("all stays", x.told(4) * 100 + x.told(7) * 10 + x.told(8), 100);
        int[][] wrong = {{-1, 1}, {10000, 1}, {0, 0}, {0, -1}, {0, 21}, {9981, 20}, {9999, 2}, {Bounds.LOW, 1}, {Bounds.HIGH, 1}, {0, Bounds.HIGH}, {Bounds.HIGH, Bounds.HIGH}, {0, Bounds.LOW}};
        for (int[] w : wrong) {
            Bounds.no(1, "mean", y -> Watch.yes(y.mean(w[0], w[1])));
        }
        Bounds.no(6, "no weeks", Bounds::base, y -> Watch.yes(y.mean(0, 1)));
        OddCancel whole = Bounds.full();
        OddCancel twin = Bounds.full();
        whole.mean(0, 20);
        for (int what = 0; what < 12; what++) {
            Bounds.KIT.due("told " + what + " stays", whole.told(what), twin.told(what));
        }
        for (int what = 0; what < 5; what++) {
            Bounds.KIT.due("lived " + what + " stays", whole.lived(what), twin.lived(what));
        }
    }

    private static OddCancel ofThreeMarks() {
        OddCancel x = Bounds.full();
        x.mark();
        x.mark();
        return x;
    }

    private static void marks() {
        says(61, "A MARK more: how many there are (4).", () -> {
            OddCancel x = new OddCancel();
            for (int k = 1; k <= 3; k++) {
                Bounds.KIT.given("mark", x, x.mark(), k);
            }
            Bounds.no(4, "a fourth", BoundsOfPromises::ofThreeMarks, OddCancel::mark);
        });
        says(62, "All is taken back to the latest MARK: how many there are left (6).", () -> {
            OddCancel x = ofThreeMarks();
            x.day(1);
            for (int k = 2; k >= 0; k--) {
                Bounds.KIT.given("undo", x, x.undo(), k);
            }
            Bounds.KIT.refused("none is left", x, x.undo(), 6);
            Bounds.no(6, "none at first", Bounds::base, OddCancel::undo);
        });
    }
}
