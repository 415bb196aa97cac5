/** Boundaries that the terms name, but for those of texts. */
final class BoundsOfTerms {
    /** Six persons a to f in one hand, strikes s and t. */
    private static final String SIX = "strike s;strike t;hand h;person a hand h;person b hand h;person c hand h;"
        + "person d hand h;person e hand h;person f hand h;";

    private BoundsOfTerms() {
    }

    private static void says(int part, String quote, Runnable test) {
        Bounds.DOC.says("T" + part, quote, test);
    }

    static void run() {
        says(0, "An object is used for at most 512 calls after it has been made", () -> {
            OddCancel x = new OddCancel();
            for (int k = 1; k < 512; k++) {
                x.told(k % 12);
            }
            Bounds.KIT.due("the 512th call", x.told(6), 4);
        });
        days();
        wraps();
        echoesAndRows();
        splitsAndGames();
        steps();
        misses();
        limits();
        statuses();
    }

    private static void days() {
        says(2, "that of the first LAW that FITS it (PLAIN: none, if none does)", () -> {
            OddCancel x = Bounds.of(Bounds.PAIR + "strike t;law t under 5;law s under 9;");
            Bounds.KIT.given("both fit", x, x.strikeOf(0, 1, 4, 0), 1);
            Bounds.KIT.given("the second fits", x, x.strikeOf(0, 1, 8, 0), 0);
            Bounds.KIT.refused("none fits", x, x.strikeOf(0, 1, 9, 0), 6);
            x = Bounds.of(Bounds.PAIR);
            Bounds.KIT.refused("no laws at all", x, x.strikeOf(0, 1, 9, 0), 6);
        });
        says(2, "(behind the last one comes the first; PLAIN stays)", () -> {
            OddCancel x = Bounds.of(Bounds.MOST + "law a under 10;law b under 20;law e under 30;law f under 40;");
            x.drink(true);
            Bounds.KIT.given("behind the first", x, x.struckNow(0, 1, 5, 0), 1);
            Bounds.KIT.given("behind the last but one", x, x.struckNow(0, 1, 25, 0), 5);
            Bounds.KIT.given("behind the last", x, x.struckNow(0, 1, 35, 0), 0);
            Bounds.KIT.refused("plain", x, x.struckNow(0, 1, 45, 0), 6);
            x.post(0, 1, 35, 0);
            x.post(0, 1, 45, 0);
            x.day(1);
            Bounds.KIT.given("so it is struck", x, x.cover(0, 4), 0);
            Bounds.KIT.refused("so it is not", x, x.cover(1, 4), 6);
            OddCancel one = Bounds.of(Bounds.PAIR + "law s;");
            one.drink(true);
            Bounds.KIT.given("behind the only one", one, one.struckNow(0, 1, 5, 0), 0);
        });
        says(2, "A DAY goes by (to 9,999)", () -> {
            OddCancel x = new OddCancel();
            for (int k = 0; k < 101; k++) {
                Bounds.KIT.given("99 days", x, x.day(99), 0);
            }
            Bounds.KIT.given("the last day", x, x.told(7), 9999);
            Bounds.KIT.refused("none behind it", x, x.day(1), 4);
        });
        says(2, "by the number of the PERSON to whom they go, then as they were posted", () -> {
            OddCancel x = Bounds.of(Bounds.PEOPLE);
            int[][] posts = {{0, 2}, {1, 0}, {0, 1}, {2, 0}, {1, 2}, {2, 1}};
            for (int k = 0; k < 6; k++) {
                x.post(posts[k][0], posts[k][1], k + 1, 0);
            }
            x.day(1);
            int order = 0;
            for (int k = 0; k < 6; k++) {
                order = order * 10 + x.cover(k, 2);
            }
            Bounds.KIT.due("order", order, 243615);
        });
        says(2, "they are the DAY's COVERS then (those of the DAY ahead are gone); nothing WAITS any more", () -> {
            OddCancel x = Bounds.of(Bounds.TWO + "letter p q weight 5;letter q p weight 5;");
            Bounds.KIT.given("a day of two", x, x.day(1), 2);
            Bounds.KIT.due("nothing waits", x.told(4) * 10 + x.told(5), 2);
            Bounds.KIT.given("a day of none", x, x.day(1), 0);
            Bounds.KIT.given("they are gone", x, x.told(5), 0);
            Bounds.KIT.refused("no cover 0", x, x.cover(0, 0), 1);
            Bounds.KIT.given("two in all", x, x.told(9), 2);
        });
        says(2, "posts that LETTER (if fewer than 12 WAIT)", () -> {
            OddCancel x = Bounds.of(Bounds.TWO + "acts p on s to q weight 3;acts q on s to p weight 4;" + "letter p q weight 5;letter q p weight 6;".repeat(6));
            Bounds.KIT.given("twelve", x, x.day(1), 12);
            Bounds.KIT.given("twelve answers", x, x.told(4), 12);
            Bounds.KIT.given("three days", x, x.day(3), 36);
            Bounds.KIT.given("twelve still", x, x.told(4), 12);
        });
        says(2, "Then the DAY is 1 more.", () -> {
            OddCancel x = new OddCancel();
            x.day(1);
            Bounds.KIT.given("day 1", x, x.told(7), 1);
        });
        says(2, "a LETTER more WAITS (12 at most)", () -> {
            OddCancel x = Bounds.of(Bounds.TWO);
            for (int k = 1; k <= 12; k++) {
                Bounds.KIT.given("letter " + k, x, x.post(0, 1, k, 0), k);
            }
            Bounds.KIT.refused("a 13th", x, x.post(0, 1, 1, 0), 4);
            Bounds.KIT.given("twelve", x, x.told(4), 12);
        });
    }

    private static void wraps() {
        says(3, "Here he is sober.", () -> {
            OddCancel x = Bounds.base();
            OddCancel y = Bounds.base();
            y.drink(true);
            Bounds.row(x, 0, 0, 0, 2, 1);
            Bounds.row(y, 0, 0, 0, 2, 1);
            Bounds.KIT.due("strikeOf", y.strikeOf(1, 2, 70, 1), x.strikeOf(1, 2, 70, 1));
            Bounds.KIT.due("wrap", y.wrap(1, 2, 20, 1, 1), x.wrap(1, 2, 20, 1, 1));
            Bounds.KIT.due("weights", y.weights(0, 1, 0, 0), x.weights(0, 1, 0, 0));
            Bounds.KIT.due("weightAt", y.weightAt(0, 1, 0, 1, 0), x.weightAt(0, 1, 0, 1, 0));
            Bounds.KIT.due("could", y.could(0, 1, 0), x.could(0, 1, 0));
            Bounds.KIT.due("via", y.via(0, 2, 3, 2), x.via(0, 2, 3, 2));
            Bounds.KIT.due("viaFirst", y.viaFirst(0, 2, 3, 2), x.viaFirst(0, 2, 3, 2));
            Bounds.KIT.due("echo", y.echo(1, 0), x.echo(1, 0));
            Bounds.KIT.due("longest", y.longest(), x.longest());
            Bounds.KIT.due("spells", y.spells(0, 3), x.spells(0, 3));
            Bounds.KIT.due("spellAt", y.spellAt(0, 3, 2, 2), x.spellAt(0, 3, 2, 2));
            Bounds.KIT.due("game", y.game(3), x.game(3));
            Bounds.KIT.due("brother", y.brother(1), x.brother(1));
        });
        says(3, "the least that a LETTER must weigh more (0 to 98; WEIGHT to 99), so that he strikes it so", () -> {
            OddCancel x = Bounds.of(Bounds.PAIR + "law s over 98;");
            Bounds.KIT.given("98", x, x.wrap(0, 1, 1, 0, 0), 98);
            Bounds.KIT.given("1", x, x.wrap(0, 1, 98, 0, 0), 1);
            Bounds.KIT.given("0", x, x.wrap(0, 1, 99, 0, 0), 0);
            OddCancel y = Bounds.of(Bounds.PAIR + "law s over 99;");
            Bounds.KIT.refused("not to 100", y, y.wrap(0, 1, 99, 0, 0), 6);
            OddCancel z = Bounds.of(Bounds.PAIR + "law s under 5;");
            Bounds.KIT.given("4 needs none", z, z.wrap(0, 1, 4, 0, 0), 0);
            Bounds.KIT.refused("5 is too heavy", z, z.wrap(0, 1, 5, 0, 0), 6);
        });
        says(3, "the fewest LETTERS by which something of a WEIGHT gets FROM a PERSON to another one, each in the HAND of who posts it, to somebody else, who posts the next one, so that the last one is struck with a told STRIKE, none is PLAIN", () -> {
            OddCancel x = Bounds.of(SIX + "law t from e to f;law s from a to b;law s from b to c;law s from c to d;law s from d to e;");
            Bounds.KIT.given("five letters", x, x.via(0, 5, 9, 1), 5);
            Bounds.KIT.given("four", x, x.via(1, 5, 9, 1), 4);
            Bounds.KIT.given("one", x, x.via(4, 5, 9, 1), 1);
            Bounds.KIT.refused("not with s", x, x.via(0, 5, 9, 0), 6);
            Bounds.KIT.refused("plain ones lead nowhere", x, x.via(5, 0, 9, 1), 6);
            OddCancel y = Bounds.of(SIX + "law s from a to b;law s from b to c;law s from c to d;law s from d to e;law s from e to f;law t from f to b;");
            Bounds.KIT.given("six, by way of the last one himself", y, y.via(0, 1, 9, 1), 6);
            Bounds.KIT.given("straight", y, y.via(0, 1, 9, 0), 1);
            OddCancel z = Bounds.of(Bounds.PEOPLE + "law ok by rnd from ann to bob;law dud by shp from bob to cy;");
            Bounds.KIT.given("each in his hand", z, z.via(0, 2, 9, 1), 2);
            z.learn(1, 0);
            Bounds.KIT.refused("not in another", z, z.via(0, 2, 9, 1), 6);
        });
        says(3, "WEIGHTS that a LETTER can have (1 to 99) that is struck so.", () -> {
            OddCancel x = Bounds.of(Bounds.PAIR + "law s over 0;");
            Bounds.KIT.given("all", x, x.weights(0, 1, 0, 0), 99);
            Bounds.KIT.due("1 and 99", x.weightAt(0, 1, 0, 0, 0) * 100 + x.weightAt(0, 1, 0, 0, 1), 199);
            x = Bounds.of(Bounds.PAIR + "law s under 2;");
            Bounds.KIT.due("1 alone", x.weights(0, 1, 0, 0) * 100 + x.weightAt(0, 1, 0, 0, 1), 101);
            x = Bounds.of(Bounds.PAIR + "law s over 98;");
            Bounds.KIT.due("99 alone", x.weights(0, 1, 0, 0) * 100 + x.weightAt(0, 1, 0, 0, 0), 199);
            for (String law : new String[] {"law s under 1;", "law s over 99;"}) {
                x = Bounds.of(Bounds.PAIR + law);
                Bounds.KIT.given("none by " + law, x, x.weights(0, 1, 0, 0), 0);
                Bounds.KIT.refused("no least by " + law, x, x.weightAt(0, 1, 0, 0, 0), 6);
                Bounds.KIT.refused("no greatest by " + law, x, x.weightAt(0, 1, 0, 0, 1), 6);
                Bounds.KIT.given("no strike by " + law, x, x.could(0, 1, 0), 0);
                Bounds.KIT.given("idle: " + law, x, x.idle(), 1);
                x.tray(0, 0, 1);
                Bounds.KIT.given("not spelled by " + law, x, x.spells(0, 1), 0);
                Bounds.KIT.refused("not wrapped by " + law, x, x.wrap(0, 1, 99, 0, 0), 6);
            }
        });
        says(3, "the part of all STRIKES he would give a LETTER, DRUNK by ODDS sixteenths, that are a told one", () -> {
            int[] tops = {0, 1, 1, 3, 1, 5, 3, 7, 1, 9, 5, 11, 3, 13, 7, 15, 1};
            int[] bottoms = {1, 16, 8, 16, 4, 16, 8, 16, 2, 16, 8, 16, 4, 16, 8, 16, 1};
            for (int odds = 0; odds <= 16; odds++) {
                OddCancel x = Bounds.of(Bounds.TWO + "odds " + odds + ";");
                Bounds.KIT.given("sure", x, x.sure(0, 1, 5, 0, 1));
                Bounds.fraction("t for s, drunk, odds " + odds, x, tops[odds], bottoms[odds]);
                x.sure(0, 1, 5, 0, 0);
                Bounds.fraction("s for s, sober, odds " + odds, x, tops[16 - odds], bottoms[16 - odds]);
                OddCancel one = Bounds.of(Bounds.PAIR + "law s under 50;odds " + odds + ";");
                one.sure(0, 1, 5, 0, 0);
                Bounds.fraction("one strike alone", one, 1, 1);
                one.sure(0, 1, 50, 0, 0);
                Bounds.fraction("plain", one, 0, 1);
            }
        });
    }

    private static void echoesAndRows() {
        says(3, "he ACTS or not, that LETTER gets a STRIKE (of PLAIN comes nothing), and so on: how many LETTERS are posted till none more is", () -> {
            OddCancel x = Bounds.of(Bounds.PAIR + "law s under 50;");
            Bounds.KIT.given("he acts not", x, x.echo(0, 0), 0);
            x.teach(1, 0, 0, 5);
            x.teach(0, 0, 1, 50);
            Bounds.KIT.given("a plain one, of which comes nothing", x, x.echo(0, 0), 1);
            Bounds.KIT.given("one, and the plain one", x, x.echo(1, 0), 2);
            x.forget(0, 0);
            Bounds.KIT.given("one, then he acts not", x, x.echo(1, 0), 1);
        });
        says(3, "it goes ROUND, if it comes to a PERSON and STRIKE again that was there: how many there are in the ring", () -> {
            OddCancel x = Bounds.of(Bounds.PAIR + "law s;acts p on s to q weight 5;acts q on s to p weight 5;");
            Bounds.KIT.refused("the least ring", x, x.echo(0, 0), 7);
            Bounds.KIT.given("two", x, x.round(0, 0), 2);
            OddCancel y = Bounds.of(Bounds.MOST + "law a under 10;law b under 20;law c under 30;law d under 40;law e under 50;law f;");
            for (int k = 0; k < 36; k++) {
                int next = (k + 1) % 36;
                y.teach(k % 6, k / 6, next % 6, 10 * (next / 6) + 5);
            }
            Bounds.KIT.given("the greatest ring", y, y.round(3, 2), 36);
            y.forget(5, 5);
            Bounds.KIT.given("the longest echo", y, y.echo(0, 0), 35);
            y.teach(5, 5, 4, 55);
            y.teach(4, 5, 5, 55);
            Bounds.KIT.given("a tail of 34 is none of the ring", y, y.round(0, 0), 2);
        });
        says(3, "in how many ways a row of STRIKES in a TRAY can be read along the DAY's COVERS: one COVER for each, in their order, others left out", () -> {
            OddCancel x = Bounds.of(Bounds.TWO + "letter p q weight 5;".repeat(12));
            Bounds.row(x, 0, 0, 0, 0, 0, 0, 0, 0, 0, 0, 0, 0, 0, 0);
            Bounds.KIT.given("no covers yet", x, x.reads(0, 1), 0);
            x.day(1);
            long[] due = {12, 66, 220, 495, 792, 924, 792, 495, 220, 66, 12, 1};
            for (int n = 1; n <= 12; n++) {
                Bounds.KIT.given(n + " of 12", x, x.reads(0, n), due[n - 1]);
            }
            x.write(0, 11, 1);
            Bounds.KIT.given("t was not struck", x, x.reads(0, 12), 0);
            OddCancel y = Bounds.of(Bounds.TWO + "letter p q weight 5;letter p q weight 50;");
            y.day(1);
            Bounds.row(y, 0, 0, 1, 0, 1);
            Bounds.KIT.given("not in another order", y, y.reads(0, 2), 0);
            Bounds.row(y, 0, 0, 0, 1, 1);
            Bounds.KIT.given("one way", y, y.reads(0, 2), 1);
            Bounds.KIT.given("more than there are", y, y.reads(0, 3), 0);
        });
        says(3, "of the k-th the PERSON to whom it goes is the least that can be (no less than of the one ahead), then who posts it (in his HAND) is the least, then its WEIGHT", () -> {
            OddCancel x = Bounds.of(Bounds.PEOPLE + "law ok under 5 to cy;law dud over 97 from cy;law nie by shp from bob to ann;law nie from ann to bob;");
            Bounds.row(x, 0, 0, 1, 2, 2, 1, 0);
            Bounds.KIT.given("spells", x, x.spells(0, 3), 1);
            Bounds.KIT.due("dud: cy to ann, 98", spelled(x, 3, 0), 2098);
            Bounds.KIT.due("nie: bob to ann, 1", spelled(x, 3, 1), 1001);
            x.learn(1, 0);
            Bounds.KIT.due("bob's hand is another: ann to bob", spelled(x, 3, 1), 101);
            Bounds.KIT.due("no less than bob then", spelled(x, 4, 3), 2198);
            Bounds.KIT.due("ok: ann to cy, 1", spelled(x, 5, 4), 201);
            Bounds.row(x, 0, 0, 0, 1);
            Bounds.KIT.given("none of cy to cy", x, x.spells(0, 2), 0);
        });
    }

    /** Who posts it, to whom, WEIGHT. */
    private static int spelled(OddCancel x, int n, int k) {
        return x.spellAt(0, n, k, 0) * 1000 + x.spellAt(0, n, k, 1) * 100 + x.spellAt(0, n, k, 2);
    }

    private static void splitsAndGames() {
        says(3, "who strikes one STRIKE below some WEIGHT t (1 to 100), and another one from t on (a told couple of unlike STRIKES): how many t fit all covers", () -> {
            OddCancel x = Bounds.of(Bounds.TWO);
            Bounds.row(x, 0, 0, 1, 1);
            Bounds.KIT.given("all t", x, x.split(0, 0, 0, 1), 100);
            Bounds.KIT.given("t from 1 on: 1 alone", x, x.split(0, 1, 0, 1), 1);
            Bounds.KIT.given("1 below t: 2 to 100", x, x.split(0, 1, 1, 0), 99);
            Bounds.row(x, 0, 0, 99, 0);
            Bounds.KIT.given("99 below t: 100 alone", x, x.split(0, 1, 0, 1), 1);
            Bounds.KIT.given("99 from t on: 1 to 99", x, x.split(0, 1, 1, 0), 99);
            Bounds.row(x, 0, 0, 50, 0, 50, 1);
            Bounds.KIT.given("none fits both", x, x.split(0, 2, 0, 1), 0);
            Bounds.row(x, 0, 0, 50, 0, 51, 1);
            Bounds.KIT.given("51 alone", x, x.split(0, 2, 0, 1), 1);
            Bounds.KIT.refused("two alike", x, x.split(0, 0, 1, 1), 1);
        });
        says(3, "the WEIGHT (1 to 99) to send that leaves the fewest t at worst, of several the first (none, if there are not two)", () -> {
            OddCancel x = Bounds.of(Bounds.TWO);
            Bounds.row(x, 0, 0, 2, 1);
            Bounds.KIT.given("1 and 2: the first weight", x, x.splitNext(0, 1, 0, 1), 1);
            Bounds.row(x, 0, 0, 98, 0);
            Bounds.KIT.given("99 and 100: the last weight", x, x.splitNext(0, 1, 0, 1), 99);
            Bounds.KIT.given("all: 50 or 50", x, x.splitNext(0, 0, 0, 1), 50);
            Bounds.row(x, 0, 0, 10, 0, 13, 1);
            Bounds.KIT.given("11 to 13: 1 or 2, the first of 11 and 12", x, x.splitNext(0, 2, 0, 1), 11);
            Bounds.row(x, 0, 0, 10, 0, 11, 1);
            Bounds.KIT.refused("one alone", x, x.splitNext(0, 2, 0, 1), 6);
            Bounds.row(x, 0, 0, 10, 0, 10, 1);
            Bounds.KIT.refused("none", x, x.splitNext(0, 2, 0, 1), 6);
        });
        says(3, "GAME of n turns (1 to 3)", () -> {
            OddCancel x = Bounds.of(Bounds.TWO + "letter p q weight 5;letter p q weight 20;letter p q weight 6;letter p q weight 30;");
            Bounds.KIT.refused("no turns", x, x.game(0), 1);
            Bounds.KIT.given("7", x, x.game(1), 7);
            Bounds.KIT.given("7 less 7", x, x.game(2), 0);
            Bounds.KIT.given("and 2 more: the second leaves no 7", x, x.game(3), 2);
            Bounds.KIT.refused("four turns", x, x.game(4), 1);
            x.take(0);
            x.post(0, 1, 40, 0);
            Bounds.KIT.given("three of 7: and 7 more", x, x.game(3), 7);
        });
        says(3, "by best play (PLAIN is 0; without LETTERS it is over)", () -> {
            OddCancel x = Bounds.of(Bounds.PAIR + "law s under 10;letter p q weight 10;");
            Bounds.KIT.given("plain", x, x.game(3), 0);
            x.post(0, 1, 9, 0);
            Bounds.KIT.given("2 less 0, then it is over", x, x.game(3), 2);
            x.take(0);
            Bounds.KIT.given("2, then it is over", x, x.game(2), 2);
            x.take(0);
            Bounds.KIT.given("over at once", x, x.game(1), 0);
        });
    }

    private static OddCancel lived(String weeks) {
        OddCancel x = Bounds.living(Bounds.TWO, weeks);
        x.live(1);
        return x;
    }

    private static void steps() {
        says(4, "day: so many (1 to 20)", () -> {
            Bounds.KIT.due("day 1", lived("day 1;").told(7), 1);
            Bounds.KIT.due("day 20", lived("day 20;").told(7), 20);
            Bounds.weeksFault(4, "day |0;");
            Bounds.weeksFault(4, "day |21;");
        });
        says(4, "post: WEIGHT (1 to 99), in the first one's HAND", () -> {
            Bounds.KIT.due("weight 1", lived("post p q 1;").letter(0, 2), 1);
            Bounds.KIT.due("weight 99", lived("post p q 99;").letter(0, 2), 99);
            Bounds.weeksFault(4, "post ann bob |0;");
            Bounds.weeksFault(4, "post ann bob |100;");
            OddCancel x = Bounds.living(Bounds.PEOPLE, "post bob ann 5;");
            x.live(0);
            Bounds.KIT.given("bob's hand", x, x.letter(0, 3), 1);
        });
        says(4, "any: he is DRUNK, if a draw by 16 is below ODDS, else sober", () -> {
            // by seed 0 the first draw is 15
            for (int odds : new int[] {0, 15, 16}) {
                OddCancel x = Bounds.living(Bounds.TWO, "any;");
                x.pub(odds);
                x.drink(true);
                x.live(0);
                Bounds.KIT.given("15 below " + odds, x, x.told(8), odds == 16 ? 1 : 0);
                Bounds.KIT.given("any misses nothing", x, x.lived(0), 0);
            }
            OddCancel y = Bounds.living(Bounds.TWO, "any;day 3;any;day 4;");
            Bounds.KIT.given("four steps", y, y.live(0), 4);
            Bounds.KIT.given("seven days", y, y.told(7), 7);
        });
        says(4, "when struck: one of the DAY's COVERS has that STRIKE", () -> {
            Bounds.KIT.due("no covers", lived("when struck s;drink;end;").told(8), 0);
            Bounds.KIT.due("one", lived("post p q 5;post p q 50;day 1;when struck t;drink;end;").told(8), 1);
            Bounds.KIT.due("of the day ahead", lived("post p q 5;day 2;when struck s;drink;end;").told(8), 0);
            Bounds.KIT.due("the only one", lived("post p q 5;day 1;when struck s;drink;end;").told(8), 1);
            Bounds.KIT.due("another one", lived("post p q 5;day 1;when struck t;drink;end;").told(8), 0);
        });
        says(4, "waits: so many LETTERS WAIT (0 to 99)", () -> {
            String[] held = {"= 0", "< 1", "< 99", "> 0", "= 12", "> 11", "< 13"};
            int[] posted = {0, 0, 12, 1, 12, 12, 12};
            for (int k = 0; k < held.length; k++) {
                Bounds.KIT.due("waits " + held[k], lived("loop 1;" + "post p q 1;".repeat(posted[k]) + "end;when waits " + held[k] + ";drink;end;").told(8), 1);
            }
            String[] not = {"= 1", "< 0", "> 0", "> 12", "= 99", "> 99"};
            int[] few = {0, 0, 0, 12, 12, 12};
            for (int k = 0; k < not.length; k++) {
                Bounds.KIT.due("waits " + not[k], lived("post p q 1;".repeat(few[k]) + "when waits " + not[k] + ";drink;end;").told(8), 0);
            }
            Bounds.weeksFault(4, "when waits < |100;end;");
        });
        says(4, "loop n (1 to 99): as often", () -> {
            Bounds.KIT.due("once", lived("loop 1;day 1;end;").told(7), 1);
            Bounds.KIT.due("99 times", lived("loop 99;day 1;end;").told(7), 99);
            Bounds.KIT.due("twice two times", lived("loop 2;loop 2;day 1;end;day 20;end;").told(7), 44);
            Bounds.weeksFault(4, "loop |0;end;");
            Bounds.weeksFault(4, "loop |100;end;");
        });
    }

    private static void misses() {
        says(4, "What can't be is MISSED: DAYS beyond 9,999 (as a whole)", () -> {
            OddCancel x = Bounds.living(Bounds.TWO, "day 2;day 1;day 1;");
            for (int k = 0; k < 100; k++) {
                x.day(99);
            }
            x.day(98);
            Bounds.KIT.given("9,998", x, x.told(7), 9998);
            Bounds.KIT.given("three steps", x, x.live(0), 3);
            Bounds.KIT.due("two missed, one day", x.lived(0) * 10 + x.lived(1), 21);
            Bounds.KIT.given("9,999", x, x.told(7), 9999);
        });
        says(4, "a 13th LETTER", () -> {
            OddCancel x = lived("loop 12;post p q 5;end;");
            Bounds.KIT.due("twelve", x.lived(3) * 10 + x.lived(0), 120);
            x = lived("loop 13;post p q 5;end;");
            Bounds.KIT.due("a 13th", x.lived(3) * 10 + x.lived(0), 121);
            Bounds.KIT.due("twelve wait", x.told(4), 12);
        });
        says(4, "a drink of who is DRUNK, a sober of who is", () -> {
            OddCancel x = lived("sober;");
            Bounds.KIT.due("sober of sober", x.lived(0) * 10 + x.told(8), 10);
            x = lived("drink;");
            Bounds.KIT.due("drink of sober", x.lived(0) * 10 + x.told(8), 1);
            x = lived("drink;drink;");
            Bounds.KIT.due("drink of drunk", x.lived(0) * 10 + x.told(8), 11);
            x = lived("drink;sober;");
            Bounds.KIT.due("sober of drunk", x.lived(0) * 10 + x.told(8), 0);
        });
        says(4, "At most 300 STEPS (when, loop count as one each time they are come to from ahead; end does not).", () -> {
            String[] weeks = {"loop 99;any;any;any;end;any;any;", "loop 99;any;any;any;end;any;any;any;", "loop 99;any;any;any;end;any;any;stop;",
                "loop 99;any;any;any;end;any;stop;any;", "loop 99;any;any;any;end;any;when waits > 0;any;end;", "loop 99;any;any;any;end;any;when waits = 0;any;end;",
                "loop 99;any;any;any;end;any;loop 9;end;", "loop 3;loop 99;any;end;end;", "loop 99;when waits = 0;any;any;end;end;", "loop 99;loop 99;loop 99;end;end;end;",
                "loop 99;end;loop 2;loop 3;end;end;day 1;", "loop 99;when drunk;any;any;any;end;end;"};
            int[] done = {300, 300, 300, 300, 300, 300, 300, 300, 298, 300, 5, 100};
            int[] left = {0, 1, 1, 0, 0, 1, 0, 1, 0, 1, 0, 0};
            for (int k = 0; k < weeks.length; k++) {
                OddCancel x = Bounds.living(Bounds.TWO, weeks[k]);
                Bounds.KIT.given(weeks[k], x, x.live(1), done[k]);
                Bounds.KIT.given(weeks[k] + " left", x, x.lived(4), left[k]);
                Kit.weeks(x, "any;");
                Bounds.KIT.given("a new beginning", x, x.live(1), 1);
                Bounds.KIT.given("none is left of it", x, x.lived(4), 0);
            }
        });
    }

    private static void limits() {
        says(4, "LIVED by a seed (0 to 9,999): all is as it is then.", () -> {
            OddCancel x = Bounds.living(Bounds.TWO, "day 2;post p q 5;drink;");
            Bounds.KIT.refused("seed -1", x, x.live(-1), 1);
            Bounds.KIT.refused("seed 10000", x, x.live(10000), 1);
            Bounds.KIT.given("seed 0", x, x.live(0), 3);
            Bounds.KIT.given("day 2 as it is then", x, x.told(7), 2);
            Bounds.KIT.due("as it is then", x.told(7) * 100 + x.told(4) * 10 + x.told(8), 211);
            Bounds.KIT.given("seed 9999", x, x.live(9999), 3);
            Bounds.KIT.due("and from there on", x.told(7) * 1000 + x.told(4) * 100 + x.told(9) * 10 + x.lived(0), 4111);
        });
        says(4, "Draws: s, at first the seed, becomes what is left of s times 3,041 and 11,261 by 65,536; the draw by n is the rest of s by 8, rounded down, by n.", () -> {
            // seed 9999: 9999 * 3041 + 11261 = 30418220, by 65536 is left 9516; 9516 / 8 = 1189, by 16 is left 5
            // then 9516 * 3041 + 11261 = 28949417, left 48041; 48041 / 8 = 6005, left 5; then 48041 * 3041 + 11261 = 146103942, left 24198; 3024, left 0
            int[] odds = {5, 6};
            for (int k = 0; k < 2; k++) {
                OddCancel x = Bounds.living(Bounds.TWO, "any;");
                x.pub(odds[k]);
                x.live(9999);
                Bounds.KIT.given("5 below " + odds[k], x, x.told(8), k);
                OddCancel y = Bounds.living(Bounds.TWO, "any;any;");
                y.pub(odds[k]);
                y.live(9999);
                Bounds.KIT.given("5 again below " + odds[k], y, y.told(8), k);
                OddCancel z = Bounds.living(Bounds.TWO, "any;any;any;");
                z.pub(k);
                z.live(9999);
                Bounds.KIT.given("0 below " + k, z, z.told(8), k);
            }
        });
        says(4, "MARKS, at most 3", () -> {
            OddCancel x = new OddCancel();
            for (int k = 1; k <= 3; k++) {
                Bounds.KIT.given("mark " + k, x, x.mark(), k);
            }
            Bounds.KIT.refused("a fourth", x, x.mark(), 4);
            Bounds.KIT.given("two are left", x, x.undo(), 2);
            Bounds.KIT.given("a third again", x, x.mark(), 3);
        });
        says(4, "the VALLEY with all that became of it, the WEEKS are kept as they are; all is taken back to the latest MARK, which is gone then.", () -> {
            OddCancel x = Bounds.living(Bounds.TWO, "day 1;");
            x.mark();
            x.day(5);
            x.drink(true);
            x.mark();
            x.valley(0);
            Bounds.KIT.given("one is left", x, x.undo(), 1);
            Bounds.KIT.due("the latest, drunk", x.told(7) * 100 + x.told(3) * 10 + x.told(8), 521);
            Bounds.KIT.given("none is left", x, x.undo(), 0);
            Bounds.KIT.due("the first, sober", x.told(7) * 100 + x.told(3) * 10 + x.told(8), 20);
            Bounds.KIT.given("its weeks", x, x.live(0), 1);
            Bounds.KIT.refused("none", x, x.undo(), 6);
            Bounds.KIT.given("nothing is taken back", x, x.told(7), 1);
            coversAreTakenBack();
        });
        says(4, "FRACTIONS are told by top() and bottom() without a common divisor, the bottom above 0; 0 is 0 by 1.", () -> {
            OddCancel x = Bounds.of(Bounds.TWO + "odds 12;");
            x.sure(0, 1, 5, 0, 1);
            Bounds.fraction("12 by 16", x, 3, 4);
            x.pub(16);
            x.sure(0, 1, 5, 0, 1);
            Bounds.fraction("16 by 16", x, 1, 1);
            x.sure(0, 1, 5, 0, 0);
            Bounds.fraction("0 by 16", x, 0, 1);
            Kit.weeks(x, "day 1;");
            x.mean(0, 20);
            Bounds.fraction("0 by 20", x, 0, 1);
            x.post(0, 1, 5, 0);
            x.mean(0, 20);
            Bounds.fraction("40 by 20", x, 2, 1);
        });
    }

    private static void statuses() {
        says(5, "STATUS of a call is the first of these that holds:", BoundsOfTerms::firstThatHolds);
        says(5, "1 a number that can't be; no such TRAY, STRIKE, HAND, PERSON, LAW, LETTER, COVER.", () -> {
            Bounds.no(1, "a number", x -> x.told(12));
            Bounds.no(1, "tray", x -> x.read(4, 0));
            Bounds.no(1, "strike", x -> x.worth(3));
            Bounds.no(1, "hand", x -> x.could(0, 1, 2));
            Bounds.no(1, "person", x -> x.hand(3));
            Bounds.no(1, "law", x -> x.law(4, 0));
            Bounds.no(1, "letter", x -> x.letter(12, 0));
            Bounds.no(1, "cover", x -> x.cover(12, 0));
        });
        says(5, "2 the TRAY is MISSING.", () -> Bounds.no(2, "missing", x -> x.read(2, 0)));
        says(5, "3 a place that the TRAY has not, or too few numbers.", () -> {
            Bounds.no(3, "behind the last place", x -> x.read(0, 3));
            Bounds.no(3, "ahead of the first", x -> x.read(0, -1));
            Bounds.no(3, "too few", x -> x.reads(0, 4));
        });
        says(5, "4 one too many.", () -> Bounds.no(4, "a 13th", BoundsOfTerms::ofTwelve, x -> x.post(0, 1, 5, 0)));
        says(5, "5 a number in a TRAY that can't be.", () -> Bounds.no(5, "50 is no strike", x -> x.reads(1, 1)));
        says(5, "6 there is none such.", () -> Bounds.no(6, "he acts not", x -> x.acts(0, 0, 0)));
        says(5, "7 it can't be.", () -> Bounds.no(7, "he did not", x -> Watch.yes(x.forget(0, 0))));
        says(5, "8 TRAYS are of unlike sorts.", () -> Bounds.no(8, "unlike", x -> Watch.yes(x.pour(0, 0, 1, 0, 1))));
        says(5, "9 a FAULT.", () -> Watch.faulty(Bounds.KIT, "a fault", Bounds::full, x -> x.valley(8)));
        says(5, "0 else.", BoundsOfTerms::fineCalls);
        says(5, "With another STATUS than 0 a call gives NONE, or false, and changes nothing else (but valley(), weeks() with 9 the tape, and what fault() tells).", () -> {
            Watch.faulty(Bounds.KIT, "a valley's fault", Bounds::full, x -> x.valley(8));
            Watch.faulty(Bounds.KIT, "a week's fault", Bounds::full, x -> x.weeks(9));
            OddCancel x = Bounds.full();
            x.valley(8);
            Bounds.KIT.due("the tape is empty", x.feed(0, 0, 0, 0, 0), 20);
            Bounds.KIT.due("the fault", x.fault(0) * 10 + x.fault(1), 28);
            x.weeks(1);
            Bounds.KIT.due("the tape is empty again", x.feed(0, 0, 0, 0, 0), 20);
            Bounds.KIT.due("the fault of weeks", x.fault(0) * 10 + x.fault(1), 10);
        });
        says(5, "status(), top(), bottom(), feed(), fault() have none.", () -> {
            OddCancel x = new OddCancel();
            x.undo();
            x.status();
            x.top();
            x.bottom();
            x.feed(1, 2, 3, 4, 5);
            x.fault(0);
            x.fault(7);
            Bounds.KIT.due("6 still", x.status(), 6);
            for (int k = 0; k < 46; k++) {
                x.feed(1, 2, 3, 4, 5);
            }
            Bounds.KIT.due("6 still behind a feed too many", x.status(), 6);
        });
        says(5, "(LETTERS asked by PERSONS: one to itself is a number that can't be.)", () -> {
            for (int person = 0; person < 3; person++) {
                int p = person;
                Bounds.no(1, "post", x -> x.post(p, p, 5, 0));
                Bounds.no(1, "lawOf", x -> x.lawOf(p, p, 5, 0));
                Bounds.no(1, "strikeOf", x -> x.strikeOf(p, p, 5, 0));
                Bounds.no(1, "struckNow", x -> x.struckNow(p, p, 5, 0));
                Bounds.no(1, "lawsOf", x -> x.lawsOf(p, p, 5, 0));
                Bounds.no(1, "sure", x -> Watch.yes(x.sure(p, p, 5, 0, 0)));
                Bounds.no(1, "wrap", x -> x.wrap(p, p, 5, 0, 0));
                Bounds.no(1, "weights", x -> x.weights(p, p, 0, 0));
                Bounds.no(1, "weightAt", x -> x.weightAt(p, p, 0, 0, 0));
                Bounds.no(1, "could", x -> x.could(p, p, 0));
                Bounds.no(1, "via", x -> x.via(p, p, 5, 0));
                Bounds.no(1, "viaFirst", x -> x.viaFirst(p, p, 5, 0));
                Bounds.no(1, "teach", x -> Watch.yes(x.teach(p, 0, p, 5)));
            }
        });
        says(5, "The constants: `NONE = -1`: None.", () -> Bounds.KIT.due("NONE", OddCancel.NONE, -1));
    }

    private static void coversAreTakenBack() {
        OddCancel x = Bounds.of(Bounds.PEOPLE + "law ok under 10 by rnd;law nie by rnd;law dud under 50;letter ann bob weight 5;letter bob cy weight 20;letter cy ann weight 60;");
        x.day(1);
        x.mark();
        x.post(2, 1, 99, 1);
        x.post(0, 1, 11, 1);
        x.post(1, 0, 3, 0);
        x.day(1);
        x.undo();
        int[][] due = {{2, 0, 60, 0, 2}, {0, 1, 5, 0, 0}, {1, 2, 20, 1, 1}};
        for (int k = 0; k < 3; k++) {
            for (int what = 0; what < 5; what++) {
                Bounds.KIT.given("cover " + k + " " + what + " is back", x, x.cover(k, what), due[k][what]);
            }
        }
        Bounds.KIT.due("counts are back", x.told(9) * 1000 + x.told(10) * 100 + x.told(11), 3009);
    }

    /** Every call that has a STATUS, once as it can be, behind one that was refused. */
    private static void fineCalls() {
        Watch.Call[] calls = {x -> Watch.yes(x.tray(2, 0, 1)), x -> Watch.yes(x.write(0, 0, 5)), x -> x.read(0, 0), x -> Watch.yes(x.pour(0, 0, 0, 1, 1)),
            x -> x.valley(9), x -> x.weeks(0), x -> x.told(0), x -> x.worth(0), x -> x.hand(0), x -> x.law(0, 0), x -> x.acts(1, 0, 0), x -> x.letter(0, 0),
            x -> x.cover(0, 0), x -> x.strikes(0), x -> x.post(0, 1, 5, 0), x -> x.day(1), x -> Watch.yes(x.drink(false)), x -> x.take(0), x -> x.wrapped(0, 1),
            x -> Watch.yes(x.learn(0, 1)), x -> Watch.yes(x.teach(0, 0, 1, 5)), x -> Watch.yes(x.forget(1, 0)), x -> Watch.yes(x.sway(0)), x -> Watch.yes(x.pub(5)),
            x -> x.lawOf(0, 1, 4, 0), x -> x.strikeOf(0, 1, 4, 0), x -> x.struckNow(0, 1, 4, 0), x -> x.lawsOf(0, 1, 4, 0), x -> Watch.yes(x.sure(0, 1, 4, 0, 0)),
            x -> x.wrap(0, 1, 4, 0, 0), x -> x.weights(0, 1, 0, 0), x -> x.weightAt(0, 1, 0, 0, 0), x -> x.could(0, 1, 0), x -> x.idle(), x -> x.via(0, 1, 4, 0),
            x -> x.viaFirst(0, 1, 4, 0), x -> x.echo(0, 0), x -> ringed(x).round(0, 0), x -> x.rings(), x -> x.longest(), x -> x.reads(0, 3), x -> x.isJust(0, 3),
            x -> x.copyDay(0), x -> x.spells(0, 3), x -> x.spellAt(0, 3, 0, 0), x -> x.split(1, 2, 0, 1), x -> x.splitNext(1, 2, 0, 1), x -> x.lawsUsed(),
            x -> x.game(1), x -> x.gameFirst(1), x -> x.brother(0), x -> x.live(0), x -> x.lived(0), x -> Watch.yes(x.mean(0, 1)), x -> x.mark(), x -> x.undo()};
        Bounds.KIT.due("calls that have a STATUS", calls.length, 56);
        for (int k = 0; k < calls.length; k++) {
            OddCancel x = Bounds.full();
            x.told(12);
            calls[k].on(x);
            Bounds.KIT.due("status of fine call " + k, x.status(), 0);
        }
    }

    private static OddCancel ringed(OddCancel x) {
        x.teach(0, 0, 1, 4);
        x.teach(1, 0, 0, 4);
        x.told(12);
        return x;
    }

    private static OddCancel ofTwelve() {
        return Bounds.of(Bounds.TWO + "letter p q weight 5;".repeat(12));
    }

    /** Calls for which two of them hold. */
    private static void firstThatHolds() {
        Bounds.no(1, "no n, a missing tray", x -> x.reads(2, 13));
        Bounds.no(1, "no n, too few", x -> x.reads(0, 0));
        Bounds.no(1, "no n, no strike", x -> x.spells(1, 13));
        Bounds.no(1, "no such tray, no place", x -> x.read(4, -1));
        Bounds.no(1, "no k, a missing tray", x -> x.spellAt(2, 3, 3, 0));
        Bounds.no(1, "no what, too few", x -> x.spellAt(0, 4, 0, 3));
        Bounds.no(1, "no strike, a missing tray", x -> x.split(2, 1, 0, 3));
        Bounds.no(1, "no n, no such number in it", x -> x.splitNext(0, 31, 0, 1));
        Bounds.no(1, "no such tray, unlike sorts", x -> Watch.yes(x.pour(0, 0, 4, 0, 1)));
        Bounds.no(2, "missing, no place", x -> x.read(2, 99));
        Bounds.no(2, "missing, too few", x -> x.isJust(2, 12));
        Bounds.no(2, "missing, unlike", x -> Watch.yes(x.pour(0, 0, 2, 0, 99)));
        Bounds.no(3, "too few, no strike", x -> x.reads(1, 5));
        Bounds.no(3, "too few, neither", x -> x.split(1, 3, 1, 2));
        Bounds.no(5, "neither, not two", x -> x.splitNext(1, 2, 1, 2));
        Bounds.no(8, "unlike, too few", x -> Watch.yes(x.pour(0, 9, 1, 9, 9)));
        Bounds.no(1, "no letter, a 13th", BoundsOfTerms::ofTwelve, x -> x.post(0, 0, 5, 0));
        Bounds.no(1, "no more, above 99", x -> x.wrapped(0, 99));
        Bounds.no(1, "no seed, no weeks", Bounds::base, x -> x.live(10000));
        Bounds.no(1, "no what, none was lived", Bounds::base, x -> x.lived(5));
        Bounds.no(1, "no seed, no weeks", Bounds::base, x -> Watch.yes(x.mean(0, 0)));
        Bounds.no(1, "no turns, none waits", OddCancel::new, x -> x.gameFirst(0));
        Bounds.no(1, "no law, not told", x -> x.law(4, 5));
        Bounds.no(1, "no what, not told", x -> x.law(1, 6));
        Bounds.no(1, "no what, nothing", x -> x.acts(0, 0, 2));
        Bounds.no(1, "no what, none", x -> x.weightAt(0, 1, 1, 2, 2));
        Bounds.no(1, "no couple, he did not", x -> Watch.yes(x.forget(0, 3)));
        Bounds.no(1, "no days, above 9,999", BoundsOfTerms::atTheLastDay, x -> x.day(100));
        Bounds.no(1, "more than the tape has, a fault", x -> x.valley(21));
        Bounds.no(1, "more than the tape has, a fault", x -> x.weeks(21));
    }

    private static OddCancel atTheLastDay() {
        OddCancel x = new OddCancel();
        for (int k = 0; k < 101; k++) {
            x.day(99);
        }
        return x;
    }
}
