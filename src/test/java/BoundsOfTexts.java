/** Boundaries that part 1 of the terms names, and of part 4 those of the text of WEEKS. */
final class BoundsOfTexts {
    private static final String WORDS = "strike, worth, hand, person, law, under, over, by, from, to, acts, on, weight, letter, odds, "
        + "day, post, drink, sober, any, when, struck, waits, drunk, loop, end, stop";

    private BoundsOfTexts() {
    }

    private static void says(String quote, Runnable test) {
        Bounds.DOC.says("T1", quote, test);
    }

    private static void weeksSay(String quote, Runnable test) {
        Bounds.DOC.says("T4", quote, test);
    }

    static void run() {
        trays();
        tokens();
        parts();
        names();
        things();
        lawsAndActs();
        letters();
        faults();
        weeks();
        weeksFaults();
    }

    private static void trays() {
        says("TRAYS 0 to 3 are MISSING at first", () -> {
            OddCancel x = new OddCancel();
            for (int tray = 0; tray <= 3; tray++) {
                Bounds.KIT.refused("tray " + tray + " is missing", x, x.read(tray, 0), 2);
            }
            Bounds.KIT.refused("no tray -1", x, x.read(-1, 0), 1);
            Bounds.KIT.refused("no tray 4", x, x.read(4, 0), 1);
        });
        says("rows of 0 to 60 numbers", () -> {
            OddCancel x = new OddCancel();
            Bounds.KIT.refused("-1 numbers", x, x.tray(0, 0, -1), 1);
            Bounds.KIT.given("0 numbers", x, x.tray(0, 0, 0));
            Bounds.KIT.refused("it has no place 0", x, x.read(0, 0), 3);
            Bounds.KIT.given("60 numbers", x, x.tray(0, 0, 60));
            Bounds.KIT.given("the last one", x, x.read(0, 59), 0);
            Bounds.KIT.refused("none behind it", x, x.read(0, 60), 3);
            Bounds.KIT.refused("61 numbers", x, x.tray(0, 0, 61), 1);
        });
        says("numbers of 8 bits (sort 0), 16 (1), 32 (2) or 64 (3).", () -> {
            long[] most = {127, 32767, Integer.MAX_VALUE, Long.MAX_VALUE};
            for (int sort = 0; sort <= 3; sort++) {
                long least = -most[sort] - 1;
                Bounds.KIT.due("most of sort " + sort, cut(sort, most[sort]), most[sort]);
                Bounds.KIT.due("beyond the most", cut(sort, most[sort] + 1), least);
                Bounds.KIT.due("least of sort " + sort, cut(sort, least), least);
                Bounds.KIT.due("beyond the least", cut(sort, least - 1), most[sort]);
            }
            OddCancel x = new OddCancel();
            Bounds.KIT.refused("sort -1", x, x.tray(0, -1, 1), 1);
            Bounds.KIT.refused("sort 4", x, x.tray(0, 4, 1), 1);
        });
    }

    private static long cut(int sort, long v) {
        OddCancel x = new OddCancel();
        x.tray(3, sort, 1);
        x.write(3, 0, v);
        return x.read(3, 0);
    }

    private static void tokens() {
        says("A VALLEY is a TEXT of at most 900 bytes.", () -> {
            String text = "strike s;" + " ".repeat(885) + "law s;";
            Bounds.KIT.due("length", text.length(), 900);
            Bounds.fine(text, 1);
            OddCancel x = new OddCancel();
            Kit.feed(x, text);
            Bounds.KIT.refused("901", x, x.valley(901), 1);
            Bounds.KIT.refused("899: the last part is cut", x, x.valley(899), 9);
            Bounds.KIT.due("at its end", x.fault(1), 899);
        });
        says("TOKENS, as long as they go", () -> {
            Bounds.fault(2, "|strikea;");
            Bounds.fault(4, "strike a worth |12;");
            Bounds.fault(2, "strike a worth 1 |2;");
            Bounds.fine("strike a;law a;law a under 1over 2;law a;", 3);
            Bounds.fine("strike ab;law ab;", 1);
            Bounds.fault(3, "strike ab;law |a b;");
        });
        says("between them blanks (10, 32)", () -> {
            for (int b = 0; b < 256; b++) {
                char c = (char) b;
                if (b == 10 || b == 32) {
                    Bounds.fine("strike" + c + "a" + c + c + ";" + c, 0);
                } else if (c >= 'a' && c <= 'z') {
                    Bounds.fault(2, "|strike" + c + "a;");
                } else if (c >= '0' && c <= '9' || ";<>=".indexOf(c) >= 0) {
                    Bounds.fault(2, "strike|" + c + "a;");
                } else if (c != '|') {
                    Bounds.fault(1, "strike|" + c + "a;");
                }
            }
            OddCancel x = new OddCancel();
            Bounds.KIT.refused("a bar", x, Kit.valley(x, "strike|a;"), 9);
            Bounds.KIT.due("a bar is no blank", x.fault(0) * 100 + x.fault(1), 106);
            Bounds.fine("strike a;law a;strike b;law b;", 2);
        });
        says("WORDS (small letters)", () -> {
            Bounds.fine("strike a;strike z;law a;law z;", 2);
            Bounds.fault(1, "strike |`;");
            Bounds.fault(1, "strike |{;");
            Bounds.fault(1, "strike |A;");
            Bounds.fault(1, "strike |Z;");
            Bounds.fault(1, "strike a|A;");
            Bounds.fault(2, "strike a|5;");
        });
        says("NUMBERS (1 to 4 digits)", () -> {
            for (String number : new String[] {"9", "09", "009", "0009"}) {
                Bounds.KIT.given("worth " + number, Bounds.of("strike a worth " + number + ";"), Bounds.of("strike a worth " + number + ";").worth(0), 9);
            }
            Bounds.fault(1, "strike a worth |00009;");
            Bounds.fault(4, "strike a worth |9999;");
            Bounds.fault(1, "strike a worth |10000;");
            Bounds.fault(1, "strike a worth |/;");
            Bounds.fault(1, "strike a worth |:;");
            Bounds.fine("strike a worth 0;strike b worth 9;", 0);
        });
        says("SIGNS ; < > =", () -> {
            for (char sign : new char[] {';', '<', '>', '='}) {
                Bounds.fault(2, "|" + sign);
            }
            for (char none : new char[] {':', '?', '@', '!', ',', '-', '+'}) {
                Bounds.fault(1, "|" + none);
            }
            Bounds.fault(2, "strike a;|;");
        });
    }

    private static void parts() {
        says("VALLEY: {PART}.", () -> {
            Bounds.fine("", 0);
            Bounds.fine(" \n \n", 0);
            OddCancel x = Bounds.of("");
            for (int what = 0; what < 12; what++) {
                Bounds.KIT.given("told " + what + " of nothing", x, x.told(what), what == 6 ? 4 : 0);
            }
        });
        says("strike NAME [worth NUMBER] ; or hand NAME ; or person NAME hand NAME ;", () -> {
            Bounds.fine("strike a;strike b worth 3;hand h;person p hand h;", 0);
            Bounds.fault(2, "strike a worth|");
            Bounds.fault(2, "strike a worth |;");
            Bounds.fault(2, "strike a |3;");
            Bounds.fault(2, "hand |;");
            Bounds.fault(2, "hand h|");
            Bounds.fault(2, "hand h;person p|");
            Bounds.fault(2, "hand h;person p |;");
            Bounds.fault(2, "hand h;person p hand|");
        });
        says("law NAME [under NUMBER] [over NUMBER] [by NAME] [from NAME] [to NAME] ;", BoundsOfTexts::lawsOfAllKinds);
        says("acts NAME on NAME to NAME weight NUMBER ; or letter NAME NAME weight NUMBER [by NAME] ; or odds NUMBER ;", () -> {
            String whole = Bounds.PEOPLE + "acts ann on ok to bob weight 5;letter ann bob weight 5 by shp;odds 3;";
            Bounds.fine(whole, 0);
            String[] tokens = {"acts ann on ok to bob weight 5;", "letter ann bob weight 5 by shp;", "letter ann bob weight 5;", "odds 3;"};
            for (String part : tokens) {
                for (int k = 0; k < part.length(); k++) {
                    if (part.charAt(k) == ' ') {
                        Bounds.fault(2, Bounds.PEOPLE + part.substring(0, k) + "|");
                        Bounds.fault(2, Bounds.PEOPLE + part.substring(0, k) + " |<" + part.substring(k));
                    }
                }
                Bounds.fault(2, Bounds.PEOPLE + part.substring(0, part.length() - 1) + "|");
            }
        });
        says("({ } any number of times, [ ] perhaps.)", () -> {
            Bounds.fine("odds 1;", 0);
            Bounds.fine("strike s;" + "law s;".repeat(8), 8);
            OddCancel x = Bounds.of(Bounds.PEOPLE + "acts ann on ok to bob weight 5;".repeat(24));
            Bounds.KIT.given("acts 24 times", x, x.acts(0, 0, 1), 5);
        });
    }

    private static void lawsOfAllKinds() {
        String[] words = {" under 7", " over 3", " by shp", " from bob", " to cy"};
        int[] due = {7, 3, 1, 1, 2};
        for (int set = 0; set < 32; set++) {
            StringBuilder law = new StringBuilder("law dud");
            for (int k = 0; k < 5; k++) {
                law.append((set >> k & 1) == 1 ? words[k] : "");
            }
            OddCancel x = Bounds.of(Bounds.PEOPLE + law + ";");
            Bounds.KIT.given(law.toString(), x, x.law(0, 0), 1);
            for (int k = 0; k < 5; k++) {
                boolean is = (set >> k & 1) == 1;
                Bounds.KIT.due(law + " " + (k + 1), x.law(0, k + 1), is ? due[k] : Bounds.NONE);
                Bounds.KIT.due("status", x.status(), is ? 0 : 6);
            }
        }
        for (int k = 1; k < 5; k++) {
            Bounds.fault(2, Bounds.PEOPLE + "law dud" + words[k] + " |" + words[k - 1].trim() + ";");
        }
        for (String word : words) {
            Bounds.fault(2, Bounds.PEOPLE + "law dud" + word + " |" + word.trim() + ";");
            Bounds.fault(2, Bounds.PEOPLE + "law dud" + word.substring(0, word.lastIndexOf(' ')) + "|");
        }
    }

    private static void names() {
        says("NAME: a WORD of 1 to 8 letters", () -> {
            Bounds.fault(2, "strike |;");
            Bounds.fine("strike a;law a;", 1);
            Bounds.fine("strike abcdefgh;law abcdefgh;", 1);
            Bounds.fine("strike zzzzzzzz;strike zzzzzzzy;law zzzzzzzz;", 1);
            Bounds.fault(2, "strike |abcdefghi;");
            Bounds.fault(3, "strike abcdefgh;law |bcdefgh;");
            Bounds.fault(2, "strike abcdefgh;law |abcdefghi;");
        });
        says("that is none of " + WORDS + ".", () -> {
            for (String word : WORDS.split(", ")) {
                Bounds.fault(2, "strike |" + word + ";");
                Bounds.fault(2, "hand |" + word + ";");
                Bounds.fault(2, "hand h;person |" + word + " hand h;");
                Bounds.fine("strike " + word + "x;", 0);
                Bounds.fine("strike " + word.substring(0, word.length() - 1) + ";", 0);
            }
        });
        says("One NAME is of one thing alone.", () -> {
            String[] begins = {"strike ", "hand ", "person "};
            String[] ends = {";", ";", " hand zz;"};
            for (int one = 0; one < 3; one++) {
                for (int other = 0; other < 3; other++) {
                    String first = "hand zz;" + begins[one] + "n" + ends[one];
                    Bounds.fault(3, first + begins[other] + "|n" + ends[other]);
                    Bounds.fine(first + begins[other] + "m" + ends[other], 0);
                }
            }
        });
        says("All are numbered as they stand; what a PART names must be told ahead.", () -> {
            Bounds.fault(3, "law |s;strike s;");
            Bounds.fault(3, "person p hand |h;hand h;");
            Bounds.fault(3, "strike s;law s by |h;hand h;");
            Bounds.fault(3, "strike s;law s from |p;hand h;person p hand h;");
            Bounds.fault(3, "strike s;law s to |p;hand h;person p hand h;");
            OddCancel x = Bounds.of(Bounds.MOST + "law f;law a by j;law c from p to k;");
            Bounds.KIT.due("last and first of each", x.law(0, 0) * 10000 + x.law(1, 3) * 1000 + x.law(1, 0) * 100 + x.law(2, 4) * 10 + x.law(2, 5), 53050);
        });
    }

    private static void things() {
        says("STRIKES, at most 6: WORTH (0 to 9; 1 without).", () -> {
            String six = "strike a worth 0;strike b worth 9;strike c;strike d;strike e;strike f;";
            OddCancel x = Bounds.of(six);
            Bounds.KIT.given("six", x, x.told(0), 6);
            Bounds.KIT.given("worth 0", x, x.worth(0), 0);
            Bounds.KIT.given("worth 9", x, x.worth(1), 9);
            Bounds.KIT.given("worth without", x, x.worth(2), 1);
            Bounds.fault(4, "strike a worth |10;");
            Bounds.fault(6, six + "|strike g;");
        });
        says("HANDS, at most 4.", () -> {
            OddCancel x = Bounds.of("hand a;hand b;hand c;hand d;person p hand d;");
            Bounds.KIT.given("four", x, x.told(1), 4);
            Bounds.KIT.given("the fourth", x, x.hand(0), 3);
            Bounds.fault(6, "hand a;hand b;hand c;hand d;|hand e;");
        });
        says("PERSONS, at most 6, in order along the ROUND: each writes a HAND.", () -> {
            OddCancel x = Bounds.of(Bounds.MOST);
            Bounds.KIT.given("six", x, x.told(2), 6);
            Bounds.KIT.given("the sixth", x, x.hand(5), 1);
            Bounds.fault(6, Bounds.MOST + "|person q hand g;");
        });
        says("ODDS (0 to 16; 4 without).", () -> {
            Bounds.KIT.due("odds 0", Bounds.of("odds 0;").told(6), 0);
            Bounds.KIT.due("odds 16", Bounds.of("odds 16;").told(6), 16);
            Bounds.KIT.due("odds without", Bounds.of("hand h;").told(6), 4);
            Bounds.fault(4, "odds |17;");
        });
    }

    private static void lawsAndActs() {
        says("LAWS, at most 8, in order: a STRIKE", () -> {
            OddCancel x = Bounds.of("strike s;strike t;" + "law s;".repeat(7) + "law t;");
            Bounds.KIT.given("eight", x, x.told(3), 8);
            Bounds.KIT.given("the eighth", x, x.law(7, 0), 1);
            Bounds.fault(6, "strike s;" + "law s;".repeat(8) + "|law s;");
        });
        says("WEIGHT is below UNDER (1 to 99)", () -> {
            Bounds.fault(4, "strike s;law s under |0;");
            Bounds.fault(4, "strike s;law s under |100;");
            OddCancel x = Bounds.of(Bounds.PAIR + "law s under 1;");
            Bounds.KIT.given("under 1: none", x, x.weights(0, 1, 0, 0), 0);
            x = Bounds.of(Bounds.PAIR + "law s under 2;");
            Bounds.KIT.given("1 is below 2", x, x.lawOf(0, 1, 1, 0), 0);
            Bounds.KIT.refused("2 is not", x, x.lawOf(0, 1, 2, 0), 6);
            x = Bounds.of(Bounds.PAIR + "law s under 99;");
            Bounds.KIT.given("98 is below 99", x, x.lawOf(0, 1, 98, 0), 0);
            Bounds.KIT.refused("99 is not", x, x.lawOf(0, 1, 99, 0), 6);
        });
        says("above OVER (0 to 99)", () -> {
            Bounds.fault(4, "strike s;law s over |100;");
            OddCancel x = Bounds.of(Bounds.PAIR + "law s over 0;");
            Bounds.KIT.given("1 is above 0", x, x.lawOf(0, 1, 1, 0), 0);
            Bounds.KIT.given("told, though it asks nothing", x, x.law(0, 2), 0);
            x = Bounds.of(Bounds.PAIR + "law s over 98;");
            Bounds.KIT.refused("98 is not above 98", x, x.lawOf(0, 1, 98, 0), 6);
            Bounds.KIT.given("99 is", x, x.lawOf(0, 1, 99, 0), 0);
            x = Bounds.of(Bounds.PAIR + "law s over 99;");
            Bounds.KIT.given("over 99: none", x, x.weights(0, 1, 0, 0), 0);
        });
        says("written BY that HAND, FROM, TO that PERSON, as far as these are told", () -> {
            OddCancel x = Bounds.of(Bounds.PEOPLE + "law ok;");
            Bounds.KIT.due("a law that tells nothing fits all", x.lawsOf(0, 1, 1, 0) + x.lawsOf(2, 1, 99, 1), 2);
            x = Bounds.of(Bounds.PEOPLE + "law ok by rnd from ann to cy;");
            Bounds.KIT.given("all three", x, x.lawsOf(0, 2, 5, 0), 1);
            Bounds.KIT.given("another hand", x, x.lawsOf(0, 2, 5, 1), 0);
            Bounds.KIT.given("another sender", x, x.lawsOf(1, 2, 5, 0), 0);
            Bounds.KIT.given("another receiver", x, x.lawsOf(0, 1, 5, 0), 0);
        });
        says("posts a LETTER of so much WEIGHT (1 to 99) to a PERSON (another one), in his own HAND (told again for these two: the latest)", () -> {
            String ahead = Bounds.PEOPLE + "acts ann on ok to bob weight ";
            Bounds.fault(4, ahead + "|0;");
            Bounds.fault(4, ahead + "|100;");
            Bounds.KIT.due("1", Bounds.of(ahead + "1;").acts(0, 0, 1), 1);
            Bounds.KIT.due("99", Bounds.of(ahead + "99;").acts(0, 0, 1), 99);
            Bounds.fault(5, Bounds.PEOPLE + "acts ann on ok to |ann weight 5;");
            OddCancel x = Bounds.of(ahead + "5;acts ann on ok to cy weight 6;acts ann on dud to bob weight 7;acts bob on ok to cy weight 8;");
            Bounds.KIT.due("the latest of these two", x.acts(0, 0, 0) * 10 + x.acts(0, 0, 1), 26);
            Bounds.KIT.due("of others their own", x.acts(0, 1, 1) * 10 + x.acts(1, 0, 1), 78);
        });
    }

    private static void letters() {
        says("LETTERS, at most 12 that WAIT: FROM a PERSON to another one, WEIGHT (1 to 99), BY a HAND (the first one's without).", () -> {
            String ahead = Bounds.PEOPLE + "letter bob cy weight ";
            Bounds.fault(4, ahead + "|0;");
            Bounds.fault(4, ahead + "|100;");
            OddCancel x = Bounds.of(ahead + "1;letter bob cy weight 99 by rnd;" + "letter ann bob weight 5;".repeat(10));
            Bounds.KIT.given("twelve", x, x.told(4), 12);
            Bounds.KIT.due("weights", x.letter(0, 2) * 100 + x.letter(1, 2), 199);
            Bounds.KIT.due("hands", x.letter(0, 3) * 10 + x.letter(1, 3), 10);
            Bounds.fault(5, Bounds.PEOPLE + "letter bob |bob weight 5;");
            Bounds.fault(6, Bounds.PEOPLE + "letter ann bob weight 5;".repeat(12) + "|letter ann bob weight 5;");
        });
        says("A VALLEY that is taken is there in place of that ahead; it is DAY 0, he is sober, there are no COVERS, no WEEKS.", () -> {
            OddCancel x = Bounds.full();
            x.drink(x.told(8) == 0);
            x.valley(0);
            Bounds.KIT.given("a valley of two", x, Kit.valley(x, Bounds.TWO), 2);
            int[] due = {2, 1, 2, 2, 0, 0, 4, 0, 0, 0, 0, 0};
            for (int what = 0; what < 12; what++) {
                Bounds.KIT.given("told " + what, x, x.told(what), due[what]);
            }
            Bounds.KIT.refused("no covers", x, x.cover(0, 0), 1);
            Bounds.KIT.due("no strikes were given", x.strikes(0) + x.strikes(1), 0);
            Bounds.KIT.refused("no acts", x, x.acts(1, 0, 0), 6);
            Bounds.KIT.refused("no weeks", x, x.live(0), 6);
            Bounds.KIT.refused("no mean", x, x.mean(0, 1), 6);
            smallBehindLarge();
        });
    }

    /** Nothing is left of a larger one, nor of what mean() lived. */
    private static void smallBehindLarge() {
        OddCancel x = Bounds.living(Bounds.MOST + "odds 16;law a under 99;law b;law c;" + "acts k on a to l weight 5;acts l on a to k weight 5;"
            + "acts m on b to n weight 99;acts n on b to m weight 99;letter k l weight 5;letter m n weight 99;letter o p weight 5;", "day 1;drink;");
        x.day(2);
        x.mean(0, 3);
        Bounds.KIT.given("a small one", x, Kit.valley(x, "strike z worth 2;hand y;person w hand y;person v hand y;law z under 10;letter w v weight 50;"), 1);
        int[] due = {1, 1, 2, 1, 1, 0, 4, 0, 0, 0, 0, 0};
        for (int what = 0; what < 12; what++) {
            Bounds.KIT.given("told " + what, x, x.told(what), due[what]);
        }
        Bounds.KIT.due("no strikes were given", x.strikes(0), 0);
        Bounds.KIT.given("no rings", x, x.rings(), 0);
        Bounds.KIT.given("the least echo of 0", x, x.longest(), 0);
        Bounds.KIT.refused("no other law", x, x.brother(0), 6);
        Bounds.KIT.given("no other strike", x, x.could(0, 1, 0), 1);
        Bounds.KIT.given("no other person, no other hand", x, x.idle(), 0);
        Bounds.KIT.given("no odds told", x, Kit.valley(x, "odds 5;"), 0);
        Bounds.KIT.given("odds told once again", x, Kit.valley(x, "odds 6;"), 0);
        Bounds.KIT.given("names are free again", x, Kit.valley(x, "strike k;hand a;"), 0);
    }

    private static void faults() {
        says("FAULTS, the first along the text", () -> {
            Bounds.fault(2, "strike |; #");
            Bounds.fault(3, "strike a;strike |a;strike B;");
            Bounds.fault(4, "odds |17;odds 3;#");
            Bounds.fault(1, "odds 3;|#;odds 3;");
            Bounds.fault(4, "strike a worth |10");
            Bounds.fault(3, "law |x under 0");
        });
        says("(of one TOKEN the least kind)", () -> {
            Bounds.fault(1, "strike |12345;");
            Bounds.fault(1, "odds |12345;");
            Bounds.fault(2, "strike a;strike b;strike c;strike d;strike e;strike f;hand |strike;");
            Bounds.fault(2, "odds 3;strike |odds;");
            Bounds.fault(2, "strike s;law |abcdefghi;");
            Bounds.fault(2, "strike a |100;");
            Bounds.fault(3, Bounds.PEOPLE + "letter ann |ok weight 5;");
        });
        says("1 no TOKEN begins so (a NUMBER of 5 digits and more: at its first).", () -> {
            Bounds.fault(1, "|#");
            Bounds.fault(1, "odds |12345;");
            Bounds.fault(1, "odds |123456789012345678901234567890;");
            Bounds.fault(1, "odds |00000");
            Bounds.fault(1, "|\u0000");
            Bounds.fault(1, "|\u00ff");
            Bounds.fault(1, "strike a;\n|\t");
        });
        says("2 it can't stand there (the end: the text's length; a WORD of 9 letters and more where a NAME must stand).", () -> {
            Bounds.fault(2, "strike|");
            Bounds.fault(2, "strike a|");
            Bounds.fault(2, "strike a  \n |");
            Bounds.fault(2, "strike a;hand|");
            Bounds.fault(2, "strike |abcdefghi;");
            Bounds.fault(2, "hand h;person p hand |hhhhhhhhh;");
            Bounds.fault(2, Bounds.PEOPLE + "acts ann on ok to |abcdefghijklmnop weight 5;");
            Bounds.fault(2, "|abcdefghi;");
            OddCancel x = new OddCancel();
            Kit.feed(x, "strike a;law a;");
            Bounds.KIT.refused("cut within the text", x, x.valley(12), 9);
            Bounds.KIT.due("the text's length, not the tape's", x.fault(0) * 100 + x.fault(1), 212);
            String[] cuts = {"strike a|    ", "strike a|bc;", "strike a worth 1|2;", "strike a worth|", "strike a|;"};
            for (String cut : cuts) {
                Kit.feed(x, cut.replace("|", ""));
                Bounds.KIT.refused("cut", x, x.valley(cut.indexOf('|')), 9);
                Bounds.KIT.due("cut " + cut, x.fault(0) * 100 + x.fault(1), 200 + cut.indexOf('|'));
            }
        });
        says("3 a new NAME that is taken; a NAME that is no such one told ahead.", () -> {
            Bounds.fault(3, "strike a;strike |a;");
            Bounds.fault(3, "strike a;hand |a;");
            Bounds.fault(3, "hand h;person |h hand h;");
            Bounds.fault(3, "hand h;person p hand |p;");
            Bounds.fault(3, Bounds.PEOPLE + "law |ann;");
            Bounds.fault(3, Bounds.PEOPLE + "law ok by |ann;");
            Bounds.fault(3, Bounds.PEOPLE + "law ok from |rnd;");
            Bounds.fault(3, Bounds.PEOPLE + "law ok to |ok;");
            Bounds.fault(3, Bounds.PEOPLE + "acts |rnd on ok to bob weight 5;");
            Bounds.fault(3, Bounds.PEOPLE + "acts ann on |ann to bob weight 5;");
            Bounds.fault(3, Bounds.PEOPLE + "acts ann on ok to |ok weight 5;");
            Bounds.fault(3, Bounds.PEOPLE + "letter |ok bob weight 5;");
            Bounds.fault(3, Bounds.PEOPLE + "letter ann |eve weight 5;");
            Bounds.fault(3, Bounds.PEOPLE + "letter ann bob weight 5 by |bob;");
        });
        says("4 a NUMBER that can't be.", () -> {
            Bounds.fault(4, "strike a worth |10;");
            Bounds.fault(4, "strike s;law s under |0;");
            Bounds.fault(4, "strike s;law s under 5 over |100;");
            Bounds.fault(4, Bounds.PEOPLE + "acts ann on ok to bob weight |100;");
            Bounds.fault(4, Bounds.PEOPLE + "letter ann bob weight |0;");
            Bounds.fault(4, "odds |17;");
            Bounds.fault(4, "odds |9999;");
        });
        says("5 odds told already (at that WORD); a PERSON to itself (ACTS, LETTER: at the second NAME of a PERSON).", () -> {
            Bounds.fault(5, "odds 3;|odds 4;");
            Bounds.fault(5, "odds 4;|odds 17;");
            Bounds.fault(5, "odds 4;strike s;|odds");
            Bounds.fault(5, Bounds.PEOPLE + "acts cy on nie to |cy weight 5;");
            Bounds.fault(5, Bounds.PEOPLE + "letter cy |cy weight 500;");
            Bounds.fine(Bounds.PEOPLE + "law ok from ann to ann;", 1);
        });
        says("6 a seventh strike, person, a fifth hand, a ninth law, a 13th letter (at that WORD).", () -> {
            String law = Bounds.MOST + "law a;".repeat(8);
            String letter = Bounds.MOST + "letter k l weight 1;".repeat(12);
            Bounds.fault(6, Bounds.MOST + "|strike a;");
            Bounds.fault(6, Bounds.MOST + "|person");
            Bounds.fault(6, Bounds.MOST + "|hand #");
            Bounds.fault(6, law + "|law x;");
            Bounds.fault(6, letter + "|letter k k weight 1;");
            Bounds.fine(law + "letter k l weight 1;".repeat(12) + "odds 16;", 8);
        });
    }

    private static void weeks() {
        weeksSay("WEEKS are a TEXT of at most 300 bytes, of such TOKENS (none at first).", () -> {
            String text = "day 1;" + "\n".repeat(290) + "any;";
            Bounds.KIT.due("length", text.length(), 300);
            Bounds.fineWeeks(text, 2);
            OddCancel x = Bounds.of(Bounds.PEOPLE);
            Bounds.KIT.refused("none at first", x, x.live(0), 6);
            Kit.feed(x, text + " ");
            Bounds.KIT.refused("301", x, x.weeks(301), 1);
            Bounds.KIT.refused("301 changes nothing", x, x.live(0), 6);
            Bounds.KIT.given("300 of them", x, x.weeks(300), 2);
            Bounds.weeksFault(1, "any;|#");
            Bounds.weeksFault(1, "day |00001;");
            Bounds.fineWeeks("day 0001;any;", 2);
            Bounds.fineWeeks("day1;when waits<5;end;\n", 2);
        });
        weeksSay("WEEKS: {STEP}. STEP: day NUMBER ; or post NAME NAME NUMBER ; or drink ; or sober ; or any ; or when TEST ; {STEP} end ; or loop NUMBER ; {STEP} end ; or stop ;", () -> {
            Bounds.fineWeeks("", 0);
            Bounds.fineWeeks("when drunk;end;loop 1;end;", 2);
            Bounds.fineWeeks("day 1;post ann bob 5;drink;sober;any;when drunk;any;any;end;loop 2;stop;end;", 10);
            String[] steps = {"day 1;", "post ann bob 5;", "drink;", "sober;", "any;", "when struck ok;", "when waits < 5;", "when drunk;", "loop 2;", "stop;", "loop 2;end;"};
            for (String step : steps) {
                Bounds.weeksFault(2, step.substring(0, step.length() - 1) + "|");
                Bounds.weeksFault(2, step.substring(0, step.length() - 1) + "|<;");
                for (int k = 0; k < step.length(); k++) {
                    if (step.charAt(k) == ' ') {
                        Bounds.weeksFault(2, step.substring(0, k) + "|");
                        Bounds.weeksFault(2, step.substring(0, k) + " |;" + step.substring(k));
                    }
                }
            }
        });
        weeksSay("TEST: struck NAME, or waits COMPARES NUMBER, or drunk. COMPARES: < or > or =", () -> {
            Bounds.fineWeeks("when struck ok;end;when waits < 5;end;when waits > 5;end;when waits = 5;end;when drunk;end;", 5);
            Bounds.weeksFault(2, "when |;");
            Bounds.weeksFault(2, "when waits|5;");
            Bounds.weeksFault(2, "when waits |;");
            Bounds.weeksFault(2, "when waits |5;");
            Bounds.weeksFault(2, "when waits < |> 5;");
            Bounds.weeksFault(2, "when struck |drunk;");
            Bounds.weeksFault(2, "when |sober;");
            Bounds.weeksFault(2, "when drunk |ok;");
        });
    }

    private static void weeksFaults() {
        weeksSay("FAULTS: 1, 2 as above (an end without a beginning; the text's end ahead of an end: 2).", () -> {
            Bounds.weeksFault(1, "|#");
            Bounds.weeksFault(1, "day |12345;");
            Bounds.weeksFault(2, "|end;");
            Bounds.weeksFault(2, "any;|end;");
            Bounds.weeksFault(2, "loop 1;end;|end;");
            Bounds.weeksFault(2, "when drunk;any;end;|end;");
            Bounds.weeksFault(2, "loop 1;|");
            Bounds.weeksFault(2, "loop 1;any; \n|");
            Bounds.weeksFault(2, "loop 1;when drunk;end;|");
            Bounds.weeksFault(2, "post ann |bbbbbbbbb 5;");
            Bounds.weeksFault(2, "|strike s;");
            Bounds.weeksFault(2, "|ann;");
            OddCancel x = Bounds.of(Bounds.PEOPLE);
            Kit.weeks(x, "loop 1;loop 2;");
            Bounds.KIT.refused("an end of a text ahead", x, Kit.weeks(x, "end;"), 9);
            Kit.weeks(x, "loop 1;loop 2;");
            Bounds.KIT.given("no end is asked for them", x, Kit.weeks(x, "any;"), 1);
        });
        weeksSay("3 a NAME that is no such one (PERSONS behind post; a STRIKE behind struck).", () -> {
            Bounds.weeksFault(3, "post |eve bob 5;");
            Bounds.weeksFault(3, "post |ok bob 5;");
            Bounds.weeksFault(3, "post ann |rnd 5;");
            Bounds.weeksFault(3, "when struck |eve;end;");
            Bounds.weeksFault(3, "when struck |ann;end;");
            Bounds.weeksFault(3, "when struck |rnd;end;");
        });
        weeksSay("4 a NUMBER that can't be.", () -> {
            Bounds.weeksFault(4, "day |0;");
            Bounds.weeksFault(4, "day |21;");
            Bounds.weeksFault(4, "post ann bob |0;");
            Bounds.weeksFault(4, "post ann bob |100;");
            Bounds.weeksFault(4, "loop |0;end;");
            Bounds.weeksFault(4, "loop |100;end;");
            Bounds.weeksFault(4, "when waits < |100;end;");
            Bounds.weeksFault(4, "when waits > |100;end;");
            Bounds.weeksFault(4, "when waits = |9999;end;");
            Bounds.fineWeeks("day 1;day 20;post ann bob 1;post ann bob 99;loop 1;end;loop 99;end;when waits < 0;end;when waits = 99;end;", 8);
        });
        weeksSay("5 a PERSON to itself (at the second NAME).", () -> {
            Bounds.weeksFault(5, "post ann |ann 5;");
            Bounds.weeksFault(5, "post cy |cy 0;");
        });
        weeksSay("6 a 31st STEP (at its WORD; end is none).", () -> {
            Bounds.fineWeeks("any;".repeat(30), 30);
            Bounds.weeksFault(6, "any;".repeat(30) + "|any;");
            Bounds.weeksFault(6, "any;".repeat(30) + "|day 0;");
            Bounds.fineWeeks("loop1;end;".repeat(30), 30);
            OddCancel x = Bounds.living(Bounds.PEOPLE, "loop1;end;".repeat(30));
            Bounds.KIT.given("all thirty are there", x, x.live(0), 30);
            x = Bounds.living(Bounds.PEOPLE, "loop1;end;".repeat(28) + "loop 2;day 7;end;");
            Bounds.KIT.given("and the thirtieth twice", x, x.live(0), 31);
            Bounds.KIT.given("14 days", x, x.told(7), 14);
            x.mark();
            Kit.weeks(x, "");
            x.undo();
            Bounds.KIT.given("all thirty again", x, x.live(0), 31);
            x = Bounds.living(Bounds.PEOPLE, "loop1;end;".repeat(28) + "post bob cy 9;");
            x.live(0);
            Bounds.KIT.due("a post behind 28 loops", x.letter(0, 0) * 100 + x.letter(0, 1) * 10 + x.letter(0, 2), 129);
            Bounds.weeksFault(6, "loop1;" + "any;".repeat(29) + "|any;end;");
            Bounds.fineWeeks("loop1;" + "any;".repeat(29) + "end;", 30);
            Bounds.weeksFault(6, "loop1;".repeat(3) + "any;".repeat(27) + "|loop1;");
            Bounds.weeksFault(2, "any;".repeat(30) + "|strike;");
            Bounds.weeksFault(2, "any;".repeat(30) + "|end;");
        });
        weeksSay("7 a when, loop within three others (at its WORD).", () -> {
            Bounds.fineWeeks("loop 1;loop 1;loop 1;any;end;end;end;", 4);
            Bounds.fineWeeks("when drunk;when drunk;when drunk;end;end;end;", 3);
            Bounds.weeksFault(7, "loop 1;loop 1;loop 1;|loop 0;");
            Bounds.weeksFault(7, "when drunk;loop 1;when drunk;any;|when x;");
            Bounds.weeksFault(7, "loop 1;loop 1;loop 1;end;loop 1;|when drunk;");
            Bounds.fineWeeks("loop 1;loop 1;loop 1;end;end;loop 1;loop 1;end;end;end;", 5);
        });
    }
}
