/** FAULTS of both texts: the bar in a text is where the FAULT is due, and is no part of it. */
public final class FaultsTest {
    private static final Kit KIT = new Kit();
    static final String VALLEY = "strike ok worth 3;strike dud;strike nie worth 5;hand rnd;hand shp;"
        + "person ann hand rnd;person bob hand shp;person cy hand rnd;";

    private static String times(int many, String text) {
        return text.repeat(many);
    }

    private static void valley(int kind, String marked) {
        OddCancel x = new OddCancel();
        int place = marked.indexOf('|');
        String text = marked.replace("|", "");
        Kit.valley(x, "strike old;law old;law old;");
        KIT.refused(marked, x, Kit.valley(x, text), 9);
        KIT.due(marked + " fault", x.fault(0), kind);
        KIT.due(marked + " place", x.fault(1), place);
        KIT.due(marked + " old one stays", x.told(3), 2);
        KIT.due(marked + " tape", x.feed(0, 0, 0, 0, 0), 20);
    }

    private static void weeks(int kind, String marked) {
        OddCancel x = new OddCancel();
        int place = marked.indexOf('|');
        String text = marked.replace("|", "");
        Kit.valley(x, VALLEY);
        Kit.weeks(x, "any;any;");
        KIT.refused(marked, x, Kit.weeks(x, text), 9);
        KIT.due(marked + " fault", x.fault(0), kind);
        KIT.due(marked + " place", x.fault(1), place);
        KIT.due(marked + " old ones stay", x.live(0), 2);
        KIT.due(marked + " tape", x.feed(0, 0, 0, 0, 0), 20);
    }

    private static void fineValley(String text, int laws) {
        OddCancel x = new OddCancel();
        KIT.given(text, x, Kit.valley(x, text), laws);
        KIT.due(text + " fault", x.fault(0), 0);
        KIT.due(text + " place", x.fault(1), OddCancel.NONE);
    }

    private static void fineWeeks(String text, int steps) {
        OddCancel x = new OddCancel();
        Kit.valley(x, VALLEY);
        KIT.given(text, x, Kit.weeks(x, text), steps);
        KIT.due(text + " fault", x.fault(0), 0);
        KIT.due(text + " place", x.fault(1), OddCancel.NONE);
    }

    private static void valleyTokens() {
        valley(1, "|A");
        valley(1, "  |Strike a;");
        valley(1, "strike a|,");
        valley(1, "strike a;|\t");
        valley(1, "strike a;|\u0000");
        valley(1, "strike |\u00e9;");
        valley(1, "strike a|\u00ff;");
        valley(1, "strike a worth |12345;");
        valley(1, "strike a worth |00001;");
        valley(1, "strike |12345;");
        valley(1, "|12345678901");
        valley(1, "strike a|-");
        valley(2, "strike |on A");
        valley(1, "strike |Zon;");
        fineValley("", 0);
        fineValley(" \n ", 0);
        fineValley("\nstrike\n\na  worth\n0003 ;law a;law\na;", 2);
        fineValley("strike a worth3;law a under5over2;", 1);
        fineValley("strike abcdefgh;law abcdefgh;", 1);
        fineValley("strike strikes;hand dayx;person p hand dayx;", 0);
    }

    private static void valleyStands() {
        valley(2, "|;");
        valley(2, "|foo a;");
        valley(2, "|7");
        valley(2, "|worth 1;");
        valley(2, "|day 1;");
        valley(2, "|end;");
        valley(2, "|strikes a;");
        valley(2, "strike|");
        valley(2, "strike  |");
        valley(2, "strike a|");
        valley(2, "strike a \n|");
        valley(2, "strike a worth|");
        valley(2, "strike a worth 1|");
        valley(2, "strike |;");
        valley(2, "strike |5;");
        valley(2, "strike a |worthy 1;");
        valley(2, "strike a worth |b;");
        valley(2, "strike a worth |;");
        valley(2, "strike a |5;");
        valley(2, "strike a |<;");
        valley(2, "strike a;|;");
        valley(2, "strike |abcdefghi;");
        valley(2, "strike |abcdefghijklmnopqrstuvwxyz;");
        for (String word : ("strike worth hand person law under over by from to acts on weight letter odds day post drink sober "
            + "any when struck waits drunk loop end stop").split(" ")) {
            valley(2, "strike |" + word + ";");
        }
        valley(2, "hand h |worth 1;");
        valley(2, "hand h;person p |h;");
        valley(2, "hand h;person p hand |;");
        valley(2, "hand h;person p hand |hand;");
        valley(2, "strike s;law |under 5;");
        valley(2, "strike s;law s over 1 |under 2;");
        valley(2, "strike s;hand h;law s by h |over 2;");
        valley(2, VALLEY + "law ok to ann |from bob;");
        valley(2, "strike s;law s under 1 |under 2;");
        valley(2, VALLEY + "acts ann |to bob;");
        valley(2, VALLEY + "acts ann on ok |on bob;");
        valley(2, VALLEY + "acts ann on ok to bob |5;");
        valley(2, VALLEY + "acts ann on ok to bob weight |;");
        valley(2, VALLEY + "letter ann |weight 5;");
        valley(2, VALLEY + "letter ann bob |5;");
        valley(2, VALLEY + "letter ann bob weight 5 |rnd;");
        valley(2, VALLEY + "letter ann bob weight 5 by |;");
        valley(2, "odds |;");
        valley(2, "odds 3|");
        valley(2, "odds |x;");
    }

    private static void valleyNames() {
        valley(3, "strike a;strike |a;");
        valley(3, "strike a;hand |a;");
        valley(3, "hand h;person |h hand h;");
        valley(3, "strike a;hand h;person |a hand h;");
        valley(3, "hand h;person p hand h;strike |p;");
        valley(3, "hand h;person p hand |p;");
        valley(3, "person p hand |h;");
        valley(3, "law |x;");
        valley(3, "law |x;strike x;");
        valley(3, VALLEY + "law |ann;");
        valley(3, VALLEY + "law ok by |ok;");
        valley(3, VALLEY + "law ok from |rnd;");
        valley(3, VALLEY + "law ok to |dud;");
        valley(3, VALLEY + "acts |ok on ok to bob weight 5;");
        valley(3, VALLEY + "acts ann on |bob to bob weight 5;");
        valley(3, VALLEY + "acts ann on ok to |rnd weight 5;");
        valley(3, VALLEY + "letter |eve bob weight 5;");
        valley(3, VALLEY + "letter ann |ok weight 5;");
        valley(3, VALLEY + "letter ann bob weight 5 by |ann;");
        valley(3, "strike abcdefgh;law |abcdefg;");
        valley(3, "strike ab;law |aba;");
    }

    private static void valleyNumbers() {
        valley(4, "strike a worth |10;");
        valley(4, "strike a worth |10");
        valley(4, "strike a worth |9999;");
        valley(4, "strike s;law s under |0;");
        valley(4, "strike s;law s under |100;");
        valley(4, "strike s;law s over |100;");
        fineValley("strike s;law s under 1;law s under 99;law s over 0;law s over 99;", 4);
        fineValley("strike a worth 0;strike b worth 9;", 0);
        valley(4, VALLEY + "acts ann on ok to bob weight |0;");
        valley(4, VALLEY + "acts ann on ok to bob weight |100;");
        valley(4, VALLEY + "letter ann bob weight |0;");
        valley(4, VALLEY + "letter ann bob weight |100;");
        fineValley(VALLEY + "letter ann bob weight 1;letter ann bob weight 99;acts ann on ok to cy weight 1;acts ann on ok to cy weight 99;", 0);
        valley(4, "odds |17;");
        fineValley("odds 16;", 0);
        fineValley("odds 0;", 0);
    }

    private static void valleyRest() {
        valley(5, "odds 3;|odds 3;");
        valley(5, "odds 3;|odds");
        valley(5, VALLEY + "acts ann on ok to |ann weight 5;");
        valley(5, VALLEY + "letter bob |bob weight 5;");
        valley(5, VALLEY + "letter bob |bob");
        fineValley(VALLEY + "law ok from ann to ann;", 1);
        valley(6, "strike a;strike b;strike c;strike d;strike e;strike f;|strike a;");
        valley(6, "hand a;hand b;hand c;hand d;|hand");
        valley(6, "hand h;person a hand h;person b hand h;person c hand h;person d hand h;person e hand h;person f hand h;|person");
        valley(6, "strike s;" + times(8, "law s;") + "|law s;");
        valley(6, VALLEY + times(12, "letter ann bob weight 1;") + "|letter");
        fineValley("strike a;strike b;strike c;strike d;strike e;strike f;hand g;hand h;hand i;hand j;"
            + "person k hand g;person l hand h;person m hand i;person n hand j;person o hand g;person p hand h;"
            + times(8, "law a;") + times(12, "letter k l weight 1;"), 8);
        valley(3, "strike a;strike |a;strike a;strike B;");
    }

    private static void weeksFaults() {
        weeks(1, "|A");
        weeks(1, "day |12345;");
        weeks(1, "day 1|!");
        weeks(2, "|;");
        weeks(2, "|strike a;");
        weeks(2, "|ann;");
        weeks(2, "|end;");
        weeks(2, "any;|end;");
        weeks(2, "loop 1;end;|end;");
        weeks(2, "loop 2;|");
        weeks(2, "loop 2;any; |");
        weeks(2, "when drunk;|");
        weeks(2, "loop 2;end|");
        weeks(2, "loop 2;end |any;");
        weeks(2, "any|");
        weeks(2, "any |5;");
        weeks(2, "day |;");
        weeks(2, "day |ann;");
        weeks(2, "post |5;");
        weeks(2, "post ann |5;");
        weeks(2, "post ann bob |;");
        weeks(2, "post |weight bob 5;");
        weeks(2, "post ann |abcdefghi 5;");
        weeks(2, "when |;");
        weeks(2, "when |ok;");
        weeks(2, "when |sober;");
        weeks(2, "when struck |;");
        weeks(2, "when waits |5;");
        weeks(2, "when waits |;");
        weeks(2, "when waits < |= 5;");
        weeks(2, "when waits < |ann;");
        weeks(2, "when drunk |any;");
        weeks(2, "|drunk;");
        weeks(2, "loop |x;");
        weeks(2, "stop |stop;");
        weeks(3, "when struck |foo;");
        weeks(3, "when struck |ann;end;");
        weeks(3, "post |ok bob 5;");
        weeks(3, "post ann |rnd 5;");
        weeks(4, "day |0;");
        weeks(4, "day |21;");
        weeks(4, "post ann bob |0;");
        weeks(4, "post ann bob |100;");
        weeks(4, "loop |0;end;");
        weeks(4, "loop |100;end;");
        weeks(4, "when waits = |100;end;");
        weeks(5, "post ann |ann 5;");
        weeks(6, times(30, "any;") + "|any;");
        weeks(6, times(27, "any;") + times(3, "loop 1;") + "|loop 1;");
        weeks(2, times(30, "any;") + "|foo;");
        weeks(7, times(3, "loop 1;") + "|loop 1;");
        weeks(7, "loop 1;when drunk;loop 2;any;|when drunk;");
        weeks(7, "loop 1;loop 1;end;loop 1;loop 1;end;end;loop 1;loop 1;|loop 1;");
    }

    private static void weeksFine() {
        fineWeeks("", 0);
        fineWeeks(" \n", 0);
        fineWeeks("day 1;day 20;post ann bob 1;post cy bob 99;drink;sober;any;stop;", 8);
        fineWeeks("when struck ok;any;end;when waits<0;end;when waits > 99;end;when waits=5;end;when drunk;end;", 6);
        fineWeeks("loop 1;end;loop 99;loop 3;when drunk;any;end;end;end;", 5);
        fineWeeks(times(30, "any;"), 30);
        fineWeeks(times(27, "any;") + times(3, "loop 1;") + times(3, "end;"), 30);
        fineWeeks(times(30, "loop1;end;"), 30);
    }

    public static void main(String[] args) {
        valleyTokens();
        valleyStands();
        valleyNames();
        valleyNumbers();
        valleyRest();
        weeksFaults();
        weeksFine();
        KIT.end("FaultsTest");
    }
}
