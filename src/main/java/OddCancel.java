import java.util.Arrays;

/** A valley whose postman cancels each cover with what he makes of it: see ../shared/DOC.md. */
public final class OddCancel {
    public static final int NONE = -1;

    private static final int TRAYS_MOST = 4;
    private static final int SORTS = 4;
    private static final int TRAY_LENGTH = 60;
    private static final int TAPE_LENGTH = 900;
    private static final int WEEKS_LENGTH = 300;
    private static final int STRIKES_MOST = 6;
    private static final int HANDS_MOST = 4;
    private static final int PERSONS_MOST = 6;
    private static final int COUPLES = PERSONS_MOST * STRIKES_MOST;
    private static final int LAWS_MOST = 8;
    private static final int LAW_FIELDS = 6;
    private static final int LETTERS_MOST = 12;
    private static final int WEIGHT_MOST = 99;
    private static final int WORTH_MOST = 9;
    private static final int ODDS_MOST = 16;
    private static final int ODDS_UNTOLD = 4;
    private static final int DATE_MOST = 9999;
    private static final int SEED_MOST = 9999;
    private static final int DAYS_A_CALL = 99;
    private static final int TURNS_MOST = 3;
    private static final int SEEDS_MOST = 20;
    private static final int SPLIT_COVERS = 30;
    private static final int MARKS_MOST = 3;
    private static final int DAYS_A_STEP = 20;
    private static final int LOOPS_MOST = 99;
    private static final int WAITS_MOST = 99;
    private static final int STEPS_MOST = 30;
    private static final int STEPS_LIVED = 300;
    private static final int DEPTH_MOST = 3;
    private static final int LIVED_FIELDS = 5;

    private static final int STATUS_NUMBER = 1;
    private static final int STATUS_MISSING = 2;
    private static final int STATUS_SHORT = 3;
    private static final int STATUS_MANY = 4;
    private static final int STATUS_CONTENT = 5;
    private static final int STATUS_NONE = 6;
    private static final int STATUS_CANNOT = 7;
    private static final int STATUS_UNLIKE = 8;
    private static final int STATUS_FAULT = 9;

    private static final int FAULT_TOKEN = 1;
    private static final int FAULT_STAND = 2;
    private static final int FAULT_NAME = 3;
    private static final int FAULT_NUMBER = 4;
    private static final int FAULT_TWICE = 5;
    private static final int FAULT_MANY = 6;
    private static final int FAULT_DEEP = 7;

    private static final int TOKEN_END = 0;
    private static final int TOKEN_WORD = 1;
    private static final int TOKEN_NUMBER = 2;
    private static final int TOKEN_SIGN = 3;
    private static final int TOKEN_BAD = 4;

    private static final int KIND_STRIKE = 0;
    private static final int KIND_HAND = 1;
    private static final int KIND_PERSON = 2;
    private static final int KINDS = 3;
    private static final int NAMES_A_KIND = 6;
    private static final int NAME_LENGTH = 8;

    /** In the order of the numbers below; each ends with a blank. */
    private static final String KEYWORDS =
        "strike worth hand person law under over by from to acts on weight letter odds day post drink sober any when struck waits drunk loop end stop ";
    private static final int WORD_STRIKE = 0;
    private static final int WORD_WORTH = 1;
    private static final int WORD_HAND = 2;
    private static final int WORD_PERSON = 3;
    private static final int WORD_LAW = 4;
    private static final int WORD_UNDER = 5;
    private static final int WORD_OVER = 6;
    private static final int WORD_BY = 7;
    private static final int WORD_FROM = 8;
    private static final int WORD_TO = 9;
    private static final int WORD_ACTS = 10;
    private static final int WORD_ON = 11;
    private static final int WORD_WEIGHT = 12;
    private static final int WORD_LETTER = 13;
    private static final int WORD_ODDS = 14;
    private static final int WORD_DAY = 15;
    private static final int WORD_POST = 16;
    private static final int WORD_DRINK = 17;
    private static final int WORD_SOBER = 18;
    private static final int WORD_ANY = 19;
    private static final int WORD_WHEN = 20;
    private static final int WORD_STRUCK = 21;
    private static final int WORD_WAITS = 22;
    private static final int WORD_DRUNK = 23;
    private static final int WORD_LOOP = 24;
    private static final int WORD_END = 25;
    private static final int WORD_STOP = 26;

    private int lastStatus;
    private long fractionTop;
    private long fractionBottom;
    private final Tray[] trays;
    private final Valley now;
    private final Valley spare;
    private final Plan plan;
    private final Plan sparePlan;
    private final Valley[] markedValleys;
    private final Plan[] markedPlans;
    private int marks;
    private final Reader reader;
    private final ValleyText valleyText;
    private final WeeksText weeksText;
    private final Life life;
    private final int[] livedRow;
    private final Trails trails;
    private final Rows rows;
    private final Brothers brothers;

    public OddCancel() {
        fractionBottom = 1;
        trays = new Tray[TRAYS_MOST];
        for (int tray = 0; tray < TRAYS_MOST; tray++) {
            trays[tray] = new Tray();
        }
        now = new Valley();
        spare = new Valley();
        plan = new Plan();
        sparePlan = new Plan();
        markedValleys = new Valley[MARKS_MOST];
        markedPlans = new Plan[MARKS_MOST];
        for (int mark = 0; mark < MARKS_MOST; mark++) {
            markedValleys[mark] = new Valley();
            markedPlans[mark] = new Plan();
        }
        reader = new Reader();
        valleyText = new ValleyText(reader, spare);
        weeksText = new WeeksText(reader, now, sparePlan);
        life = new Life();
        livedRow = new int[LIVED_FIELDS];
        livedRow[0] = NONE;
        trails = new Trails();
        rows = new Rows();
        brothers = new Brothers();
    }

    public int status() {
        return lastStatus;
    }

    public long top() {
        return fractionTop;
    }

    public long bottom() {
        return fractionBottom;
    }

    // ---- TRAYS

    public boolean tray(int tray, int sort, int many) {
        if (!isTray(tray) || !within(sort, 0, SORTS - 1) || !within(many, 0, TRAY_LENGTH)) {
            return ends(STATUS_NUMBER);
        }
        trays[tray].make(sort, many);
        return ends(0);
    }

    public boolean write(int tray, int place, long v) {
        int found = placeStatus(tray, place);
        if (found == 0) {
            trays[tray].put(place, v);
        }
        return ends(found);
    }

    public long read(int tray, int place) {
        int found = placeStatus(tray, place);
        if (found != 0) {
            return refuses(found);
        }
        lastStatus = 0;
        return trays[tray].numbers[place];
    }

    public boolean pour(int from, int place, int to, int at, int many) {
        if (!isTray(from) || !isTray(to) || place < 0 || at < 0 || many < 0) {
            return ends(STATUS_NUMBER);
        }
        Tray source = trays[from];
        Tray goal = trays[to];
        if (!source.there || !goal.there) {
            return ends(STATUS_MISSING);
        }
        if (source.sort != goal.sort) {
            return ends(STATUS_UNLIKE);
        }
        if ((long) place + many > source.many || (long) at + many > goal.many) {
            return ends(STATUS_SHORT);
        }
        System.arraycopy(source.numbers, place, goal.numbers, at, many);
        return ends(0);
    }

    // ---- texts

    public int feed(int a, int b, int c, int d, int e) {
        if (!reader.hasSpace()) {
            return NONE;
        }
        reader.append(a);
        reader.append(b);
        reader.append(c);
        reader.append(d);
        reader.append(e);
        return reader.taped;
    }

    public int valley(int n) {
        if (!within(n, 0, reader.taped)) {
            return refuses(STATUS_NUMBER);
        }
        if (!valleyText.accept(n)) {
            return refuses(STATUS_FAULT);
        }
        now.copyFrom(spare);
        plan.clear();
        return gives(now.laws);
    }

    public int weeks(int n) {
        if (!within(n, 0, reader.taped) || n > WEEKS_LENGTH) {
            return refuses(STATUS_NUMBER);
        }
        if (!weeksText.accept(n)) {
            return refuses(STATUS_FAULT);
        }
        plan.copyFrom(sparePlan);
        return gives(plan.steps);
    }

    public int fault(int what) {
        if (what == 0) {
            return reader.fault;
        }
        return what == 1 ? reader.faultPlace : NONE;
    }

    public int told(int what) {
        switch (what) {
            case 0: return gives(now.strikes);
            case 1: return gives(now.hands);
            case 2: return gives(now.persons);
            case 3: return gives(now.laws);
            case 4: return gives(now.waits.many);
            case 5: return gives(now.covers.many);
            case 6: return gives(now.odds);
            case 7: return gives(now.date);
            case 8: return gives(now.drunk ? 1 : 0);
            case 9: return gives(now.allCovers);
            case 10: return gives(now.plainCovers);
            case 11: return gives(now.worthOfAll());
            default: return refuses(STATUS_NUMBER);
        }
    }

    public int worth(int strike) {
        return now.isStrike(strike) ? gives(now.worthOf[strike]) : refuses(STATUS_NUMBER);
    }

    public int hand(int person) {
        return now.isPerson(person) ? gives(now.handOf[person]) : refuses(STATUS_NUMBER);
    }

    public int law(int law, int what) {
        if (!within(law, 0, now.laws - 1) || !within(what, 0, LAW_FIELDS - 1)) {
            return refuses(STATUS_NUMBER);
        }
        return givesIfAny(now.lawRow[law * LAW_FIELDS + what]);
    }

    public int acts(int person, int strike, int what) {
        if (!now.isCouple(person, strike) || !within(what, 0, 1)) {
            return refuses(STATUS_NUMBER);
        }
        int couple = person * STRIKES_MOST + strike;
        return givesIfAny(what == 0 ? now.actsTo[couple] : now.actsWeight[couple]);
    }

    public int letter(int k, int what) {
        if (!within(k, 0, now.waits.many - 1) || !within(what, 0, 3)) {
            return refuses(STATUS_NUMBER);
        }
        return gives(now.waits.tell(k, what));
    }

    public int cover(int k, int what) {
        if (!within(k, 0, now.covers.many - 1) || !within(what, 0, 4)) {
            return refuses(STATUS_NUMBER);
        }
        return givesIfAny(now.covers.tell(k, what));
    }

    public int strikes(int strike) {
        return now.isStrike(strike) ? gives(now.struckSoFar[strike]) : refuses(STATUS_NUMBER);
    }

    // ---- what is done

    public int post(int from, int to, int weight, int hand) {
        if (!now.isLetter(from, to, weight, hand)) {
            return refuses(STATUS_NUMBER);
        }
        if (now.waits.isFull()) {
            return refuses(STATUS_MANY);
        }
        now.waits.add(from, to, weight, hand, NONE);
        return gives(now.waits.many);
    }

    public int day(int many) {
        if (!within(many, 1, DAYS_A_CALL)) {
            return refuses(STATUS_NUMBER);
        }
        if (!now.hasDays(many)) {
            return refuses(STATUS_MANY);
        }
        return gives(now.goDays(many));
    }

    public boolean drink(boolean is) {
        if (now.drunk == is) {
            return ends(STATUS_CANNOT);
        }
        now.drunk = is;
        return ends(0);
    }

    public int take(int k) {
        if (!within(k, 0, now.waits.many - 1)) {
            return refuses(STATUS_NUMBER);
        }
        now.waits.dropAt(k);
        return gives(now.waits.many);
    }

    public int wrapped(int k, int more) {
        if (!within(k, 0, now.waits.many - 1) || !within(more, 1, WEIGHT_MOST - 1)) {
            return refuses(STATUS_NUMBER);
        }
        int weight = now.waits.weight[k] + more;
        if (weight > WEIGHT_MOST) {
            return refuses(STATUS_CANNOT);
        }
        now.waits.weight[k] = weight;
        return gives(weight);
    }

    public boolean learn(int person, int hand) {
        if (!now.isPerson(person) || !now.isHand(hand)) {
            return ends(STATUS_NUMBER);
        }
        now.handOf[person] = hand;
        return ends(0);
    }

    public boolean teach(int person, int strike, int to, int weight) {
        if (!now.isCouple(person, strike) || !now.isPerson(to) || to == person
            || !within(weight, 1, WEIGHT_MOST)) {
            return ends(STATUS_NUMBER);
        }
        now.setActs(person, strike, to, weight);
        return ends(0);
    }

    public boolean forget(int person, int strike) {
        if (!now.isCouple(person, strike)) {
            return ends(STATUS_NUMBER);
        }
        if (now.actsTo[person * STRIKES_MOST + strike] == NONE) {
            return ends(STATUS_CANNOT);
        }
        now.setActs(person, strike, NONE, NONE);
        return ends(0);
    }

    public boolean sway(int law) {
        if (!within(law, 0, now.laws - 2)) {
            return ends(STATUS_NUMBER);
        }
        now.swapLaws(law, law + 1);
        return ends(0);
    }

    public boolean pub(int odds) {
        if (!within(odds, 0, ODDS_MOST)) {
            return ends(STATUS_NUMBER);
        }
        now.odds = odds;
        return ends(0);
    }

    // ---- strikes

    public int lawOf(int from, int to, int weight, int hand) {
        if (!now.isLetter(from, to, weight, hand)) {
            return refuses(STATUS_NUMBER);
        }
        return givesIfAny(now.firstFit(from, to, weight, hand));
    }

    public int strikeOf(int from, int to, int weight, int hand) {
        if (!now.isLetter(from, to, weight, hand)) {
            return refuses(STATUS_NUMBER);
        }
        return givesIfAny(now.soberStrike(from, to, weight, hand));
    }

    public int struckNow(int from, int to, int weight, int hand) {
        if (!now.isLetter(from, to, weight, hand)) {
            return refuses(STATUS_NUMBER);
        }
        int sober = now.soberStrike(from, to, weight, hand);
        return givesIfAny(now.drunk ? now.strikeBehind(sober) : sober);
    }

    public int lawsOf(int from, int to, int weight, int hand) {
        if (!now.isLetter(from, to, weight, hand)) {
            return refuses(STATUS_NUMBER);
        }
        int set = 0;
        for (int law = 0; law < now.laws; law++) {
            if (now.fits(law, from, to, weight, hand)) {
                set |= 1 << law;
            }
        }
        return gives(set);
    }

    public boolean sure(int from, int to, int weight, int hand, int strike) {
        if (!now.isLetter(from, to, weight, hand) || !now.isStrike(strike)) {
            return ends(STATUS_NUMBER);
        }
        int sober = now.soberStrike(from, to, weight, hand);
        int sixteenths = 0;
        if (sober == strike) {
            sixteenths += ODDS_MOST - now.odds;
        }
        if (now.strikeBehind(sober) == strike) {
            sixteenths += now.odds;
        }
        setFraction(sixteenths, ODDS_MOST);
        return ends(0);
    }

    public int wrap(int from, int to, int weight, int hand, int strike) {
        if (!now.isLetter(from, to, weight, hand) || !now.isStrike(strike)) {
            return refuses(STATUS_NUMBER);
        }
        int lightest = now.lightest(from, to, weight, hand, strike);
        return lightest == NONE ? refuses(STATUS_NONE) : gives(lightest - weight);
    }

    public int weights(int from, int to, int hand, int strike) {
        if (!now.isLetter(from, to, 1, hand) || !now.isStrike(strike)) {
            return refuses(STATUS_NUMBER);
        }
        int many = 0;
        for (int weight = 1; weight <= WEIGHT_MOST; weight++) {
            if (now.soberStrike(from, to, weight, hand) == strike) {
                many++;
            }
        }
        return gives(many);
    }

    public int weightAt(int from, int to, int hand, int strike, int what) {
        if (!now.isLetter(from, to, 1, hand) || !now.isStrike(strike) || !within(what, 0, 1)) {
            return refuses(STATUS_NUMBER);
        }
        return givesIfAny(what == 0
            ? now.lightest(from, to, 1, hand, strike)
            : now.heaviest(from, to, hand, strike));
    }

    public int could(int from, int to, int hand) {
        if (!now.isLetter(from, to, 1, hand)) {
            return refuses(STATUS_NUMBER);
        }
        int set = 0;
        for (int weight = 1; weight <= WEIGHT_MOST; weight++) {
            int strike = now.soberStrike(from, to, weight, hand);
            if (strike != NONE) {
                set |= 1 << strike;
            }
        }
        return gives(set);
    }

    public int idle() {
        int all = (1 << now.laws) - 1;
        int used = 0;
        for (int from = 0; from < now.persons && used != all; from++) {
            for (int to = 0; to < now.persons && used != all; to++) {
                if (from != to) {
                    used |= now.lawsFirstBetween(from, to);
                }
            }
        }
        return gives(all & ~used);
    }

    public int via(int from, int to, int weight, int strike) {
        if (!isWay(from, to, weight, strike)) {
            return refuses(STATUS_NUMBER);
        }
        trails.findWays(now, to, weight, strike);
        return givesIfAny(trails.ways[from]);
    }

    public int viaFirst(int from, int to, int weight, int strike) {
        if (!isWay(from, to, weight, strike)) {
            return refuses(STATUS_NUMBER);
        }
        trails.findWays(now, to, weight, strike);
        return givesIfAny(trails.firstOnWay(now, from, to, weight));
    }

    // ---- echoes

    public int echo(int person, int strike) {
        if (!now.isCouple(person, strike)) {
            return refuses(STATUS_NUMBER);
        }
        trails.follow(now, person, strike);
        return trails.ring > 0 ? refuses(STATUS_CANNOT) : gives(trails.posted);
    }

    public int round(int person, int strike) {
        if (!now.isCouple(person, strike)) {
            return refuses(STATUS_NUMBER);
        }
        trails.follow(now, person, strike);
        return trails.ring > 0 ? gives(trails.ring) : refuses(STATUS_NONE);
    }

    public int rings() {
        int many = 0;
        for (int person = 0; person < now.persons; person++) {
            for (int strike = 0; strike < now.strikes; strike++) {
                trails.follow(now, person, strike);
                if (trails.ring > 0 && trails.ringStart == 0) {
                    many++;
                }
            }
        }
        return gives(many);
    }

    public int longest() {
        int most = NONE;
        int couple = NONE;
        for (int person = 0; person < now.persons; person++) {
            for (int strike = 0; strike < now.strikes; strike++) {
                trails.follow(now, person, strike);
                if (trails.ring == 0 && trails.posted > most) {
                    most = trails.posted;
                    couple = 10 * person + strike;
                }
            }
        }
        return givesIfAny(couple);
    }

    // ---- what is read

    public long reads(int tray, int n) {
        int found = strikeRowStatus(tray, n);
        if (found != 0) {
            return refuses(found);
        }
        lastStatus = 0;
        return rows.waysAlong(now.covers, trays[tray], n);
    }

    public int isJust(int tray, int n) {
        int found = strikeRowStatus(tray, n);
        if (found != 0) {
            return refuses(found);
        }
        return gives(rows.isWhole(now.covers, trays[tray], n) ? 1 : 0);
    }

    public int copyDay(int tray) {
        int found = rowStatus(tray, now.covers.many);
        if (found != 0) {
            return refuses(found);
        }
        for (int k = 0; k < now.covers.many; k++) {
            trays[tray].put(k, now.covers.strike[k]);
        }
        return gives(now.covers.many);
    }

    public int spells(int tray, int n) {
        int found = strikeRowStatus(tray, n);
        if (found != 0) {
            return refuses(found);
        }
        return gives(rows.spell(now, trays[tray], n) ? 1 : 0);
    }

    public int spellAt(int tray, int n, int k, int what) {
        if (!within(k, 0, n - 1L) || !within(what, 0, 2)) {
            return refuses(STATUS_NUMBER);
        }
        int found = strikeRowStatus(tray, n);
        if (found != 0) {
            return refuses(found);
        }
        if (!rows.spell(now, trays[tray], n)) {
            return refuses(STATUS_NONE);
        }
        return gives(rows.spelled.tell(k, what));
    }

    public int split(int tray, int n, int below, int above) {
        int found = splitStatus(tray, n, below, above);
        if (found != 0) {
            return refuses(found);
        }
        rows.splitBy(trays[tray], n, below);
        return gives(rows.splits());
    }

    public int splitNext(int tray, int n, int below, int above) {
        int found = splitStatus(tray, n, below, above);
        if (found != 0) {
            return refuses(found);
        }
        rows.splitBy(trays[tray], n, below);
        return rows.splits() < 2 ? refuses(STATUS_NONE) : gives(rows.bestSplit());
    }

    public int lawsUsed() {
        int set = 0;
        for (int k = 0; k < now.covers.many; k++) {
            int law = now.firstFit(now.covers.from[k], now.covers.to[k],
                now.covers.weight[k], now.covers.hand[k]);
            if (law != NONE) {
                set |= 1 << law;
            }
        }
        return gives(Integer.bitCount(set));
    }

    // ---- games

    public int game(int turns) {
        if (!within(turns, 1, TURNS_MOST)) {
            return refuses(STATUS_NUMBER);
        }
        brothers.sit(now);
        return gives(brothers.outcome(turns));
    }

    public int gameFirst(int turns) {
        if (!within(turns, 1, TURNS_MOST)) {
            return refuses(STATUS_NUMBER);
        }
        brothers.sit(now);
        return givesIfAny(brothers.firstTaken(turns));
    }

    public int brother(int k) {
        if (!within(k, 0, now.waits.many - 1)) {
            return refuses(STATUS_NUMBER);
        }
        return givesIfAny(now.strikeBy(now.lastFit(now.waits.from[k], now.waits.to[k],
            now.waits.weight[k], now.waits.hand[k])));
    }

    // ---- WEEKS

    public int live(int seed) {
        if (!within(seed, 0, SEED_MOST)) {
            return refuses(STATUS_NUMBER);
        }
        if (!plan.there) {
            return refuses(STATUS_NONE);
        }
        life.run(now, plan, seed);
        livedRow[0] = life.missed;
        livedRow[1] = life.days;
        livedRow[2] = life.covers;
        livedRow[3] = life.posted;
        livedRow[4] = life.left;
        return gives(life.steps);
    }

    public int lived(int what) {
        if (!within(what, 0, LIVED_FIELDS - 1)) {
            return refuses(STATUS_NUMBER);
        }
        return livedRow[0] == NONE ? refuses(STATUS_NONE) : gives(livedRow[what]);
    }

    public boolean mean(int seed, int many) {
        if (!within(seed, 0, SEED_MOST) || !within(many, 1, SEEDS_MOST)
            || seed + many - 1 > SEED_MOST) {
            return ends(STATUS_NUMBER);
        }
        if (!plan.there) {
            return ends(STATUS_NONE);
        }
        long sum = 0;
        for (int k = 0; k < many; k++) {
            spare.copyFrom(now);
            life.run(spare, plan, seed + k);
            sum += spare.worthOfAll();
        }
        setFraction(sum, many);
        return ends(0);
    }

    // ---- MARKS

    public int mark() {
        if (marks >= MARKS_MOST) {
            return refuses(STATUS_MANY);
        }
        markedValleys[marks].copyFrom(now);
        markedPlans[marks].copyFrom(plan);
        marks++;
        return gives(marks);
    }

    public int undo() {
        if (marks <= 0) {
            return refuses(STATUS_NONE);
        }
        marks--;
        now.copyFrom(markedValleys[marks]);
        plan.copyFrom(markedPlans[marks]);
        return gives(marks);
    }

    // ---- how calls end

    private int gives(int value) {
        lastStatus = 0;
        return value;
    }

    private int givesIfAny(int value) {
        return value == NONE ? refuses(STATUS_NONE) : gives(value);
    }

    private int refuses(int with) {
        lastStatus = with;
        return NONE;
    }

    private boolean ends(int with) {
        lastStatus = with;
        return with == 0;
    }

    private void setFraction(long top, long bottom) {
        long divisor = Math.max(1L, commonDivisor(top, bottom));
        fractionTop = top / divisor;
        fractionBottom = bottom / divisor;
    }

    /** Of a number from 0 on and one above 0, so that it is above 0. */
    private static long commonDivisor(long a, long b) {
        long rest = a;
        long divisor = b < 1 ? 1 : b;
        for (int round = 0; round < 100 && rest > 0; round++) {
            long next = divisor % rest;
            divisor = rest;
            rest = next;
        }
        return divisor;
    }

    // ---- what arguments can be

    private static boolean within(long value, long least, long most) {
        return value >= least && value <= most;
    }

    private static boolean isTray(int tray) {
        return within(tray, 0, TRAYS_MOST - 1);
    }

    private boolean isWay(int from, int to, int weight, int strike) {
        return now.isPerson(from) && now.isPerson(to) && from != to
            && within(weight, 1, WEIGHT_MOST) && now.isStrike(strike);
    }

    private int placeStatus(int tray, int place) {
        if (!isTray(tray)) {
            return STATUS_NUMBER;
        }
        if (!trays[tray].there) {
            return STATUS_MISSING;
        }
        return within(place, 0, trays[tray].many - 1) ? 0 : STATUS_SHORT;
    }

    private int rowStatus(int tray, int many) {
        if (!isTray(tray)) {
            return STATUS_NUMBER;
        }
        if (!trays[tray].there) {
            return STATUS_MISSING;
        }
        return many > trays[tray].many ? STATUS_SHORT : 0;
    }

    private int strikeRowStatus(int tray, int n) {
        if (!within(n, 1, LETTERS_MOST)) {
            return STATUS_NUMBER;
        }
        int found = rowStatus(tray, n);
        if (found != 0) {
            return found;
        }
        for (int k = 0; k < n; k++) {
            if (!now.isStrike(trays[tray].numbers[k])) {
                return STATUS_CONTENT;
            }
        }
        return 0;
    }

    private int splitStatus(int tray, int n, int below, int above) {
        if (!within(n, 0, SPLIT_COVERS) || !now.isStrike(below) || !now.isStrike(above)
            || below == above) {
            return STATUS_NUMBER;
        }
        int found = rowStatus(tray, 2 * n);
        if (found != 0) {
            return found;
        }
        long[] numbers = trays[tray].numbers;
        for (int k = 0; k < n; k++) {
            long strike = numbers[2 * k + 1];
            if (!within(numbers[2 * k], 1, WEIGHT_MOST) || strike != below && strike != above) {
                return STATUS_CONTENT;
            }
        }
        return 0;
    }

    // ---- what it is made of

    /** A row of numbers of one sort, perhaps MISSING. */
    private static final class Tray {
        boolean there;
        int sort;
        int many;
        final long[] numbers = new long[TRAY_LENGTH];

        void make(int newSort, int newMany) {
            there = true;
            sort = newSort;
            many = newMany;
            Arrays.fill(numbers, 0L);
        }

        void put(int place, long value) {
            numbers[place] = cut(value);
        }

        private long cut(long value) {
            switch (sort) {
                case 0: return (byte) value;
                case 1: return (short) value;
                case 2: return (int) value;
                default: return value;
            }
        }
    }

    /** LETTERS that WAIT (without a STRIKE), or COVERS. */
    private static final class Letters {
        int many;
        final int[] from = new int[LETTERS_MOST];
        final int[] to = new int[LETTERS_MOST];
        final int[] weight = new int[LETTERS_MOST];
        final int[] hand = new int[LETTERS_MOST];
        final int[] strike = new int[LETTERS_MOST];

        boolean isFull() {
            return many >= LETTERS_MOST;
        }

        void add(int newFrom, int newTo, int newWeight, int newHand, int newStrike) {
            if (many >= LETTERS_MOST) {
                return;
            }
            from[many] = newFrom;
            to[many] = newTo;
            weight[many] = newWeight;
            hand[many] = newHand;
            strike[many] = newStrike;
            many++;
        }

        void dropAt(int k) {
            for (int next = k + 1; next < many; next++) {
                from[next - 1] = from[next];
                to[next - 1] = to[next];
                weight[next - 1] = weight[next];
                hand[next - 1] = hand[next];
                strike[next - 1] = strike[next];
            }
            many--;
        }

        int tell(int k, int what) {
            switch (what) {
                case 0: return from[k];
                case 1: return to[k];
                case 2: return weight[k];
                case 3: return hand[k];
                default: return strike[k];
            }
        }

        void copyFrom(Letters other) {
            many = other.many;
            System.arraycopy(other.from, 0, from, 0, LETTERS_MOST);
            System.arraycopy(other.to, 0, to, 0, LETTERS_MOST);
            System.arraycopy(other.weight, 0, weight, 0, LETTERS_MOST);
            System.arraycopy(other.hand, 0, hand, 0, LETTERS_MOST);
            System.arraycopy(other.strike, 0, strike, 0, LETTERS_MOST);
        }
    }

    /** The VALLEY with all that became of it. */
    private static final class Valley {
        int strikes;
        int hands;
        int persons;
        int laws;
        int odds = ODDS_UNTOLD;
        int date;
        boolean drunk;
        int allCovers;
        int plainCovers;
        final int[] worthOf = new int[STRIKES_MOST];
        final int[] struckSoFar = new int[STRIKES_MOST];
        final int[] handOf = new int[PERSONS_MOST];
        /** LAW by LAW as law() tells them; NONE is not told. */
        final int[] lawRow = new int[LAWS_MOST * LAW_FIELDS];
        /** By PERSON and STRIKE; NONE is nothing. */
        final int[] actsTo = new int[COUPLES];
        final int[] actsWeight = new int[COUPLES];
        final Letters waits = new Letters();
        final Letters covers = new Letters();
        /** By kind and number. */
        final long[] names = new long[KINDS * NAMES_A_KIND];

        void clear() {
            strikes = 0;
            hands = 0;
            persons = 0;
            laws = 0;
            odds = ODDS_UNTOLD;
            date = 0;
            drunk = false;
            allCovers = 0;
            plainCovers = 0;
            Arrays.fill(struckSoFar, 0);
            Arrays.fill(actsTo, NONE);
            Arrays.fill(actsWeight, NONE);
            waits.many = 0;
            covers.many = 0;
        }

        void copyFrom(Valley other) {
            strikes = other.strikes;
            hands = other.hands;
            persons = other.persons;
            laws = other.laws;
            odds = other.odds;
            date = other.date;
            drunk = other.drunk;
            allCovers = other.allCovers;
            plainCovers = other.plainCovers;
            System.arraycopy(other.worthOf, 0, worthOf, 0, STRIKES_MOST);
            System.arraycopy(other.struckSoFar, 0, struckSoFar, 0, STRIKES_MOST);
            System.arraycopy(other.handOf, 0, handOf, 0, PERSONS_MOST);
            System.arraycopy(other.lawRow, 0, lawRow, 0, LAWS_MOST * LAW_FIELDS);
            System.arraycopy(other.actsTo, 0, actsTo, 0, COUPLES);
            System.arraycopy(other.actsWeight, 0, actsWeight, 0, COUPLES);
            waits.copyFrom(other.waits);
            covers.copyFrom(other.covers);
            System.arraycopy(other.names, 0, names, 0, KINDS * NAMES_A_KIND);
        }

        boolean isStrike(long number) {
            return number >= 0 && number < strikes;
        }

        boolean isHand(int number) {
            return number >= 0 && number < hands;
        }

        boolean isPerson(int number) {
            return number >= 0 && number < persons;
        }

        boolean isCouple(int person, int strike) {
            return isPerson(person) && isStrike(strike);
        }

        boolean isLetter(int from, int to, int weight, int hand) {
            return isPerson(from) && isPerson(to) && from != to
                && within(weight, 1, WEIGHT_MOST) && isHand(hand);
        }

        int manyOf(int kind) {
            switch (kind) {
                case KIND_STRIKE: return strikes;
                case KIND_HAND: return hands;
                default: return persons;
            }
        }

        int numberOf(int kind, long name) {
            for (int number = 0; number < manyOf(kind); number++) {
                if (names[kind * NAMES_A_KIND + number] == name) {
                    return number;
                }
            }
            return NONE;
        }

        boolean isTaken(long name) {
            return numberOf(KIND_STRIKE, name) != NONE || numberOf(KIND_HAND, name) != NONE
                || numberOf(KIND_PERSON, name) != NONE;
        }

        void setActs(int person, int strike, int to, int weight) {
            actsTo[person * STRIKES_MOST + strike] = to;
            actsWeight[person * STRIKES_MOST + strike] = weight;
        }

        void swapLaws(int one, int other) {
            for (int what = 0; what < LAW_FIELDS; what++) {
                int kept = lawRow[one * LAW_FIELDS + what];
                lawRow[one * LAW_FIELDS + what] = lawRow[other * LAW_FIELDS + what];
                lawRow[other * LAW_FIELDS + what] = kept;
            }
        }

        boolean fits(int law, int from, int to, int weight, int hand) {
            int at = law * LAW_FIELDS;
            int under = lawRow[at + 1];
            int over = lawRow[at + 2];
            int writtenBy = lawRow[at + 3];
            int sender = lawRow[at + 4];
            int receiver = lawRow[at + 5];
            return (under == NONE || weight < under) && (over == NONE || weight > over)
                && (writtenBy == NONE || writtenBy == hand) && (sender == NONE || sender == from)
                && (receiver == NONE || receiver == to);
        }

        int firstFit(int from, int to, int weight, int hand) {
            for (int law = 0; law < laws; law++) {
                if (fits(law, from, to, weight, hand)) {
                    return law;
                }
            }
            return NONE;
        }

        int lastFit(int from, int to, int weight, int hand) {
            for (int law = laws - 1; law >= 0; law--) {
                if (fits(law, from, to, weight, hand)) {
                    return law;
                }
            }
            return NONE;
        }

        int strikeBy(int law) {
            return law == NONE ? NONE : lawRow[law * LAW_FIELDS];
        }

        int soberStrike(int from, int to, int weight, int hand) {
            return strikeBy(firstFit(from, to, weight, hand));
        }

        int strikeBehind(int strike) {
            if (strike == NONE) {
                return NONE;
            }
            return strike + 1 < strikes ? strike + 1 : 0;
        }

        int worthBy(int law) {
            int strike = strikeBy(law);
            return strike == NONE ? 0 : worthOf[strike];
        }

        int worthOfAll() {
            int sum = 0;
            for (int strike = 0; strike < strikes; strike++) {
                sum += struckSoFar[strike] * worthOf[strike];
            }
            return sum;
        }

        /** The least WEIGHT, not below a told one, that is struck so. */
        int lightest(int from, int to, int least, int hand, int strike) {
            for (int weight = least; weight <= WEIGHT_MOST; weight++) {
                if (soberStrike(from, to, weight, hand) == strike) {
                    return weight;
                }
            }
            return NONE;
        }

        int heaviest(int from, int to, int hand, int strike) {
            for (int weight = WEIGHT_MOST; weight >= 1; weight--) {
                if (soberStrike(from, to, weight, hand) == strike) {
                    return weight;
                }
            }
            return NONE;
        }

        /** The set of LAWS that are first for some LETTER between the two. */
        int lawsFirstBetween(int from, int to) {
            int set = 0;
            for (int hand = 0; hand < hands; hand++) {
                for (int weight = 1; weight <= WEIGHT_MOST; weight++) {
                    int law = firstFit(from, to, weight, hand);
                    if (law != NONE) {
                        set |= 1 << law;
                    }
                }
            }
            return set;
        }

        boolean hasDays(int many) {
            return date + many <= DATE_MOST;
        }

        /** So many DAYS go by: how many COVERS were brought. */
        int goDays(int many) {
            int before = allCovers;
            for (int k = 0; k < many; k++) {
                covers.many = 0;
                for (int person = 0; person < persons; person++) {
                    bringTo(person);
                }
                waits.many = 0;
                answerAll();
                date++;
            }
            return allCovers - before;
        }

        private void bringTo(int person) {
            for (int k = 0; k < waits.many; k++) {
                if (waits.to[k] == person) {
                    int sober = strikeBy(firstFit(waits.from[k], person,
                        waits.weight[k], waits.hand[k]));
                    int strike = drunk ? strikeBehind(sober) : sober;
                    covers.add(waits.from[k], person, waits.weight[k], waits.hand[k], strike);
                    count(strike);
                }
            }
        }

        private void count(int strike) {
            allCovers++;
            if (strike == NONE) {
                plainCovers++;
            } else {
                struckSoFar[strike]++;
            }
        }

        private void answerAll() {
            for (int k = 0; k < covers.many; k++) {
                if (covers.strike[k] != NONE) {
                    answer(covers.to[k], covers.strike[k]);
                }
            }
        }

        private void answer(int person, int strike) {
            int couple = person * STRIKES_MOST + strike;
            if (actsTo[couple] != NONE) {
                waits.add(person, actsTo[couple], actsWeight[couple], handOf[person], NONE);
            }
        }
    }

    /** WEEKS as they are lived: STEPS and ends, each with up to three numbers. */
    private static final class Plan {
        boolean there;
        int steps;
        int many;
        final int[] what = new int[2 * STEPS_MOST];
        final int[] a = new int[2 * STEPS_MOST];
        final int[] b = new int[2 * STEPS_MOST];
        /** The WEIGHT of a post; of a when, a loop its end; of an end its beginning. */
        final int[] c = new int[2 * STEPS_MOST];

        void clear() {
            there = false;
            steps = 0;
            many = 0;
        }

        /** There are at most 30 STEPS and an end for each. */
        void add(int newWhat, int newA, int newB, int newC) {
            if (many >= 2 * STEPS_MOST) {
                return;
            }
            what[many] = newWhat;
            a[many] = newA;
            b[many] = newB;
            c[many] = newC;
            many++;
        }

        void copyFrom(Plan other) {
            there = other.there;
            steps = other.steps;
            many = other.many;
            System.arraycopy(other.what, 0, what, 0, 2 * STEPS_MOST);
            System.arraycopy(other.a, 0, a, 0, 2 * STEPS_MOST);
            System.arraycopy(other.b, 0, b, 0, 2 * STEPS_MOST);
            System.arraycopy(other.c, 0, c, 0, 2 * STEPS_MOST);
        }
    }

    /** The tape, its TOKENS one by one, and the FAULT that was found. */
    private static final class Reader {
        final byte[] tape = new byte[TAPE_LENGTH];
        int taped;
        int fault = NONE;
        int faultPlace = NONE;
        private int length;
        private int at;
        private int place;
        int token;
        /** The KEYWORD's number, NONE for other WORDS and TOKENS. */
        int keyword;
        /** A WORD of up to 8 letters, 5 bits each; NONE for longer ones. */
        long word;
        private int number;
        int sign;

        boolean hasSpace() {
            return taped + 20 <= TAPE_LENGTH;
        }

        void append(int four) {
            for (int shift = 24; shift >= 0; shift -= 8) {
                if (taped < TAPE_LENGTH) {
                    tape[taped] = (byte) (four >> shift);
                    taped++;
                }
            }
        }

        /** The first n bytes are read now; the tape is empty for what comes. */
        void begin(int n) {
            length = Math.min(n, taped);
            taped = 0;
            at = 0;
            fault = 0;
            faultPlace = NONE;
            next();
        }

        void next() {
            while (at < length && (tape[at] == 10 || tape[at] == 32)) {
                at++;
            }
            place = at;
            keyword = NONE;
            if (at >= length) {
                token = TOKEN_END;
            } else if (tape[at] >= 'a' && tape[at] <= 'z') {
                readWord();
            } else if (tape[at] >= '0' && tape[at] <= '9') {
                readNumber();
            } else if (isSign(tape[at])) {
                token = TOKEN_SIGN;
                sign = tape[at];
                at++;
            } else {
                token = TOKEN_BAD;
            }
        }

        private static boolean isSign(int c) {
            return c == ';' || c == '<' || c == '>' || c == '=';
        }

        private void readWord() {
            token = TOKEN_WORD;
            word = 0;
            while (at < length && tape[at] >= 'a' && tape[at] <= 'z') {
                word = at - place < NAME_LENGTH ? word * 32 + (tape[at] - 96) : NONE;
                at++;
            }
            long candidate = 0;
            int which = 0;
            for (int k = 0; k < KEYWORDS.length(); k++) {
                char c = KEYWORDS.charAt(k);
                if (c != ' ') {
                    candidate = candidate * 32 + (c - 96);
                } else {
                    if (candidate == word) {
                        keyword = which;
                    }
                    which++;
                    candidate = 0;
                }
            }
        }

        private void readNumber() {
            token = TOKEN_NUMBER;
            number = 0;
            while (at < length && tape[at] >= '0' && tape[at] <= '9') {
                if (at - place < 4) {
                    number = number * 10 + (tape[at] - '0');
                } else {
                    token = TOKEN_BAD;
                }
                at++;
            }
        }

        /** A FAULT at this TOKEN; what is no TOKEN at all is that before all else. */
        boolean fail(int kind) {
            fault = token == TOKEN_BAD ? FAULT_TOKEN : kind;
            faultPlace = place;
            return false;
        }

        boolean wantWord(int asked) {
            if (keyword != asked) {
                return fail(FAULT_STAND);
            }
            next();
            return true;
        }

        boolean wantClose() {
            if (token != TOKEN_SIGN || sign != ';') {
                return fail(FAULT_STAND);
            }
            next();
            return true;
        }

        /** NONE with a FAULT. */
        int wantNumber(int least, int most) {
            if (token != TOKEN_NUMBER || number < least || number > most) {
                fail(token == TOKEN_NUMBER ? FAULT_NUMBER : FAULT_STAND);
                return NONE;
            }
            int found = number;
            next();
            return found;
        }

        boolean isName() {
            return token == TOKEN_WORD && keyword == NONE && word != NONE;
        }

        /** The number of what is named here, but for one that may not be; NONE with a FAULT. */
        int wantKnown(Valley valley, int kind, int but) {
            if (!isName()) {
                fail(FAULT_STAND);
                return NONE;
            }
            int found = valley.numberOf(kind, word);
            if (found == NONE) {
                fail(FAULT_NAME);
                return NONE;
            }
            if (found == but) {
                fail(FAULT_TWICE);
                return NONE;
            }
            next();
            return found;
        }
    }

    /** The text of a VALLEY comes to a draft. */
    private static final class ValleyText {
        private final Reader reader;
        private final Valley draft;
        private boolean oddsTold;

        ValleyText(Reader reader, Valley draft) {
            this.reader = reader;
            this.draft = draft;
        }

        boolean accept(int n) {
            reader.begin(n);
            draft.clear();
            oddsTold = false;
            boolean fine = true;
            for (int k = 0; k <= TAPE_LENGTH && fine && reader.token != TOKEN_END; k++) {
                switch (reader.keyword) {
                    case WORD_STRIKE: fine = takeStrike(); break;
                    case WORD_HAND: fine = takeHand(); break;
                    case WORD_PERSON: fine = takePerson(); break;
                    case WORD_LAW: fine = takeLaw(); break;
                    case WORD_ACTS: fine = takeActs(); break;
                    case WORD_LETTER: fine = takeLetter(); break;
                    case WORD_ODDS: fine = takeOdds(); break;
                    default: fine = reader.fail(FAULT_STAND); break;
                }
            }
            return fine;
        }

        /** A NAME that nothing has yet. */
        private boolean wantNew(int kind) {
            if (!reader.isName()) {
                return reader.fail(FAULT_STAND);
            }
            if (draft.isTaken(reader.word)) {
                return reader.fail(FAULT_NAME);
            }
            draft.names[kind * NAMES_A_KIND + draft.manyOf(kind)] = reader.word;
            reader.next();
            return true;
        }

        private boolean takeStrike() {
            if (draft.strikes >= STRIKES_MOST) {
                return reader.fail(FAULT_MANY);
            }
            reader.next();
            if (!wantNew(KIND_STRIKE)) {
                return false;
            }
            int worth = 1;
            if (reader.keyword == WORD_WORTH) {
                reader.next();
                worth = reader.wantNumber(0, WORTH_MOST);
                if (worth == NONE) {
                    return false;
                }
            }
            draft.worthOf[draft.strikes] = worth;
            draft.strikes++;
            return reader.wantClose();
        }

        private boolean takeHand() {
            if (draft.hands >= HANDS_MOST) {
                return reader.fail(FAULT_MANY);
            }
            reader.next();
            if (!wantNew(KIND_HAND)) {
                return false;
            }
            draft.hands++;
            return reader.wantClose();
        }

        private boolean takePerson() {
            if (draft.persons >= PERSONS_MOST) {
                return reader.fail(FAULT_MANY);
            }
            reader.next();
            if (!wantNew(KIND_PERSON) || !reader.wantWord(WORD_HAND)) {
                return false;
            }
            int hand = reader.wantKnown(draft, KIND_HAND, NONE);
            if (hand == NONE) {
                return false;
            }
            draft.handOf[draft.persons] = hand;
            draft.persons++;
            return reader.wantClose();
        }

        private boolean takeLaw() {
            if (draft.laws >= LAWS_MOST) {
                return reader.fail(FAULT_MANY);
            }
            reader.next();
            int strike = reader.wantKnown(draft, KIND_STRIKE, NONE);
            if (strike == NONE) {
                return false;
            }
            int at = draft.laws * LAW_FIELDS;
            draft.lawRow[at] = strike;
            if (!lawNumber(WORD_UNDER, at + 1, 1) || !lawNumber(WORD_OVER, at + 2, 0)
                || !lawName(WORD_BY, at + 3, KIND_HAND) || !lawName(WORD_FROM, at + 4, KIND_PERSON)
                || !lawName(WORD_TO, at + 5, KIND_PERSON)) {
                return false;
            }
            draft.laws++;
            return reader.wantClose();
        }

        private boolean lawNumber(int word, int at, int least) {
            draft.lawRow[at] = NONE;
            if (reader.keyword != word) {
                return true;
            }
            reader.next();
            draft.lawRow[at] = reader.wantNumber(least, WEIGHT_MOST);
            return draft.lawRow[at] != NONE;
        }

        private boolean lawName(int word, int at, int kind) {
            draft.lawRow[at] = NONE;
            if (reader.keyword != word) {
                return true;
            }
            reader.next();
            draft.lawRow[at] = reader.wantKnown(draft, kind, NONE);
            return draft.lawRow[at] != NONE;
        }

        private boolean takeActs() {
            reader.next();
            int person = reader.wantKnown(draft, KIND_PERSON, NONE);
            if (person == NONE || !reader.wantWord(WORD_ON)) {
                return false;
            }
            int strike = reader.wantKnown(draft, KIND_STRIKE, NONE);
            if (strike == NONE || !reader.wantWord(WORD_TO)) {
                return false;
            }
            int to = reader.wantKnown(draft, KIND_PERSON, person);
            if (to == NONE || !reader.wantWord(WORD_WEIGHT)) {
                return false;
            }
            int weight = reader.wantNumber(1, WEIGHT_MOST);
            if (weight == NONE) {
                return false;
            }
            draft.setActs(person, strike, to, weight);
            return reader.wantClose();
        }

        private boolean takeLetter() {
            if (draft.waits.isFull()) {
                return reader.fail(FAULT_MANY);
            }
            reader.next();
            int from = reader.wantKnown(draft, KIND_PERSON, NONE);
            if (from == NONE) {
                return false;
            }
            int to = reader.wantKnown(draft, KIND_PERSON, from);
            if (to == NONE || !reader.wantWord(WORD_WEIGHT)) {
                return false;
            }
            int weight = reader.wantNumber(1, WEIGHT_MOST);
            if (weight == NONE) {
                return false;
            }
            int hand = draft.handOf[from];
            if (reader.keyword == WORD_BY) {
                reader.next();
                hand = reader.wantKnown(draft, KIND_HAND, NONE);
                if (hand == NONE) {
                    return false;
                }
            }
            draft.waits.add(from, to, weight, hand, NONE);
            return reader.wantClose();
        }

        private boolean takeOdds() {
            if (oddsTold) {
                return reader.fail(FAULT_TWICE);
            }
            oddsTold = true;
            reader.next();
            int odds = reader.wantNumber(0, ODDS_MOST);
            if (odds == NONE) {
                return false;
            }
            draft.odds = odds;
            return reader.wantClose();
        }
    }

    /** The text of WEEKS comes to a draft, by the NAMES of the VALLEY that is there. */
    private static final class WeeksText {
        private final Reader reader;
        private final Valley valley;
        private final Plan draft;
        private final int[] open = new int[DEPTH_MOST];
        private int depth;

        WeeksText(Reader reader, Valley valley, Plan draft) {
            this.reader = reader;
            this.valley = valley;
            this.draft = draft;
        }

        boolean accept(int n) {
            reader.begin(n);
            draft.clear();
            draft.there = true;
            depth = 0;
            boolean fine = true;
            for (int k = 0; k <= WEEKS_LENGTH && fine && reader.token != TOKEN_END; k++) {
                int word = reader.keyword;
                fine = word == WORD_END ? takeEnd()
                    : beginStep(word) && takeRest(word) && reader.wantClose();
            }
            if (fine && depth > 0) {
                fine = reader.fail(FAULT_STAND);
            }
            return fine;
        }

        private boolean takeEnd() {
            if (depth <= 0) {
                return reader.fail(FAULT_STAND);
            }
            depth--;
            draft.c[open[depth]] = draft.many;
            draft.add(WORD_END, 0, 0, open[depth]);
            reader.next();
            return reader.wantClose();
        }

        private static boolean begins(int word) {
            return word == WORD_DAY || word == WORD_POST || word == WORD_DRINK
                || word == WORD_SOBER || word == WORD_ANY || word == WORD_WHEN
                || word == WORD_LOOP || word == WORD_STOP;
        }

        private boolean beginStep(int word) {
            boolean opens = word == WORD_WHEN || word == WORD_LOOP;
            if (!begins(word)) {
                return reader.fail(FAULT_STAND);
            }
            if (draft.steps >= STEPS_MOST) {
                return reader.fail(FAULT_MANY);
            }
            if (opens && depth >= DEPTH_MOST) {
                return reader.fail(FAULT_DEEP);
            }
            if (opens) {
                open[depth] = draft.many;
                depth++;
            }
            draft.steps++;
            reader.next();
            return true;
        }

        private boolean takeRest(int word) {
            switch (word) {
                case WORD_DAY: return takeNumber(word, DAYS_A_STEP);
                case WORD_LOOP: return takeNumber(word, LOOPS_MOST);
                case WORD_POST: return takePost();
                case WORD_WHEN: return takeTest();
                default:
                    draft.add(word, 0, 0, 0);
                    return true;
            }
        }

        private boolean takeNumber(int word, int most) {
            int number = reader.wantNumber(1, most);
            draft.add(word, number, 0, 0);
            return number != NONE;
        }

        private boolean takePost() {
            int from = reader.wantKnown(valley, KIND_PERSON, NONE);
            if (from == NONE) {
                return false;
            }
            int to = reader.wantKnown(valley, KIND_PERSON, from);
            if (to == NONE) {
                return false;
            }
            int weight = reader.wantNumber(1, WEIGHT_MOST);
            draft.add(WORD_POST, from, to, weight);
            return weight != NONE;
        }

        /** Of a when, a is WORD_STRUCK, WORD_DRUNK or the sign that compares. */
        private boolean takeTest() {
            int test = reader.keyword;
            int number = 0;
            if (test != WORD_STRUCK && test != WORD_WAITS && test != WORD_DRUNK) {
                return reader.fail(FAULT_STAND);
            }
            reader.next();
            if (test == WORD_STRUCK) {
                number = reader.wantKnown(valley, KIND_STRIKE, NONE);
            }
            if (test == WORD_WAITS) {
                if (reader.token != TOKEN_SIGN || reader.sign == ';') {
                    return reader.fail(FAULT_STAND);
                }
                test = reader.sign;
                reader.next();
                number = reader.wantNumber(0, WAITS_MOST);
            }
            draft.add(WORD_WHEN, test, number, 0);
            return number != NONE;
        }
    }

    /** WEEKS are lived, STEP by STEP. */
    private static final class Life {
        int missed;
        int days;
        int covers;
        int posted;
        int left;
        int steps;
        private int state;
        /** How often a loop is still to be done. */
        private final int[] times = new int[2 * STEPS_MOST];

        void run(Valley valley, Plan plan, int seed) {
            missed = 0;
            days = 0;
            covers = 0;
            posted = 0;
            left = 0;
            steps = 0;
            state = seed;
            int at = 0;
            for (int beat = 0; beat < 1000000 && at < plan.many; beat++) {
                if (plan.what[at] == WORD_END) {
                    at = behindEnd(plan, at);
                } else if (steps >= STEPS_LIVED) {
                    left = 1;
                    at = plan.many;
                } else {
                    steps++;
                    at = behindStep(valley, plan, at);
                }
            }
        }

        private int behindEnd(Plan plan, int at) {
            int begin = plan.c[at];
            if (plan.what[begin] == WORD_LOOP) {
                times[begin]--;
                if (times[begin] > 0) {
                    return begin + 1;
                }
            }
            return at + 1;
        }

        private int behindStep(Valley valley, Plan plan, int at) {
            switch (plan.what[at]) {
                case WORD_DAY:
                    if (valley.hasDays(plan.a[at])) {
                        days += plan.a[at];
                        covers += valley.goDays(plan.a[at]);
                    } else {
                        missed++;
                    }
                    return at + 1;
                case WORD_POST:
                    postOne(valley, plan.a[at], plan.b[at], plan.c[at]);
                    return at + 1;
                case WORD_DRINK:
                    become(valley, true);
                    return at + 1;
                case WORD_SOBER:
                    become(valley, false);
                    return at + 1;
                case WORD_ANY:
                    valley.drunk = drawSixteenths() < valley.odds;
                    return at + 1;
                case WORD_WHEN:
                    return holds(valley, plan.a[at], plan.b[at]) ? at + 1 : plan.c[at] + 1;
                case WORD_LOOP:
                    times[at] = plan.a[at];
                    return at + 1;
                default:
                    return plan.many;
            }
        }

        private void postOne(Valley valley, int from, int to, int weight) {
            if (valley.waits.isFull()) {
                missed++;
            } else {
                valley.waits.add(from, to, weight, valley.handOf[from], NONE);
                posted++;
            }
        }

        private void become(Valley valley, boolean drunk) {
            if (valley.drunk == drunk) {
                missed++;
            } else {
                valley.drunk = drunk;
            }
        }

        private int drawSixteenths() {
            state = (state * 3041 + 11261) % 65536;
            return state / 8 % ODDS_MOST;
        }

        private static boolean holds(Valley valley, int test, int number) {
            switch (test) {
                case WORD_STRUCK: return hasStruck(valley.covers, number);
                case WORD_DRUNK: return valley.drunk;
                case '<': return valley.waits.many < number;
                case '>': return valley.waits.many > number;
                default: return valley.waits.many == number;
            }
        }

        private static boolean hasStruck(Letters covers, int strike) {
            for (int k = 0; k < covers.many; k++) {
                if (covers.strike[k] == strike) {
                    return true;
                }
            }
            return false;
        }
    }

    /** Where LETTERS lead: from PERSON to PERSON, and from answer to answer. */
    private static final class Trails {
        /** The fewest LETTERS from each PERSON; NONE is never. */
        final int[] ways = new int[PERSONS_MOST];
        int posted;
        /** How many are in the ring, 0 without one; at which one it begins. */
        int ring;
        int ringStart;
        private final int[] seen = new int[COUPLES];

        /** Found from the last LETTER back; who posts twice on a way could have it shorter. */
        void findWays(Valley valley, int to, int weight, int strike) {
            Arrays.fill(ways, NONE);
            for (int person = 0; person < valley.persons; person++) {
                if (person != to && struckBetween(valley, person, to, weight) == strike) {
                    ways[person] = 1;
                }
            }
            for (int many = 2; many <= valley.persons; many++) {
                for (int person = 0; person < valley.persons; person++) {
                    if (ways[person] == NONE && nextOnWay(valley, person, weight, many) != NONE) {
                        ways[person] = many;
                    }
                }
            }
        }

        int firstOnWay(Valley valley, int from, int to, int weight) {
            if (ways[from] == NONE) {
                return NONE;
            }
            return ways[from] == 1 ? to : nextOnWay(valley, from, weight, ways[from]);
        }

        /** The first PERSON to whom to post when there are so many LETTERS to go. */
        private int nextOnWay(Valley valley, int from, int weight, int many) {
            for (int next = 0; next < valley.persons; next++) {
                if (next != from && ways[next] == many - 1
                    && struckBetween(valley, from, next, weight) != NONE) {
                    return next;
                }
            }
            return NONE;
        }

        private static int struckBetween(Valley valley, int from, int to, int weight) {
            return valley.soberStrike(from, to, weight, valley.handOf[from]);
        }

        void follow(Valley valley, int person, int strike) {
            Arrays.fill(seen, NONE);
            posted = 0;
            ring = 0;
            ringStart = NONE;
            int couple = person * STRIKES_MOST + strike;
            for (int k = 0; k <= COUPLES && couple != NONE && ring == 0; k++) {
                if (seen[couple] != NONE) {
                    ringStart = seen[couple];
                    ring = k - ringStart;
                } else {
                    seen[couple] = k;
                    couple = coupleBehind(valley, couple);
                }
            }
        }

        private int coupleBehind(Valley valley, int couple) {
            int to = valley.actsTo[couple];
            if (to == NONE) {
                return NONE;
            }
            posted++;
            int strike = struckBetween(valley, couple / STRIKES_MOST, to, valley.actsWeight[couple]);
            return strike == NONE ? NONE : to * STRIKES_MOST + strike;
        }
    }

    /** What is done by rows of numbers in TRAYS. */
    private static final class Rows {
        final Letters spelled = new Letters();
        private final long[] ways = new long[LETTERS_MOST + 1];
        private int leastSplit;
        private int mostSplit;

        long waysAlong(Letters covers, Tray tray, int n) {
            Arrays.fill(ways, 0L);
            ways[0] = 1;
            for (int k = 0; k < covers.many; k++) {
                for (int j = n; j >= 1; j--) {
                    if (tray.numbers[j - 1] == covers.strike[k]) {
                        ways[j] += ways[j - 1];
                    }
                }
            }
            return ways[n];
        }

        boolean isWhole(Letters covers, Tray tray, int n) {
            if (covers.many != n) {
                return false;
            }
            for (int k = 0; k < n; k++) {
                if (tray.numbers[k] != covers.strike[k]) {
                    return false;
                }
            }
            return true;
        }

        /** The least PERSON each time leaves the most to those behind. */
        boolean spell(Valley valley, Tray tray, int n) {
            spelled.many = 0;
            int least = 0;
            for (int k = 0; k < n; k++) {
                least = spellOne(valley, least, (int) tray.numbers[k]);
                if (least == NONE) {
                    return false;
                }
            }
            return true;
        }

        private int spellOne(Valley valley, int least, int strike) {
            for (int to = least; to < valley.persons; to++) {
                for (int from = 0; from < valley.persons; from++) {
                    int hand = valley.handOf[from];
                    int weight = from == to ? NONE : valley.lightest(from, to, 1, hand, strike);
                    if (weight != NONE) {
                        spelled.add(from, to, weight, hand, strike);
                        return to;
                    }
                }
            }
            return NONE;
        }

        /** The least and the greatest t that fit all covers. */
        void splitBy(Tray tray, int n, int below) {
            leastSplit = 1;
            mostSplit = WEIGHT_MOST + 1;
            for (int k = 0; k < n; k++) {
                int weight = (int) tray.numbers[2 * k];
                if (tray.numbers[2 * k + 1] == below) {
                    leastSplit = Math.max(leastSplit, weight + 1);
                } else {
                    mostSplit = Math.min(mostSplit, weight);
                }
            }
        }

        int splits() {
            return Math.max(0, mostSplit - leastSplit + 1);
        }

        int bestSplit() {
            int best = NONE;
            int fewest = WEIGHT_MOST + 2;
            for (int weight = 1; weight <= WEIGHT_MOST; weight++) {
                int upTo = Math.max(0, Math.min(weight, mostSplit) - leastSplit + 1);
                int worst = Math.max(upTo, splits() - upTo);
                if (worst < fewest) {
                    fewest = worst;
                    best = weight;
                }
            }
            return best;
        }
    }

    /** The two brothers and the LETTERS between them. */
    private static final class Brothers {
        private int many;
        private final int[] first = new int[LETTERS_MOST];
        private final int[] second = new int[LETTERS_MOST];

        void sit(Valley valley) {
            Letters waits = valley.waits;
            many = waits.many;
            for (int k = 0; k < many; k++) {
                first[k] = valley.worthBy(valley.firstFit(waits.from[k], waits.to[k],
                    waits.weight[k], waits.hand[k]));
                second[k] = valley.worthBy(valley.lastFit(waits.from[k], waits.to[k],
                    waits.weight[k], waits.hand[k]));
            }
        }

        int outcome(int turns) {
            return best(0, turns, 0);
        }

        int firstTaken(int turns) {
            int outcome = outcome(turns);
            for (int k = 0; k < many; k++) {
                if (takenThen(0, turns, 0, k) == outcome) {
                    return k;
                }
            }
            return NONE;
        }

        /** By what is taken already, a set; it goes as deep as there are turns, at most 3. */
        private int best(int turn, int turns, int taken) {
            if (turn >= turns || turn >= TURNS_MOST) {
                return 0;
            }
            int best = 0;
            boolean any = false;
            for (int k = 0; k < many; k++) {
                if ((taken >> k & 1) == 0) {
                    int value = takenThen(turn, turns, taken, k);
                    boolean better = turn % 2 == 0 ? value > best : value < best;
                    if (!any || better) {
                        best = value;
                        any = true;
                    }
                }
            }
            return best;
        }

        private int takenThen(int turn, int turns, int taken, int k) {
            int gain = turn % 2 == 0 ? first[k] : -second[k];
            return gain + best(turn + 1, turns, taken | 1 << k);
        }
    }
}
