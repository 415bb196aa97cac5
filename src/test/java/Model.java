import java.nio.charset.StandardCharsets;
import java.util.ArrayDeque;
import java.util.ArrayList;
import java.util.Arrays;
import java.util.Deque;
import java.util.HashMap;
import java.util.HashSet;
import java.util.List;
import java.util.Map;
import java.util.Set;
import java.util.function.IntPredicate;
import java.util.regex.Matcher;
import java.util.regex.Pattern;

/** The document a second time, in the plainest way and with the whole library, to be held against OddCancel. */
final class Model {
    private static final Set<String> RESERVED = new HashSet<>(Arrays.asList((
        "strike,worth,hand,person,law,under,over,by,from,to,acts,on,weight,letter,odds,day,post,"
        + "drink,sober,any,when,struck,waits,drunk,loop,end,stop").split(",")));

    record Letter(int from, int to, int weight, int hand) { }
    record Cover(Letter letter, int strike) { }
    record Law(int strike, Integer under, Integer over, Integer by, Integer from, Integer to) {
        boolean fits(Letter l) {
            return (under == null || l.weight < under) && (over == null || l.weight > over)
                && (by == null || l.hand == by) && (from == null || l.from == from) && (to == null || l.to == to);
        }
    }
    record Answer(int to, int weight) { }
    record Couple(int person, int strike) { }
    record Token(String text, int place, char kind) { }
    record Step(String word, int a, int b, int c, String test, List<Step> body) { }

    static final class Fault extends RuntimeException {
        private static final long serialVersionUID = 1L;
        final int kind;
        final int place;
        Fault(int kind, int place) { super(null, null, false, false); this.kind = kind; this.place = place; }
    }
    static final class Refused extends RuntimeException {
        private static final long serialVersionUID = 1L;
        final int status;
        Refused(int status) { super(null, null, false, false); this.status = status; }
    }
    static final class Halt extends RuntimeException {
        private static final long serialVersionUID = 1L;
        Halt() { super(null, null, false, false); }
    }

    static final class World {
        List<String> strikes = new ArrayList<>();
        List<Integer> worths = new ArrayList<>();
        List<String> hands = new ArrayList<>();
        List<String> persons = new ArrayList<>();
        List<Integer> handOf = new ArrayList<>();
        List<Law> laws = new ArrayList<>();
        Map<Couple, Answer> acts = new HashMap<>();
        List<Letter> waits = new ArrayList<>();
        List<Cover> covers = new ArrayList<>();
        List<Integer> history = new ArrayList<>();
        int odds = 4;
        int day;
        boolean drunk;

        World copy() {
            World w = new World();
            w.strikes = new ArrayList<>(strikes); w.worths = new ArrayList<>(worths); w.hands = new ArrayList<>(hands);
            w.persons = new ArrayList<>(persons); w.handOf = new ArrayList<>(handOf); w.laws = new ArrayList<>(laws);
            w.acts = new HashMap<>(acts); w.waits = new ArrayList<>(waits); w.covers = new ArrayList<>(covers);
            w.history = new ArrayList<>(history); w.odds = odds; w.day = day; w.drunk = drunk;
            return w;
        }
        int sober(Letter l) {
            for (Law law : laws) if (law.fits(l)) return law.strike;
            return -1;
        }
        int lastOn(Letter l) {
            int s = -1;
            for (Law law : laws) if (law.fits(l)) s = law.strike;
            return s;
        }
        int drunkOf(int s) { return s < 0 ? -1 : (s + 1) % strikes.size(); }
        int now(Letter l) { return drunk ? drunkOf(sober(l)) : sober(l); }
        int total() {
            int sum = 0;
            for (int s : history) if (s >= 0) sum += worths.get(s);
            return sum;
        }
        int passDay() {
            List<Letter> sorted = new ArrayList<>(waits);
            sorted.sort((x, y) -> Integer.compare(x.to, y.to));
            covers = new ArrayList<>();
            waits = new ArrayList<>();
            for (Letter l : sorted) { covers.add(new Cover(l, now(l))); history.add(now(l)); }
            for (Cover c : covers) {
                Answer a = acts.get(new Couple(c.letter.to, c.strike));
                if (a != null && waits.size() < 12) waits.add(new Letter(c.letter.to, a.to, a.weight, handOf.get(c.letter.to)));
            }
            day++;
            return covers.size();
        }
    }

    // ---- texts
    private static final class Text {
        final List<Token> tokens = new ArrayList<>();
        int at;
        Text(byte[] bytes) {
            String s = new String(bytes, StandardCharsets.ISO_8859_1);
            Matcher m = Pattern.compile("([a-z]+)|([0-9]+)|([;<>=])|[ \n]+|(?s:(.))").matcher(s);
            while (m.find()) {
                if (m.group(1) != null) tokens.add(new Token(m.group(), m.start(), 'w'));
                else if (m.group(2) != null) tokens.add(new Token(m.group(), m.start(), m.group().length() > 4 ? 'x' : 'n'));
                else if (m.group(3) != null) tokens.add(new Token(m.group(), m.start(), 's'));
                else if (m.group(4) != null) tokens.add(new Token(m.group(), m.start(), 'x'));
            }
            tokens.add(new Token("", bytes.length, 'e'));
        }
        Token peek() {
            Token t = tokens.get(at);
            if (t.kind == 'x') throw new Fault(1, t.place);
            return t;
        }
        boolean is(String text) { return peek().text.equals(text) && peek().kind != 'e'; }
        boolean skipIf(String text) {
            if (!is(text)) return false;
            at++;
            return true;
        }
        void want(String text) { if (!skipIf(text)) throw new Fault(2, peek().place); }
        Token name() {
            Token t = peek();
            if (t.kind != 'w' || t.text.length() > 8 || RESERVED.contains(t.text)) throw new Fault(2, t.place);
            at++;
            return t;
        }
        int known(List<String> among) {
            Token t = name();
            int k = among.indexOf(t.text);
            if (k < 0) throw new Fault(3, t.place);
            return k;
        }
        int other(List<String> among, int but) {
            int place = peek().place;
            int k = known(among);
            if (k == but) throw new Fault(5, place);
            return k;
        }
        int number(int least, int most) {
            Token t = peek();
            if (t.kind != 'n') throw new Fault(2, t.place);
            int v = Integer.parseInt(t.text);
            if (v < least || v > most) throw new Fault(4, t.place);
            at++;
            return v;
        }
    }

    private static World parseValley(byte[] bytes) {
        Text t = new Text(bytes);
        World w = new World();
        Set<String> taken = new HashSet<>();
        boolean odds = false;
        int letters = 0;
        while (t.peek().kind != 'e') {
            int place = t.peek().place;
            if (t.skipIf("strike")) {
                if (w.strikes.size() == 6) throw new Fault(6, place);
                fresh(t, taken, w.strikes);
                w.worths.add(t.skipIf("worth") ? t.number(0, 9) : 1);
            } else if (t.skipIf("hand")) {
                if (w.hands.size() == 4) throw new Fault(6, place);
                fresh(t, taken, w.hands);
            } else if (t.skipIf("person")) {
                if (w.persons.size() == 6) throw new Fault(6, place);
                fresh(t, taken, w.persons);
                t.want("hand");
                w.handOf.add(t.known(w.hands));
            } else if (t.skipIf("law")) {
                if (w.laws.size() == 8) throw new Fault(6, place);
                int s = t.known(w.strikes);
                Integer under = t.skipIf("under") ? Integer.valueOf(t.number(1, 99)) : null;
                Integer over = t.skipIf("over") ? Integer.valueOf(t.number(0, 99)) : null;
                Integer by = t.skipIf("by") ? Integer.valueOf(t.known(w.hands)) : null;
                Integer from = t.skipIf("from") ? Integer.valueOf(t.known(w.persons)) : null;
                Integer to = t.skipIf("to") ? Integer.valueOf(t.known(w.persons)) : null;
                w.laws.add(new Law(s, under, over, by, from, to));
            } else if (t.skipIf("acts")) {
                int p = t.known(w.persons);
                t.want("on");
                int s = t.known(w.strikes);
                t.want("to");
                int q = t.other(w.persons, p);
                t.want("weight");
                w.acts.put(new Couple(p, s), new Answer(q, t.number(1, 99)));
            } else if (t.skipIf("letter")) {
                if (letters++ == 12) throw new Fault(6, place);
                int p = t.known(w.persons);
                int q = t.other(w.persons, p);
                t.want("weight");
                int g = t.number(1, 99);
                w.waits.add(new Letter(p, q, g, t.skipIf("by") ? t.known(w.hands) : w.handOf.get(p)));
            } else if (t.skipIf("odds")) {
                if (odds) throw new Fault(5, place);
                odds = true;
                w.odds = t.number(0, 16);
            } else {
                throw new Fault(2, place);
            }
            t.want(";");
        }
        return w;
    }

    private static void fresh(Text t, Set<String> taken, List<String> names) {
        Token n = t.name();
        if (!taken.add(n.text)) throw new Fault(3, n.place);
        names.add(n.text);
    }

    private static int parsedSteps;

    private static List<Step> parseWeeks(byte[] bytes, World w) {
        Text t = new Text(bytes);
        parsedSteps = 0;
        List<Step> steps = steps(t, w, 0);
        if (t.peek().kind != 'e') throw new Fault(2, t.peek().place);
        return steps;
    }

    private static List<Step> steps(Text t, World w, int depth) {
        List<Step> steps = new ArrayList<>();
        while (t.peek().kind != 'e' && !t.is("end")) {
            Token first = t.peek();
            String word = first.text;
            if (!Arrays.asList("day", "post", "drink", "sober", "any", "when", "loop", "stop").contains(word)) throw new Fault(2, first.place);
            if (++parsedSteps > 30) throw new Fault(6, first.place);
            boolean opens = word.equals("when") || word.equals("loop");
            if (opens && depth == 3) throw new Fault(7, first.place);
            t.at++;
            int a = 0; int b = 0; int c = 0;
            String test = "";
            if (word.equals("day")) a = t.number(1, 20);
            if (word.equals("loop")) a = t.number(1, 99);
            if (word.equals("post")) { a = t.known(w.persons); b = t.other(w.persons, a); c = t.number(1, 99); }
            if (word.equals("when")) {
                if (t.skipIf("struck")) { test = "struck"; a = t.known(w.strikes); }
                else if (t.skipIf("drunk")) test = "drunk";
                else {
                    t.want("waits");
                    if (!t.is("<") && !t.is(">") && !t.is("=")) throw new Fault(2, t.peek().place);
                    test = t.peek().text;
                    t.at++;
                    a = t.number(0, 99);
                }
            }
            t.want(";");
            List<Step> body = List.of();
            if (opens) {
                body = steps(t, w, depth + 1);
                t.want("end");
                t.want(";");
            }
            steps.add(new Step(word, a, b, c, test, body));
        }
        return steps;
    }

    // ---- the object
    private int status;
    private long top;
    private long bottom = 1;
    private final long[][] trays = new long[4][];
    private final int[] sorts = new int[4];
    private final List<Byte> tape = new ArrayList<>();
    private World w = new World();
    private List<Step> weeks;
    private final Deque<Object[]> marks = new ArrayDeque<>();
    private int faultKind = -1;
    private int faultPlace = -1;
    private int[] lived;

    int status() { return status; }
    long top() { return top; }
    long bottom() { return bottom; }
    /** Called by the test: an answer, or NONE by a refusal. */
    void ended(int with) { status = with; }

    private static void need(boolean is, int status) { if (!is) throw new Refused(status); }
    private static boolean in(long v, long least, long most) { return v >= least && v <= most; }
    private void person(int p) { need(in(p, 0, w.persons.size() - 1), 1); }
    private void strike(int s) { need(in(s, 0, w.strikes.size() - 1), 1); }
    private void aHand(int h) { need(in(h, 0, w.hands.size() - 1), 1); }
    private void weight(int g) { need(in(g, 1, 99), 1); }
    private Letter letterOf(int from, int to, int g, int h) {
        person(from); person(to); need(from != to, 1); weight(g); aHand(h);
        return new Letter(from, to, g, h);
    }
    private static int some(int v) { need(v >= 0, 6); return v; }
    private void fraction(long t, long b) {
        long g = java.math.BigInteger.valueOf(t).gcd(java.math.BigInteger.valueOf(b)).longValue();
        top = t / g; bottom = b / g;
    }
    private long[] row(int tray, int many) {
        need(in(tray, 0, 3), 1); need(trays[tray] != null, 2); need(many <= trays[tray].length, 3);
        return trays[tray];
    }
    private long cut(int sort, long v) { int off = new int[] {56, 48, 32, 0}[sort]; return v << off >> off; }

    boolean tray(int tray, int sort, int many) {
        need(in(tray, 0, 3) && in(sort, 0, 3) && in(many, 0, 60), 1);
        trays[tray] = new long[many]; sorts[tray] = sort;
        return true;
    }
    boolean write(int tray, int place, long v) {
        row(tray, 0); need(in(place, 0, trays[tray].length - 1), 3);
        trays[tray][place] = cut(sorts[tray], v);
        return true;
    }
    long read(int tray, int place) {
        row(tray, 0); need(in(place, 0, trays[tray].length - 1), 3);
        return trays[tray][place];
    }
    boolean pour(int from, int place, int to, int at, int many) {
        need(in(from, 0, 3) && in(to, 0, 3) && place >= 0 && at >= 0 && many >= 0, 1);
        need(trays[from] != null && trays[to] != null, 2);
        need(sorts[from] == sorts[to], 8);
        need((long) place + many <= trays[from].length && (long) at + many <= trays[to].length, 3);
        long[] old = trays[from].clone();
        for (int k = 0; k < many; k++) trays[to][at + k] = old[place + k];
        return true;
    }
    int feed(int a, int b, int c, int d, int e) {
        if (tape.size() + 20 > 900) return -1;
        for (int v : new int[] {a, b, c, d, e}) for (int s = 24; s >= 0; s -= 8) tape.add((byte) (v >>> s));
        return tape.size();
    }
    private byte[] eat(int n) {
        byte[] b = new byte[n];
        for (int k = 0; k < n; k++) b[k] = tape.get(k);
        tape.clear();
        return b;
    }
    int valley(int n) {
        need(in(n, 0, tape.size()), 1);
        faultKind = 0; faultPlace = -1;
        try { w = parseValley(eat(n)); } catch (Fault f) { faultKind = f.kind; faultPlace = f.place; throw new Refused(9); }
        weeks = null;
        return w.laws.size();
    }
    int weeks(int n) {
        need(in(n, 0, Math.min(300, tape.size())), 1);
        faultKind = 0; faultPlace = -1;
        try { weeks = parseWeeks(eat(n), w); } catch (Fault f) { faultKind = f.kind; faultPlace = f.place; throw new Refused(9); }
        return parsedSteps;
    }
    int fault(int what) { return what == 0 ? faultKind : what == 1 ? faultPlace : -1; }
    int told(int what) {
        need(in(what, 0, 11), 1);
        int plain = 0;
        for (int s : w.history) if (s < 0) plain++;
        return new int[] {w.strikes.size(), w.hands.size(), w.persons.size(), w.laws.size(), w.waits.size(), w.covers.size(),
            w.odds, w.day, w.drunk ? 1 : 0, w.history.size(), plain, w.total()}[what];
    }
    int worth(int s) { strike(s); return w.worths.get(s); }
    int hand(int p) { person(p); return w.handOf.get(p); }
    int law(int k, int what) {
        need(in(k, 0, w.laws.size() - 1) && in(what, 0, 5), 1);
        Law l = w.laws.get(k);
        Integer v = new Integer[] {l.strike, l.under, l.over, l.by, l.from, l.to}[what];
        need(v != null, 6);
        return v;
    }
    int acts(int p, int s, int what) {
        person(p); strike(s); need(in(what, 0, 1), 1);
        Answer a = w.acts.get(new Couple(p, s));
        need(a != null, 6);
        return what == 0 ? a.to : a.weight;
    }
    private static int part(Letter l, int what) { return new int[] {l.from, l.to, l.weight, l.hand}[what]; }
    private Letter waiting(int k) { need(in(k, 0, w.waits.size() - 1), 1); return w.waits.get(k); }
    int letter(int k, int what) { waiting(k); need(in(what, 0, 3), 1); return part(waiting(k), what); }
    int cover(int k, int what) {
        need(in(k, 0, w.covers.size() - 1) && in(what, 0, 4), 1);
        Cover c = w.covers.get(k);
        return what < 4 ? part(c.letter, what) : some(c.strike);
    }
    int strikes(int s) {
        strike(s);
        int many = 0;
        for (int h : w.history) if (h == s) many++;
        return many;
    }
    int post(int from, int to, int g, int h) {
        Letter l = letterOf(from, to, g, h);
        need(w.waits.size() < 12, 4);
        w.waits.add(l);
        return w.waits.size();
    }
    int day(int many) {
        need(in(many, 1, 99), 1); need(w.day + many <= 9999, 4);
        int sum = 0;
        for (int k = 0; k < many; k++) sum += w.passDay();
        return sum;
    }
    boolean drink(boolean is) { need(w.drunk != is, 7); w.drunk = is; return true; }
    int take(int k) { waiting(k); w.waits.remove(k); return w.waits.size(); }
    int wrapped(int k, int more) {
        Letter l = waiting(k);
        need(in(more, 1, 98), 1); need(l.weight + more <= 99, 7);
        w.waits.set(k, new Letter(l.from, l.to, l.weight + more, l.hand));
        return l.weight + more;
    }
    boolean learn(int p, int h) { person(p); aHand(h); w.handOf.set(p, h); return true; }
    boolean teach(int p, int s, int to, int g) {
        person(p); strike(s); person(to); need(p != to, 1); weight(g);
        w.acts.put(new Couple(p, s), new Answer(to, g));
        return true;
    }
    boolean forget(int p, int s) { person(p); strike(s); need(w.acts.remove(new Couple(p, s)) != null, 7); return true; }
    boolean sway(int k) {
        need(in(k, 0, w.laws.size() - 2), 1);
        w.laws.add(k, w.laws.remove(k + 1));
        return true;
    }
    boolean pub(int odds) { need(in(odds, 0, 16), 1); w.odds = odds; return true; }

    int lawOf(int from, int to, int g, int h) {
        Letter l = letterOf(from, to, g, h);
        for (int k = 0; k < w.laws.size(); k++) if (w.laws.get(k).fits(l)) return k;
        throw new Refused(6);
    }
    int strikeOf(int from, int to, int g, int h) { return some(w.sober(letterOf(from, to, g, h))); }
    int struckNow(int from, int to, int g, int h) { return some(w.now(letterOf(from, to, g, h))); }
    int lawsOf(int from, int to, int g, int h) {
        Letter l = letterOf(from, to, g, h);
        int set = 0;
        for (int k = 0; k < w.laws.size(); k++) if (w.laws.get(k).fits(l)) set += 1 << k;
        return set;
    }
    boolean sure(int from, int to, int g, int h, int s) {
        Letter l = letterOf(from, to, g, h);
        strike(s);
        int hit = 0;
        for (int k = 0; k < 16; k++) if ((k < w.odds ? w.drunkOf(w.sober(l)) : w.sober(l)) == s) hit++;
        fraction(hit, 16);
        return true;
    }
    private List<Integer> heavy(int from, int to, int h, int s, IntPredicate is) {
        List<Integer> all = new ArrayList<>();
        for (int g = 1; g <= 99; g++) if (is.test(g) && w.sober(new Letter(from, to, g, h)) == s) all.add(g);
        return all;
    }
    int wrap(int from, int to, int g, int h, int s) {
        letterOf(from, to, g, h); strike(s);
        List<Integer> all = heavy(from, to, h, s, x -> x >= g);
        need(!all.isEmpty(), 6);
        return all.get(0) - g;
    }
    int weights(int from, int to, int h, int s) { letterOf(from, to, 1, h); strike(s); return heavy(from, to, h, s, x -> true).size(); }
    int weightAt(int from, int to, int h, int s, int what) {
        letterOf(from, to, 1, h); strike(s); need(in(what, 0, 1), 1);
        List<Integer> all = heavy(from, to, h, s, x -> true);
        need(!all.isEmpty(), 6);
        return what == 0 ? all.get(0) : all.get(all.size() - 1);
    }
    int could(int from, int to, int h) {
        letterOf(from, to, 1, h);
        int set = 0;
        for (int s = 0; s < w.strikes.size(); s++) if (weights(from, to, h, s) > 0) set += 1 << s;
        return set;
    }
    int idle() {
        Set<Integer> used = new HashSet<>();
        for (int p = 0; p < w.persons.size(); p++) for (int q = 0; q < w.persons.size(); q++) for (int h = 0; h < w.hands.size(); h++)
            for (int g = 1; g <= 99 && p != q; g++) {
                Letter l = new Letter(p, q, g, h);
                for (int k = 0; k < w.laws.size(); k++) if (w.laws.get(k).fits(l)) { used.add(k); break; }
            }
        int set = 0;
        for (int k = 0; k < w.laws.size(); k++) if (!used.contains(k)) set += 1 << k;
        return set;
    }
    /** All walks of just so many LETTERS, the first PERSON of each. */
    private boolean walk(int from, int to, int g, int s, int many) {
        for (int next = 0; next < w.persons.size(); next++) {
            if (next == from) continue;
            int struck = w.sober(new Letter(from, next, g, w.handOf.get(from)));
            if (many == 1 ? next == to && struck == s : struck >= 0 && walk(next, to, g, s, many - 1)) return true;
        }
        return false;
    }
    int via(int from, int to, int g, int s) {
        person(from); person(to); need(from != to, 1); weight(g); strike(s);
        for (int many = 1; many <= 7; many++) if (walk(from, to, g, s, many)) return many;
        throw new Refused(6);
    }
    int viaFirst(int from, int to, int g, int s) {
        int many = via(from, to, g, s);
        for (int next = 0; next < w.persons.size(); next++) {
            if (next == from) continue;
            int struck = w.sober(new Letter(from, next, g, w.handOf.get(from)));
            if (many == 1 ? next == to : struck >= 0 && walk(next, to, g, s, many - 1)) return next;
        }
        throw new IllegalStateException();
    }
    private Couple behind(Couple c) {
        Answer a = c == null ? null : w.acts.get(c);
        if (a == null) return null;
        int s = w.sober(new Letter(c.person, a.to, a.weight, w.handOf.get(c.person)));
        return s < 0 ? null : new Couple(a.to, s);
    }
    private Couple far(Couple c) { for (int k = 0; k < 100; k++) c = behind(c); return c; }
    int echo(int p, int s) {
        person(p); strike(s);
        need(far(new Couple(p, s)) == null, 7);
        int many = 0;
        for (Couple c = new Couple(p, s); c != null; c = behind(c)) if (w.acts.containsKey(c)) many++;
        return many;
    }
    int round(int p, int s) {
        person(p); strike(s);
        Couple c = far(new Couple(p, s));
        need(c != null, 6);
        int many = 1;
        for (Couple d = behind(c); !d.equals(c); d = behind(d)) many++;
        return many;
    }
    int rings() {
        int many = 0;
        for (int p = 0; p < w.persons.size(); p++) for (int s = 0; s < w.strikes.size(); s++) {
            Couple c = new Couple(p, s);
            Couple d = behind(c);
            for (int k = 0; k < 50 && d != null && !d.equals(c); k++) d = behind(d);
            if (c.equals(d)) many++;
        }
        return many;
    }
    int longest() {
        int best = -1;
        int most = -1;
        for (int p = 0; p < w.persons.size(); p++) for (int s = 0; s < w.strikes.size(); s++)
            if (far(new Couple(p, s)) == null && echo(p, s) > most) { most = echo(p, s); best = 10 * p + s; }
        return some(best);
    }

    private int[] strikeRow(int tray, int n) {
        need(in(n, 1, 12), 1);
        long[] r = row(tray, n);
        int[] s = new int[n];
        for (int k = 0; k < n; k++) { need(in(r[k], 0, w.strikes.size() - 1), 5); s[k] = (int) r[k]; }
        return s;
    }
    long reads(int tray, int n) {
        int[] s = strikeRow(tray, n);
        long ways = 0;
        for (int set = 0; set < 1 << w.covers.size(); set++) {
            if (Integer.bitCount(set) != n) continue;
            int at = 0;
            boolean fits = true;
            for (int k = 0; k < w.covers.size(); k++) if ((set >> k & 1) == 1) fits &= w.covers.get(k).strike == s[at++];
            if (fits) ways++;
        }
        return ways;
    }
    int isJust(int tray, int n) {
        int[] s = strikeRow(tray, n);
        List<Integer> is = new ArrayList<>();
        for (Cover c : w.covers) is.add(c.strike);
        List<Integer> asked = new ArrayList<>();
        for (int k : s) asked.add(k);
        return is.equals(asked) ? 1 : 0;
    }
    int copyDay(int tray) {
        long[] r = row(tray, w.covers.size());
        for (int k = 0; k < w.covers.size(); k++) r[k] = w.covers.get(k).strike;
        return w.covers.size();
    }
    private List<Letter> spelling(int[] s, int k, int least) {
        if (k == s.length) return new ArrayList<>();
        for (int to = least; to < w.persons.size(); to++) for (int from = 0; from < w.persons.size(); from++) for (int g = 1; g <= 99; g++) {
            Letter l = new Letter(from, to, g, w.handOf.get(from));
            if (from == to || w.sober(l) != s[k]) continue;
            List<Letter> rest = spelling(s, k + 1, to);
            if (rest == null) return null;
            rest.add(0, l);
            return rest;
        }
        return null;
    }
    int spells(int tray, int n) { return spelling(strikeRow(tray, n), 0, 0) == null ? 0 : 1; }
    int spellAt(int tray, int n, int k, int what) {
        need(in(k, 0, n - 1L) && in(what, 0, 2), 1);
        List<Letter> all = spelling(strikeRow(tray, n), 0, 0);
        need(all != null, 6);
        return part(all.get(k), what);
    }
    private List<Integer> splits(int tray, int n, int below, int above) {
        need(in(n, 0, 30), 1); strike(below); strike(above); need(below != above, 1);
        long[] r = row(tray, 2 * n);
        for (int k = 0; k < n; k++) need(in(r[2 * k], 1, 99) && (r[2 * k + 1] == below || r[2 * k + 1] == above), 5);
        List<Integer> all = new ArrayList<>();
        for (int t = 1; t <= 100; t++) {
            boolean fits = true;
            for (int k = 0; k < n; k++) fits &= (r[2 * k] < t ? below : above) == r[2 * k + 1];
            if (fits) all.add(t);
        }
        return all;
    }
    int split(int tray, int n, int below, int above) { return splits(tray, n, below, above).size(); }
    int splitNext(int tray, int n, int below, int above) {
        List<Integer> all = splits(tray, n, below, above);
        need(all.size() >= 2, 6);
        int best = -1;
        int fewest = 1000;
        for (int g = 1; g <= 99; g++) {
            int x = 0;
            for (int t : all) if (g < t) x++;
            int worst = Math.max(x, all.size() - x);
            if (worst < fewest) { fewest = worst; best = g; }
        }
        return best;
    }
    int lawsUsed() {
        Set<Integer> used = new HashSet<>();
        for (Cover c : w.covers) for (int k = 0; k < w.laws.size(); k++) if (w.laws.get(k).fits(c.letter)) { used.add(k); break; }
        return used.size();
    }

    private int worthOf(int s) { return s < 0 ? 0 : w.worths.get(s); }
    private int play(List<Letter> left, int turn, int turns) {
        if (turn == turns || left.isEmpty()) return 0;
        int best = turn % 2 == 0 ? -1000 : 1000;
        for (Letter l : left) {
            int v = playing(left, l, turn, turns);
            best = turn % 2 == 0 ? Math.max(best, v) : Math.min(best, v);
        }
        return best;
    }
    private int playing(List<Letter> left, Letter l, int turn, int turns) {
        List<Letter> rest = new ArrayList<>(left);
        rest.remove(l);
        return (turn % 2 == 0 ? worthOf(w.sober(l)) : -worthOf(w.lastOn(l))) + play(rest, turn + 1, turns);
    }
    int game(int turns) { need(in(turns, 1, 3), 1); return play(w.waits, 0, turns); }
    int gameFirst(int turns) {
        int best = game(turns);
        for (int k = 0; k < w.waits.size(); k++) if (playing(w.waits, w.waits.get(k), 0, turns) == best) return k;
        throw new Refused(6);
    }
    int brother(int k) { return some(w.lastOn(waiting(k))); }

    // ---- WEEKS
    private int done;
    private int draws;
    private int[] life;
    private void run(World v, int seed) {
        done = 0; draws = seed; life = new int[5];
        try { run(v, weeks); } catch (Halt h) { return; }
    }
    private void run(World v, List<Step> steps) {
        for (Step s : steps) {
            if (done == 300) { life[4] = 1; throw new Halt(); }
            done++;
            switch (s.word) {
                case "day" -> {
                    if (v.day + s.a > 9999) life[0]++;
                    else for (int k = 0; k < s.a; k++) { life[1]++; life[2] += v.passDay(); }
                }
                case "post" -> {
                    if (v.waits.size() == 12) life[0]++;
                    else { life[3]++; v.waits.add(new Letter(s.a, s.b, s.c, v.handOf.get(s.a))); }
                }
                case "drink" -> { if (v.drunk) life[0]++; v.drunk = true; }
                case "sober" -> { if (!v.drunk) life[0]++; v.drunk = false; }
                case "any" -> {
                    draws = (int) ((draws * 3041L + 11261L) % 65536L);
                    v.drunk = draws / 8 % 16 < v.odds;
                }
                case "when" -> {
                    boolean is = switch (s.test) {
                        case "struck" -> v.covers.stream().anyMatch(c -> c.strike == s.a);
                        case "drunk" -> v.drunk;
                        case "<" -> v.waits.size() < s.a;
                        case ">" -> v.waits.size() > s.a;
                        default -> v.waits.size() == s.a;
                    };
                    if (is) run(v, s.body);
                }
                case "loop" -> { for (int k = 0; k < s.a; k++) run(v, s.body); }
                default -> throw new Halt();
            }
        }
    }
    int live(int seed) {
        need(in(seed, 0, 9999), 1); need(weeks != null, 6);
        run(w, seed);
        lived = life;
        return done;
    }
    int lived(int what) { need(in(what, 0, 4), 1); need(lived != null, 6); return lived[what]; }
    boolean mean(int seed, int many) {
        need(in(seed, 0, 9999) && in(many, 1, 20) && in((long) seed + many - 1, 0, 9999), 1); need(weeks != null, 6);
        long sum = 0;
        for (int k = 0; k < many; k++) { World v = w.copy(); run(v, seed + k); sum += v.total(); }
        fraction(sum, many);
        return true;
    }
    int mark() { need(marks.size() < 3, 4); marks.push(new Object[] {w.copy(), weeks}); return marks.size(); }
    @SuppressWarnings("unchecked")
    int undo() {
        need(!marks.isEmpty(), 6);
        Object[] m = marks.pop();
        w = (World) m[0]; weeks = (List<Step>) m[1];
        return marks.size();
    }
}
