import java.lang.reflect.InvocationTargetException;
import java.lang.reflect.Method;
import java.nio.charset.StandardCharsets;
import java.util.ArrayList;
import java.util.Arrays;
import java.util.HashMap;
import java.util.List;
import java.util.Map;
import java.util.Random;

/** Runs of calls by chance, from fixed seeds, on OddCancel and on the Model: every answer, STATUS and FRACTION alike. */
public final class ModelTest {
    /** Each call with what its arguments are: see arg(). */
    private static final String CALLS =
        "tray:TO# write:Tiv read:Ti pour:TiTij told:k worth:S hand:P law:L6 acts:PS2 letter:K4 cover:C5 strikes:S "
        + "post:PPWH post:PPWH post:PPWH post:PPWH day:d drink:b day:d post:PPWH post:PPWH post:PPWH take:K wrapped:KW learn:PH teach:PSPW teach:PSPW forget:PS "
        + "sway:L pub:O lawOf:PPWH strikeOf:PPWH struckNow:PPWH lawsOf:PPWH sure:PPWHS wrap:PPWHS weights:PPHS "
        + "weightAt:PPHS2 could:PPH idle: via:PPWS viaFirst:PPWS echo:PS round:PS rings: longest: reads:Tn isJust:Tn copyDay:T "
        + "spells:Tn spellAt:Tnc3 spellAt:Tnc3 split:UnSS splitNext:UnSS lawsUsed: game:t gameFirst:t brother:K live:s lived:5 mean:sm "
        + "mark: undo: fault:o valley:n weeks:n";

    private final Random chance;
    private final Kit kit = new Kit();
    private OddCancel x;
    private Model m;
    private final StringBuilder log = new StringBuilder();
    private boolean same = true;
    private static final Map<String, int[]> SEEN = new HashMap<>();

    private ModelTest(long seed) { chance = new Random(seed); }

    private static Method find(Class<?> c, String name) {
        for (Method f : c.getDeclaredMethods()) if (f.getName().equals(name)) { f.setAccessible(true); return f; }
        throw new IllegalStateException(name);
    }

    private int pick(int many) { return chance.nextInt(many); }

    private int near(int most) { return pick(40) == 0 ? (pick(2) == 0 ? -1 - pick(3) : most + pick(5)) : pick(Math.max(1, most)); }

    private Object arg(char c) {
        if (pick(300) == 0 && c != 'b' && c != 'v') return new int[] {Integer.MIN_VALUE, Integer.MAX_VALUE, -1, 1 << 30}[pick(4)];
        switch (c) {
            case 'T': return pick(3) == 0 ? near(4) : 0;
            case 'S': return near(x.told(0));
            case 'P': return near(x.told(2));
            case 'H': return near(x.told(1));
            case 'L': return near(x.told(3));
            case 'W': return pick(20) == 0 ? pick(120) - 10 : 1 + pick(pick(2) == 0 ? 99 : 30);
            case 'O': return near(pick(2) == 0 ? 4 : 17);
            case 'U': return pick(10) == 0 ? near(4) : 3;
            case '2': case '3': case '4': case '5': case '6': return near(c - '0');
            case 'o': return near(3);
            case 'k': return near(12);
            case 'c': return near(3);
            case 'K': return near(x.told(4));
            case 'C': return near(x.told(5));
            case 'n': return near(pick(2) == 0 ? 4 : 13);
            case '#': return near(61);
            case 'i': return near(pick(2) == 0 ? 12 : 61);
            case 'j': return near(20);
            case 'd': return pick(20) == 0 ? near(100) : 1 + pick(4);
            case 't': return near(4);
            case 's': return near(10000);
            case 'm': return near(21);
            case 'b': return chance.nextBoolean();
            case 'v': return pick(20) == 0 ? chance.nextLong() : pick(6) == 0 ? (long) pick(400) - 150 : (long) pick(6);
            default: throw new IllegalStateException();
        }
    }

    private long call(Object on, String name, Object[] args, boolean model) {
        try {
            Object got = find(on.getClass(), name).invoke(on, args);
            if (model && !name.equals("feed") && !name.equals("fault")) m.ended(0);
            if (got instanceof Boolean b) return b ? 1 : 0;
            return ((Number) got).longValue();
        } catch (InvocationTargetException e) {
            if (model && e.getCause() instanceof Model.Refused r) {
                m.ended(r.status);
                return find(on.getClass(), name).getReturnType() == boolean.class ? 0 : -1;
            }
            throw new IllegalStateException(log + name + Arrays.toString(args), e.getCause());
        } catch (IllegalAccessException e) {
            throw new IllegalStateException(e);
        }
    }

    private void both(String name, Object... args) {
        if (!same) return;
        long want = call(m, name, args, true);
        int before = x.status();
        long got = call(x, name, args, false);
        String what = name + Arrays.toString(args);
        log.append(what).append(" = ").append(got).append('\n');
        boolean has = !name.equals("feed") && !name.equals("fault");
        int status = has ? m.status() : before;
        SEEN.computeIfAbsent(name, k -> new int[10])[status]++;
        kit.due(what, got, want);
        kit.due(what + " status", x.status(), status);
        kit.due(what + " top", x.top(), m.top());
        kit.due(what + " bottom", x.bottom(), m.bottom());
        if (got != want || x.status() != status || x.top() != m.top() || x.bottom() != m.bottom()) {
            same = false;
            System.out.println(log);
        }
    }

    private void feed(String text) {
        byte[] bytes = text.getBytes(StandardCharsets.ISO_8859_1);
        for (int at = 0; at < bytes.length; at += 20) {
            int[] v = Kit.ints(bytes, at);
            both("feed", v[0], v[1], v[2], v[3], v[4]);
        }
    }

    // ---- texts by chance
    private static final String[] NAMES = {"a", "b", "c", "d", "e", "f", "g", "h", "i", "j", "k", "l", "m", "n", "o", "pqrstuvw"};

    private String one(List<String> from) { return from.isEmpty() || pick(250) == 0 ? NAMES[pick(NAMES.length)] : from.get(pick(from.size())); }

    private int weight() { return pick(250) == 0 ? pick(101) : 1 + pick(pick(2) == 0 ? 99 : 30); }

    private final List<String> strikes = new ArrayList<>();
    private final List<String> hands = new ArrayList<>();
    private final List<String> persons = new ArrayList<>();

    private String valleyText() {
        StringBuilder t = new StringBuilder();
        strikes.clear(); hands.clear(); persons.clear();
        int next = 0;
        int many = 1 + pick(pick(30) == 0 ? 7 : 6);
        for (int k = 0; k < many && next < 16; k++) {
            t.append("strike ").append(NAMES[next]);
            if (pick(2) == 0) t.append(" worth ").append(pick(10));
            t.append(pick(2) == 0 ? ";" : " ; ");
            strikes.add(NAMES[next++]);
        }
        many = 1 + pick(pick(30) == 0 ? 5 : 4);
        for (int k = 0; k < many && next < 16; k++) { t.append("hand ").append(NAMES[next]).append(";"); hands.add(NAMES[next++]); }
        many = 2 + pick(pick(30) == 0 ? 6 : 5);
        for (int k = 0; k < many && next < 16; k++) {
            t.append("person ").append(NAMES[next]).append(" hand ").append(one(hands)).append(";\n");
            persons.add(NAMES[next++]);
        }
        many = pick(pick(30) == 0 ? 10 : 9);
        for (int k = 0; k < many; k++) {
            t.append("law ").append(one(strikes));
            if (pick(3) == 0) t.append(" under ").append(weight());
            if (pick(3) == 0) t.append(" over ").append(weight());
            if (pick(4) == 0) t.append(" by ").append(one(hands));
            if (pick(4) == 0) t.append(" from ").append(one(persons));
            if (pick(4) == 0) t.append(" to ").append(one(persons));
            t.append(";");
        }
        if (pick(2) == 0) t.append("odds ").append(pick(17)).append(";");
        many = pick(14);
        for (int k = 0; k < many; k++) {
            int p = pick(persons.size());
            int q = pick(250) == 0 ? p : (p + 1 + pick(Math.max(1, persons.size() - 1))) % persons.size();
            if (pick(3) > 0) t.append("acts ").append(persons.get(p)).append(" on ").append(one(strikes)).append(" to ").append(persons.get(q)).append(" weight ").append(weight()).append(";");
            else t.append("letter ").append(persons.get(p)).append(" ").append(persons.get(q)).append(" weight ").append(weight()).append(pick(3) == 0 ? " by " + one(hands) : "").append(";");
        }
        return damaged(t, 900);
    }

    private String damaged(StringBuilder t, int most) {
        if (t.length() > most) t.setLength(t.lastIndexOf(";", most - 1) + 1);
        if (pick(8) == 0 && t.length() > 0) {
            int at = pick(t.length());
            String[] bad = {"", ";", "<", "9", "12345", " ", "law", " hand ", "\n", "A", "\u00e9", "\u0000", "x", "abcdefghi", " end;", "odds 3;"};
            t.replace(at, Math.min(t.length(), at + pick(3)), bad[pick(bad.length)]);
        }
        if (pick(20) == 0) t.setLength(pick(t.length() + 1));
        if (t.length() > most) t.setLength(most);
        return t.toString();
    }

    private void steps(StringBuilder t, int depth, int most) {
        int many = pick(most);
        for (int k = 0; k < many; k++) {
            int kind = pick(depth < 3 || pick(30) == 0 ? 10 : 7);
            if (kind < 2) t.append("day ").append(pick(200) == 0 ? pick(30) : 1 + pick(3)).append(";");
            else if (kind < 4) {
                int p = pick(Math.max(1, persons.size()));
                int q = pick(250) == 0 ? p : (p + 1) % Math.max(1, persons.size());
                t.append("post ").append(persons.isEmpty() ? "a" : persons.get(p)).append(" ").append(persons.isEmpty() ? "b" : persons.get(q)).append(" ").append(weight()).append(";");
            } else if (kind == 4) t.append("drink;");
            else if (kind == 5) t.append("sober;");
            else if (kind == 6) t.append(pick(12) == 0 ? "stop;" : "any;");
            else {
                if (kind == 7) t.append("loop ").append(pick(200) == 0 ? pick(120) : 1 + pick(pick(4) == 0 ? 99 : 6)).append(";");
                else if (kind == 8) t.append("when struck ").append(one(strikes)).append(";");
                else t.append(pick(3) == 0 ? "when drunk;" : "when waits " + "<>=".charAt(pick(3)) + " " + pick(5) + ";");
                steps(t, depth + 1, 4);
                t.append("end;");
            }
        }
    }

    private void newValley() {
        String t = valleyText();
        feed(t);
        both("valley", t.length());
        both("fault", 0);
        both("fault", 1);
    }

    private void newWeeks() {
        StringBuilder b = new StringBuilder();
        steps(b, 0, pick(5) == 0 ? 30 : 9);
        String t = damaged(b, 300);
        feed(t);
        both("weeks", t.length());
        both("fault", 0);
        both("fault", 1);
    }

    private void fillStrikes() {
        int among = 1 + pick(Math.max(1, x.told(0)));
        for (int p = 0; p < 12; p++) both("write", 0, p, (long) pick(among));
    }

    private void fillSplits() {
        both("tray", 3, pick(4), pick(61));
        int border = pick(100);
        for (int p = 0; p < 8; p++) {
            int weight = pick(30) == 0 ? 0 : 1 + pick(99);
            both("write", 3, 2 * p, (long) weight);
            both("write", 3, 2 * p + 1, pick(30) == 0 ? (long) pick(7) : weight < border ? 0L : 1L);
        }
    }

    private void run() {
        x = new OddCancel();
        m = new Model();
        String[] calls = CALLS.split(" ");
        if (pick(10) > 0) newValley();
        for (int k = 0; k < 4 && same && pick(10) > 0 && x.told(3) < 1; k++) newValley();
        if (pick(8) > 0) both("tray", 0, pick(4), pick(61));
        boolean late = pick(20) == 0;
        for (int k = 0; k < 101 && late; k++) both("day", 99);
        for (int k = 0; k < 400 && same; k++) {
            int kind = pick(100);
            if (kind < 1) newValley();
            else if (kind < 4) newWeeks();
            else if (kind < 6) fillStrikes();
            else if (kind < 8) fillSplits();
            else {
                String[] c = calls[pick(calls.length)].split(":");
                if ((c[0].equals("valley") || c[0].equals("weeks") || c[0].equals("undo")) && pick(4) > 0) continue;
                Object[] args = new Object[c.length < 2 ? 0 : c[1].length()];
                for (int a = 0; a < args.length; a++) args[a] = arg(c[1].charAt(a));
                both(c[0], args);
            }
        }
    }

    public static void main(String[] args) {
        int runs = args.length > 0 ? Integer.parseInt(args[0]) : 400;
        for (int seed = 0; seed < runs; seed++) {
            ModelTest t = new ModelTest(seed);
            t.run();
            if (!t.same) {
                System.out.println("run " + seed + " differs from the model");
                System.exit(1);
            }
        }
        if (args.length > 1) for (Map.Entry<String, int[]> e : SEEN.entrySet()) System.out.println(e.getKey() + " " + Arrays.toString(e.getValue()));
        System.out.println("ModelTest: " + runs + " runs alike");
    }
}
