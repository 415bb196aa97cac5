import java.util.ArrayList;
import java.util.List;
import java.util.function.Supplier;

/** Whether a call changed anything: all that can be seen of an object, held against its twin's. */
final class Watch {
    interface Call {
        long on(OddCancel x);
    }

    private Watch() {
    }

    /** For calls that give a boolean. */
    static long yes(boolean answer) {
        return answer ? 1 : OddCancel.NONE;
    }

    /** A refused call gives NONE, has that STATUS, and changes nothing that can be seen. */
    static void no(Kit kit, String what, Supplier<OddCancel> made, int status, Call call) {
        OddCancel x = made.get();
        OddCancel twin = made.get();
        kit.due(what, call.on(x), OddCancel.NONE);
        kit.due(what + " status", x.status(), status);
        List<Long> seen = look(x, true);
        kit.due(what + " changes nothing", seen.equals(look(twin, true)), true);
    }

    /** A text with a FAULT: all stays but the tape, which is empty, and what fault() tells. */
    static void faulty(Kit kit, String what, Supplier<OddCancel> made, Call call) {
        OddCancel x = made.get();
        OddCancel twin = made.get();
        kit.due(what, call.on(x), OddCancel.NONE);
        kit.due(what + " status", x.status(), 9);
        List<Long> seen = look(x, false);
        kit.due(what + " changes nothing else", seen.equals(look(twin, false)), true);
    }

    /** A call that asks only: it has STATUS 0 and changes nothing that can be seen. */
    static void asks(Kit kit, String what, Supplier<OddCancel> made, Call call) {
        OddCancel x = made.get();
        OddCancel twin = made.get();
        call.on(x);
        kit.due(what + " status", x.status(), 0);
        kit.due(what + " changes nothing", look(x, true).equals(look(twin, true)), true);
    }

    /** The object is used up by this. */
    private static List<Long> look(OddCancel x, boolean tapeToo) {
        List<Long> seen = new ArrayList<>();
        if (tapeToo) {
            seen.add((long) x.fault(0));
            seen.add((long) x.fault(1));
        }
        seen.add(x.top());
        seen.add(x.bottom());
        lookAtValley(x, seen);
        lookAtTrays(x, seen);
        lookAtWeeks(x, seen);
        if (tapeToo) {
            lookAtTape(x, seen);
        }
        for (int k = 0; k < 4; k++) {
            seen.add((long) x.undo());
            seen.add((long) x.told(4) * 1000000 + x.told(7) * 100 + x.told(8) * 10 + x.told(3));
        }
        return seen;
    }

    private static void lookAtValley(OddCancel x, List<Long> seen) {
        for (int what = 0; what < 12; what++) {
            seen.add((long) x.told(what));
        }
        int strikes = x.told(0);
        int persons = x.told(2);
        int laws = x.told(3);
        int letters = x.told(4);
        int covers = x.told(5);
        for (int strike = 0; strike < strikes; strike++) {
            seen.add((long) x.worth(strike));
            seen.add((long) x.strikes(strike));
        }
        for (int person = 0; person < persons; person++) {
            seen.add((long) x.hand(person));
            for (int strike = 0; strike < strikes; strike++) {
                seen.add((long) x.acts(person, strike, 0));
                seen.add((long) x.acts(person, strike, 1));
            }
        }
        for (int law = 0; law < laws; law++) {
            for (int what = 0; what < 6; what++) {
                seen.add((long) x.law(law, what));
            }
        }
        for (int k = 0; k < letters; k++) {
            for (int what = 0; what < 4; what++) {
                seen.add((long) x.letter(k, what));
            }
        }
        for (int k = 0; k < covers; k++) {
            for (int what = 0; what < 5; what++) {
                seen.add((long) x.cover(k, what));
            }
        }
    }

    private static void lookAtTrays(OddCancel x, List<Long> seen) {
        for (int tray = 0; tray < 4; tray++) {
            int place = 0;
            do {
                seen.add(x.read(tray, place));
                place++;
            } while (x.status() == 0 && place < 60);
            seen.add((long) x.status());
            x.write(tray, 0, 0x123456789abcdef0L);
            seen.add(x.read(tray, 0));
        }
        x.pour(0, 0, 3, 0, 0);
        seen.add((long) x.status());
    }

    private static void lookAtWeeks(OddCancel x, List<Long> seen) {
        for (int what = 0; what < 5; what++) {
            seen.add((long) x.lived(what));
        }
        seen.add((long) x.live(7));
        for (int what = 4; what < 12; what++) {
            seen.add((long) x.told(what));
        }
    }

    private static void lookAtTape(OddCancel x, List<Long> seen) {
        int taped = x.feed(0, 0, 0, 0, 0);
        seen.add((long) taped);
        seen.add((long) x.valley(taped == OddCancel.NONE ? 900 : taped - 20));
        seen.add((long) x.fault(0) * 1000 + x.fault(1));
        seen.add((long) x.told(0) * 100 + x.told(1) * 10 + x.told(2));
    }
}
