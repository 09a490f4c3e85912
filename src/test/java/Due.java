import java.util.NoSuchElementException;

/** Counts answers that are not the ones that are due; each test ends with end(). */
final class Due {
    /** A call that may throw. */
    interface Call {
        int answer();
    }

    private String name = "";
    private int wrong;
    private int asked;

    /** What is asked from here on belongs to this case. */
    void begin(String to) {
        name = to + ": ";
    }

    int asked() {
        return asked;
    }

    void is(String call, int got, int want) {
        asked++;
        if (got != want) {
            tellWrong(call + " answered " + got + ", due is " + want);
        }
    }

    void same(String call, String got, String want) {
        asked++;
        if (!got.equals(want)) {
            tellWrong(call + " answered " + got + ", due is " + want);
        }
    }

    void yes(String call, boolean got) {
        is(call, got ? 1 : 0, 1);
    }

    void no(String call, boolean got) {
        is(call, got ? 1 : 0, 0);
    }

    void throwsNoSuch(String call, Call made) {
        asked++;
        String got;
        try {
            got = "answered " + made.answer();
        } catch (NoSuchElementException e) {
            return;
        } catch (RuntimeException e) {
            got = "threw " + e;
        }
        tellWrong(call + " " + got + ", due is NoSuchElementException");
    }

    void rowIs(String call, LockedHouse house, int... want) {
        is(call + ": count(6)", house.count(6), want.length);
        for (int i = 0; i < want.length && i < house.count(6); i++) {
            is(call + ": row(" + i + ")", house.row(i), want[i]);
        }
        throwsNoSuch(call + ": row(" + want.length + ")", () -> house.row(want.length));
    }

    /** All that count() tells, what 0 .. 8. */
    void countsAre(String call, LockedHouse house, int... want) {
        for (int what = 0; what < want.length; what++) {
            is(call + ": count(" + what + ")", house.count(what), want[what]);
        }
    }

    /** All that group() tells, what 0 .. 5. */
    void groupIs(String call, LockedHouse house, int g, int... want) {
        for (int what = 0; what < want.length; what++) {
            is(call + ": group(" + g + ", " + what + ")", house.group(g, what), want[what]);
        }
    }

    void end(String test) {
        System.out.println(test + ": " + asked + " answers, " + wrong + " wrong");
        if (wrong != 0 || asked == 0) {
            System.exit(1);
        }
    }

    private void tellWrong(String what) {
        wrong++;
        System.out.println(name + what);
    }
}
