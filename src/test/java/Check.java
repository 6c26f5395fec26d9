import java.util.NoSuchElementException;

/** What all tests here need: answers that are due, exceptions that are due, cities from texts. */
final class Check {
    interface Call {
        long answer();
    }

    /** A call on an object that is still to be made. */
    interface Asked {
        long of(SwordPeace x);
    }

    static final Class<?> NO_SUCH = NoSuchElementException.class;
    static final Class<?> ILLEGAL = IllegalArgumentException.class;

    private static int wrong = 0;
    private static int all = 0;

    private Check() {
    }

    static void due(String what, long got, long want) {
        all++;
        if (got != want) {
            wrong++;
            System.out.println(what + " answered " + got + ", due is " + want);
        }
    }

    static void due(String what, boolean got, boolean want) {
        due(what, got ? 1 : 0, want ? 1 : 0);
    }

    static void raises(String what, Class<?> due, Call call) {
        all++;
        String got;
        try {
            got = "answered " + call.answer();
        } catch (RuntimeException e) {
            if (e.getClass() == due) {
                return;
            }
            got = "threw " + e;
        }
        wrong++;
        System.out.println(what + " " + got + ", due is " + due.getSimpleName());
    }

    /** Feeds a text behind what the tape has. */
    static void feed(SwordPeace x, String text) {
        for (int i = 0; i < text.length(); i += 20) {
            int[] five = new int[5];
            for (int k = 0; k < 20; k++) {
                five[k / 4] = five[k / 4] << 8 | (i + k < text.length() ? text.charAt(i + k) : ' ');
            }
            x.feed(five[0], five[1], five[2], five[3], five[4]);
        }
    }

    static int tell(SwordPeace x, String text) {
        feed(x, text);
        return x.city(text.length());
    }

    static SwordPeace city(String text) {
        SwordPeace x = new SwordPeace();
        int fault = tell(x, text);
        if (fault != 0) {
            throw new IllegalStateException("fault " + fault + " at " + x.fault() + " of " + text);
        }
        return x;
    }

    /** A text's FAULT on a new object, its place, and that it counts in STATUS 0. */
    static void fault(String text, int number, int place) {
        SwordPeace x = new SwordPeace();
        due("city of <" + text + ">", tell(x, text), number);
        due("place in <" + text + ">", x.fault(), place);
        due("status by <" + text + ">", x.count(12), number == 0 ? 0 : 1);
    }

    static void fine(String text) {
        fault(text, 0, SwordPeace.NONE);
    }

    static void end(String name) {
        System.out.println(name + ": " + (all - wrong) + " of " + all + " answers are as due");
        if (wrong != 0) {
            System.exit(1);
        }
    }
}
