import java.nio.charset.StandardCharsets;

/** Counts answers that are not as due, and feeds texts. */
final class Check {
    /** A call of the class that may throw. */
    interface Call {
        long answer();
    }

    private final String name;
    private int wrong = 0;

    Check(String name) {
        this.name = name;
    }

    void same(String what, long got, long due) {
        if (got != due) {
            complain(what + " answered " + got + ", due is " + due);
        }
    }

    void throwsOf(Class<? extends RuntimeException> due, String what, Call call) {
        try {
            complain(what + " answered " + call.answer() + ", due is " + due.getSimpleName());
        } catch (RuntimeException e) {
            if (e.getClass() != due) {
                complain(what + " throws " + e.getClass().getSimpleName() + ", due is " + due.getSimpleName());
            }
        }
    }

    /** Like throwsOf, and the object is the same behind the call as ahead of it. */
    void refused(PeatBog bog, Class<? extends RuntimeException> due, String what, Call call) {
        long before = bog.digest();
        throwsOf(due, what, call);
        same(what + " changes nothing, digest", bog.digest(), before);
    }

    void complain(String message) {
        wrong++;
        if (wrong <= 40) {
            System.out.println(name + ": " + message);
        }
    }

    void finish() {
        System.out.println(name + ": " + (wrong == 0 ? "all answers are as due" : wrong + " answers are not as due"));
        if (wrong > 0) {
            System.exit(1);
        }
    }

    static void feedText(PeatBog bog, String text) {
        byte[] bytes = text.getBytes(StandardCharsets.ISO_8859_1);
        for (int at = 0; at < bytes.length; at += 20) {
            int[] numbers = new int[5];
            for (int i = 0; i < 20; i++) {
                int next = at + i < bytes.length ? bytes[at + i] & 255 : 0;
                numbers[i / 4] = numbers[i / 4] << 8 | next;
            }
            bog.feed(numbers[0], numbers[1], numbers[2], numbers[3], numbers[4]);
        }
        bog.trim(bytes.length);
    }

    static int teachText(PeatBog bog, String text) {
        bog.trim(0);
        feedText(bog, text);
        return bog.teach();
    }

    /** A new bog with gangs, whose text is right. */
    static PeatBog taught(String text) {
        PeatBog bog = new PeatBog();
        if (teachText(bog, text) != 0) {
            throw new IllegalStateException("error at " + bog.errorAt() + " of " + text);
        }
        return bog;
    }
}
