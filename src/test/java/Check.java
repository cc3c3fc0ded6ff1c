import java.nio.charset.StandardCharsets;

/** Counts answers that are not as due, and feeds texts. */
final class Check {
    /** A call of the class that may throw. */
    interface Call {
        long answer();
    }

    private final String name;
    private String about = "";
    private int wrong = 0;

    Check(String name) {
        this.name = name;
    }

    /** Names the sentence of the document that the next checks are about. */
    void sentence(String words) {
        about = " (\"" + words + "\")";
    }

    void same(String what, long got, long due) {
        if (got != due) {
            complain(what + " answered " + got + ", due is " + due);
        }
    }

    void throwsOf(Class<? extends RuntimeException> due, String what, Call call) {
        try {
            complain(what + " answered " + call.answer() + ", due is " + due.getSimpleName());
        } catch (RuntimeException e) {
            if (e.getClass() != due) {
                complain(what + " throws " + e.getClass().getSimpleName() + ", due is " + due.getSimpleName());
            }
        }
    }

    /** Like throwsOf, and the object is the same behind the call as ahead of it. */
    void refused(PeatBog bog, Class<? extends RuntimeException> due, String what, Call call) {
        long before = bog.digest();
        int errorBefore = bog.errorAt();
        throwsOf(due, what, call);
        same(what + " changes nothing, digest", bog.digest(), before);
        same(what + " changes nothing, errorAt()", bog.errorAt(), errorBefore);
    }

    /** What the gang 0 tells, from x on. */
    void gang(String what, PeatBog bog, int... due) {
        for (int i = 0; i < due.length; i++) {
            same(what + ", gang(0, " + i + ")", bog.gang(0, i), due[i]);
        }
    }

    /** The text has the error (0: none), at its sign ^, which is not fed; it is taught to a new bog. */
    void text(int error, String marked) {
        int at = marked.indexOf('^');
        String text = at < 0 ? marked : marked.substring(0, at) + marked.substring(at + 1);
        PeatBog bog = new PeatBog();
        same("teach() of " + marked, teachText(bog, text), error);
        same("errorAt() of " + marked, bog.errorAt(), at);
        int gangs = text.split("(?<![a-z0-9])gang(?![a-z0-9])", -1).length - 1;
        same("gangs of " + marked, bog.count(2), error != 0 ? 0 : gangs);
        same("bytes of the tape behind " + marked, bog.count(3), 0);
    }

    void complain(String message) {
        wrong++;
        if (wrong <= 40) {
            System.out.println(name + about + ": " + message);
        }
    }

    void finish() {
        System.out.println(name + ": " + (wrong == 0 ? "all answers are as due" : wrong + " answers are not as due"));
        if (wrong > 0) {
            System.exit(1);
        }
    }

    static void feedText(PeatBog bog, String text) {
        byte[] bytes = text.getBytes(StandardCharsets.ISO_8859_1);
        for (int at = 0; at < bytes.length; at += 20) {
            int[] numbers = new int[5];
            for (int i = 0; i < 20; i++) {
                int next = at + i < bytes.length ? bytes[at + i] & 255 : 0;
                numbers[i / 4] = numbers[i / 4] << 8 | next;
            }
            bog.feed(numbers[0], numbers[1], numbers[2], numbers[3], numbers[4]);
        }
        bog.trim(bytes.length);
    }

    static int teachText(PeatBog bog, String text) {
        bog.trim(0);
        feedText(bog, text);
        return bog.teach();
    }

    /** A new bog with gangs, whose text is right. */
    static PeatBog taught(String text) {
        PeatBog bog = new PeatBog();
        if (teachText(bog, text) != 0) {
            throw new IllegalStateException("error at " + bog.errorAt() + " of " + text);
        }
        return bog;
    }

    /** Like taught, with the same rain and sun on each day of the table. */
    static PeatBog withWeather(String text, int rain, int sun) {
        PeatBog bog = taught(text);
        for (int day = 0; day < 12; day++) {
            bog.setWeather(day, rain, sun);
        }
        return bog;
    }
}
