import java.nio.charset.StandardCharsets;

/** What the tests share: answers that are due, exceptions that are due, and texts put on the tape. */
final class Check {
    private static int wrong = 0;
    private static int done = 0;
    private static String about = "";

    private Check() {
    }

    interface Call {
        long run();
    }

    /** The sentence that is tested, told with each wrong answer. */
    static void about(String sentence) {
        about = sentence.isEmpty() ? "" : "[" + sentence + "] ";
    }

    static int done() {
        return done;
    }

    static void due(String what, long got, long want) {
        done++;
        if (got != want) {
            wrong++;
            System.out.println(about + what + " answered " + got + ", due is " + want);
        }
    }

    static void due(String what, boolean got, boolean want) {
        due(what, got ? 1 : 0, want ? 1 : 0);
    }

    static void dueThrow(String what, Class<? extends RuntimeException> want, Call call) {
        done++;
        String got;
        try {
            got = String.valueOf(call.run());
        } catch (RuntimeException e) {
            got = e.getClass().getName();
            if (e.getClass() == want) {
                return;
            }
        }
        wrong++;
        System.out.println(about + what + " answered " + got + ", due is " + want.getName());
    }

    static void tape(ArchEnds x, byte[] bytes) {
        x.end(0);
        for (int i = 0; i < bytes.length; i += 20) {
            int[] n = new int[5];
            for (int j = 0; j < 20; j++) {
                int b = i + j < bytes.length ? bytes[i + j] & 255 : 0;
                n[j / 4] |= b << (24 - j % 4 * 8);
            }
            x.feed(n[0], n[1], n[2], n[3], n[4]);
        }
        x.end(bytes.length);
    }

    static void tape(ArchEnds x, String text) {
        tape(x, text.getBytes(StandardCharsets.ISO_8859_1));
    }

    static int county(ArchEnds x, String text) {
        tape(x, text);
        return x.county();
    }

    static int law(ArchEnds x, String text) {
        tape(x, text);
        return x.law();
    }

    static ArchEnds of(String... texts) {
        ArchEnds x = new ArchEnds();
        for (String text : texts) {
            county(x, text);
        }
        return x;
    }

    static void finish() {
        System.out.println(done + " checks, " + wrong + " wrong");
        if (wrong != 0 || done == 0) {
            System.exit(1);
        }
    }
}
