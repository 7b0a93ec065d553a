import java.nio.charset.StandardCharsets;

/** What the tests share: it tells the answers that are not due, and feeds games as texts. */
final class Due {
    private static int looked = 0;
    private static int wrong = 0;

    /** Stands ahead of each wrong answer that is told. */
    private static String heading = "";

    private Due() {
    }

    static void same(String what, long got, long want) {
        looked++;
        if (got != want) {
            tell(what + " answered " + got + ", due is " + want);
        }
    }

    static void same(String what, double got, double want) {
        looked++;
        if (got != want) {
            tell(what + " answered " + got + ", due is " + want);
        }
    }

    static void same(String what, boolean got, boolean want) {
        looked++;
        if (got != want) {
            tell(what + " answered " + got + ", due is " + want);
        }
    }

    /** The call throws just this exception, and the digest stays. */
    static void refused(HexPond pond, String what, Class<? extends RuntimeException> due, Runnable call) {
        looked++;
        long before = pond.digest();
        int errorAt = pond.errorAt();
        try {
            call.run();
            tell(what + " threw nothing, due is " + due.getSimpleName());
        } catch (RuntimeException e) {
            if (e.getClass() != due) {
                tell(what + " threw " + e.getClass().getSimpleName() + ", due is " + due.getSimpleName());
            }
        }
        same(what + ": the digest behind the exception", pond.digest(), before);
        same(what + ": errorAt() behind the exception", pond.errorAt(), errorAt);
    }

    static void tell(String what) {
        wrong++;
        System.out.println(heading + what);
    }

    static void head(String newHeading) {
        heading = newHeading;
    }

    static int wrong() {
        return wrong;
    }

    /** Ends the test, with exit code 1 if an answer was not the one that is due. */
    static void end(String test) {
        System.out.println(test + ": " + looked + " looked at, " + wrong + " wrong");
        if (wrong > 0 || looked == 0) {
            System.exit(1);
        }
    }

    /** Puts the bytes of the text on the tape, which has to be empty. */
    static void tape(HexPond pond, byte[] text) {
        for (int at = 0; at < text.length; at += 20) {
            int[] numbers = new int[5];
            for (int i = 0; i < 20; i++) {
                int sign = at + i < text.length ? text[at + i] & 255 : 32;
                numbers[i / 4] = numbers[i / 4] << 8 | sign;
            }
            pond.feed(numbers[0], numbers[1], numbers[2], numbers[3], numbers[4]);
        }
        pond.trim(text.length);
    }

    static int teach(HexPond pond, String game) {
        tape(pond, game.getBytes(StandardCharsets.ISO_8859_1));
        return pond.teach();
    }

    /** A new object that has been taught this game, which has no error. */
    static HexPond game(String game) {
        HexPond pond = new HexPond();
        same("teach() of " + game, teach(pond, game), 0);
        same("errorAt() of " + game, pond.errorAt(), -1);
        return pond;
    }

    /** The text is refused with this error at this place. */
    static void error(String game, int error, int at) {
        HexPond pond = new HexPond();
        same("teach() of " + game, teach(pond, game), error);
        same("errorAt() of " + game, pond.errorAt(), at);
    }

    static String many(String text, int times) {
        return text.repeat(times);
    }
}
