/** Promises 2, 3, and 10: what feed and trim make of the tape. */
public final class TapeTest {
    public static void main(String[] args) {
        feedAppendsTheHighestByteFirst();
        feedStopsAtTwoThousandBytes();
        trimKeepsTheFirstBytes();
        trimRefusesWhatIsNotThere();
        teachEmptiesTheTape();
        Due.end("TapeTest");
    }

    private static int bytes(String four) {
        return four.charAt(0) << 24 | four.charAt(1) << 16 | four.charAt(2) << 8 | four.charAt(3);
    }

    private static void feedAppendsTheHighestByteFirst() {
        HexPond pond = new HexPond();
        Due.same("tapeBytes() of a new object", pond.tapeBytes(), 0);
        int fed = pond.feed(bytes("pond"), bytes(" 4 b"), bytes("y 9;"), bytes("plan"), bytes(" red"));
        Due.same("the first feed", fed, 20);
        Due.same("the second feed", pond.feed(bytes(" win"), bytes(";   "), bytes("\n\n\n\n"), bytes("    "),
                bytes("    ")), 40);
        Due.same("tapeBytes()", pond.tapeBytes(), 40);
        Due.same("teach()", pond.teach(), 0);
        Due.same("columns()", pond.columns(), 4);
        Due.same("rows()", pond.rows(), 9);
        Due.same("plans()", pond.plans(), 1);
        HexPond other = new HexPond();
        other.feed(-1, 0, Integer.MIN_VALUE, Integer.MAX_VALUE, 1);
        Due.same("bytes of any kind are fed", other.tapeBytes(), 20);
        Due.same("byte 255 is no token", other.teach(), 1);
        Due.same("errorAt()", other.errorAt(), 0);
    }

    private static void feedStopsAtTwoThousandBytes() {
        HexPond pond = new HexPond();
        int blanks = bytes("    ");
        for (int n = 1; n <= 100; n++) {
            Due.same("feed " + n, pond.feed(blanks, blanks, blanks, blanks, blanks), 20 * n);
        }
        Due.refused(pond, "feed behind 2000 bytes", IllegalStateException.class, () -> pond.feed(1, 2, 3, 4, 5));
        Due.same("tapeBytes()", pond.tapeBytes(), 2000);
        pond.trim(1981);
        Due.refused(pond, "feed behind 1981 bytes", IllegalStateException.class, () -> pond.feed(1, 2, 3, 4, 5));
        pond.trim(1980);
        Due.same("feed behind 1980 bytes", pond.feed(blanks, blanks, blanks, blanks, blanks), 2000);
        Due.same("teach() of 2000 blanks", pond.teach(), 0);
    }

    private static void trimKeepsTheFirstBytes() {
        HexPond pond = new HexPond();
        Due.same("trim of nothing", pond.trim(0), 0);
        pond.feed(bytes("pond"), bytes(" 4 b"), bytes("y 55"), bytes("555;"), bytes("; 9 "));
        Due.same("trim to all", pond.trim(20), 20);
        Due.same("trim", pond.trim(11), 11);
        Due.same("tapeBytes()", pond.tapeBytes(), 11);
        pond.feed(bytes(";   "), bytes("    "), bytes("    "), bytes("    "), bytes("    "));
        Due.same("feed goes on behind what is kept: teach()", pond.teach(), 0);
        Due.same("rows()", pond.rows(), 5);
        pond.feed(bytes("pond"), bytes("pond"), bytes("pond"), bytes("pond"), bytes("pond"));
        Due.same("trim to none", pond.trim(0), 0);
        Due.same("teach() of nothing", pond.teach(), 0);
    }

    private static void trimRefusesWhatIsNotThere() {
        HexPond pond = new HexPond();
        Due.refused(pond, "trim(1)", IllegalArgumentException.class, () -> pond.trim(1));
        Due.refused(pond, "trim(-1)", IllegalArgumentException.class, () -> pond.trim(-1));
        pond.feed(0, 0, 0, 0, 0);
        Due.refused(pond, "trim(21)", IllegalArgumentException.class, () -> pond.trim(21));
        Due.refused(pond, "trim(-2147483648)", IllegalArgumentException.class, () -> pond.trim(Integer.MIN_VALUE));
        Due.refused(pond, "trim(2147483647)", IllegalArgumentException.class, () -> pond.trim(Integer.MAX_VALUE));
        Due.same("tapeBytes()", pond.tapeBytes(), 20);
    }

    private static void teachEmptiesTheTape() {
        HexPond pond = Due.game("pond 3 by 3;");
        Due.same("tapeBytes() behind a game", pond.tapeBytes(), 0);
        Due.same("a wrong game", Due.teach(pond, "pond 3 by;"), 1);
        Due.same("tapeBytes() behind an error", pond.tapeBytes(), 0);
        Due.same("teach() of the empty tape", pond.teach(), 0);
        Due.same("columns()", pond.columns(), 7);
    }
}
