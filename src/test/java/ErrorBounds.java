/** Boundary cases of the errors, and of promises 4 to 8: each method is of one sentence. */
final class ErrorBounds {
    private static final String LANGUAGE = "1. The language";
    private static final String PLAN = "plan red win when ";

    private ErrorBounds() {
    }

    static void test(Sentences its) {
        its.of(LANGUAGE, "Error 1: the first token with which the tokens so far are not the beginning of a game",
                ErrorBounds::theFirstWrongTokenIsTold);
        its.of(LANGUAGE, "a byte with which no token begins", ErrorBounds::bytesOfNoToken);
        its.of(LANGUAGE, "a word or number that is too long", ErrorBounds::tooLongTokens);
        its.of(LANGUAGE, "the end of the tape (at its length)", ErrorBounds::theEndOfTheTape);
        its.of(LANGUAGE, "the (, [, - or not behind which the depth would be 9", ErrorBounds::theNinthDepth);
        its.of(LANGUAGE, "the token that would be the 401st (the end of the tape not counted)",
                ErrorBounds::theToken401);
        its.of(LANGUAGE, "The position is that of its first byte", ErrorBounds::thePositionIsOfTheFirstByte);
        its.of(LANGUAGE, "Only if there is no error 1", ErrorBounds::errorOneIsToldAheadOfAll);
        its.of(LANGUAGE, "keywords, names and numbers are looked at from left to right, and the first error is told",
                ErrorBounds::theLeftmostErrorIsTold);
        its.of(LANGUAGE, "of errors at one token the one with the smallest number", ErrorBounds::oneErrorAtAToken);
        its.of(LANGUAGE, "Error 2: the second number of a stone, if there is a stone at this cell, as told ahead",
                ErrorBounds::twoStonesAtACell);
        its.of(LANGUAGE, "Error 4: the plan of the 17th plan (of both players together)",
                ErrorBounds::theSeventeenthPlan);
        its.of(LANGUAGE, "Error 5: a number of pond is not 3 to 9", ErrorBounds::lengthsBeyondThreeToNine);
        its.of(LANGUAGE, "the first number of a stone is not that of a column, or the second one not that of a row",
                ErrorBounds::stonesBeyondThePond);
        its.of(LANGUAGE, "The pond has so many columns and rows, 7 and 7 without a line of pond",
                ErrorBounds::sevenBySevenWithoutALine);

        its.of("Promise 4", "Reads the tape as a game, in the place of all that was told before",
                ErrorBounds::whatWasToldBeforeIsGone);
        its.of("Promise 4", "all begins anew, no stone can be taken back", ErrorBounds::nothingIsLeftToTakeBack);
        its.of("Promise 4", "If it has an error, all stays (but the tape is empty)",
                ErrorBounds::allStaysBehindAnError);
        its.of("Promise 4", "Returns 0, or the error, 1 to 5", ErrorBounds::teachTellsTheError);
        its.of("Promise 5", "Returns the position of the error of the latest teach()", ErrorBounds::theLatestPosition);
        its.of("Promise 5", "-1 if it had none, or there was none", ErrorBounds::noPositionWithoutAnError);
        its.of("Promise 6", "Returns how many columns there are", ErrorBounds::columnsFromThreeToNine);
        its.of("Promise 7", "Returns how many rows there are", ErrorBounds::rowsFromThreeToNine);
        its.of("Promise 8", "Returns how many plans there are", ErrorBounds::plansFromNoneToSixteen);
    }

    // ---- error 1

    private static void theFirstWrongTokenIsTold() {
        Due.error("pond 3 by by 3;", 1, 10);
        Due.error("plan red win guard;plan win;", 1, 13);
        Due.error("plan red;plan plan;", 1, 8);
        Due.error("stone red 1,1 # 1234567", 1, 14);
        Due.error("plan red win; ; plan", 1, 14);
        Due.error(PLAN + "1 < 2 < 3 <", 1, 18 + 6);
        Due.error(PLAN + "(1<2);", 1, 18 + 2);
        Due.error("red", 1, 0);
    }

    private static void bytesOfNoToken() {
        Due.error("#", 1, 0);
        Due.error("pond 3 by 3;\u0000", 1, 12);
        Due.error("pond 3 by 3;\t", 1, 12);
        Due.error("pond 3 by 3;\r\n", 1, 12);
        Due.error("pond 3 by 3;\u001f", 1, 12);
        Due.error("pond 3 by 3;!", 1, 12);
        Due.error("pond 3 by 3;\u007f", 1, 12);
        Due.error("pond 3 by 3;\u0080", 1, 12);
        Due.error("pond 3 by 3;\u00a0", 1, 12);
        Due.error("pond 3 by 3;\u00ff", 1, 12);
        Due.error("plan red near.", 1, 13);
    }

    private static void tooLongTokens() {
        Due.error("pond 3 by 3; abcdefghijk", 1, 13);
        Due.error("pond 3 by 3; plan1234567", 1, 13);
        Due.error("pond 1000000 by 3;", 1, 5);
        Due.error("pond 0000009 by 3;", 1, 5);
        Due.error("plan red at 0000001,1;", 1, 12);
        // Where no number may stand at all, it is the first wrong token all the same.
        Due.error("1234567", 1, 0);
        Due.error("plan 1234567", 1, 5);
    }

    private static void theEndOfTheTape() {
        String game = "pond 3 by 3;plan red at 1,1 when not 1=1;";
        for (int length = 1; length < game.length(); length++) {
            String begun = game.substring(0, length);
            boolean endsInALine = begun.endsWith(";");
            boolean endsInAWord = Character.isLetter(begun.charAt(length - 1))
                    && Character.isLetter(game.charAt(length));
            if (endsInALine) {
                Due.game(begun);
            } else if (!endsInAWord) {
                Due.error(begun, 1, length);
                Due.error(begun + " \n ", 1, length + 3);
            }
        }
        Due.error("pond", 1, 4);
        Due.error("pond" + Due.many(" ", 1996), 1, 2000);
        Due.error("pond 3 by 3;plan red win", 1, 24);
    }

    private static void theNinthDepth() {
        Due.game(PLAN + Due.many("(", 8) + "1" + Due.many(")", 8) + "=1;");
        Due.error(PLAN + Due.many("(", 9) + "1" + Due.many(")", 9) + "=1;", 1, 18 + 8);
        Due.game(PLAN + Due.many("[", 8) + "1=1" + Due.many("]", 8) + ";");
        Due.error(PLAN + Due.many("[", 9) + "1=1" + Due.many("]", 9) + ";", 1, 18 + 8);
        Due.game(PLAN + Due.many("- ", 8) + "1=1;");
        Due.error(PLAN + Due.many("- ", 9) + "1=1;", 1, 18 + 16);
        Due.game(PLAN + Due.many("not ", 8) + "1=1;");
        Due.error(PLAN + Due.many("not ", 9) + "1=1;", 1, 18 + 32);
    }

    /** A plan of 400 tokens: four words, a number, two tokens for each + 1, and three more. */
    private static final String FOUR_HUNDRED = PLAN + "1" + Due.many("+1", 196) + "<turn;";

    private static void theToken401() {
        Due.same("plans() of 400 tokens", Due.game(FOUR_HUNDRED).plans(), 1);
        Due.same("plans() of 400 tokens and blanks", Due.game(FOUR_HUNDRED + " \n ").plans(), 1);
        int end = FOUR_HUNDRED.length();
        String[] more = {"plan red win;", "stone red 1,1;", ";", "#", "1234567", "abcdefghijk", "1", "pond"};
        for (String token : more) {
            Due.error(FOUR_HUNDRED + token, 1, end);
            Due.error(FOUR_HUNDRED + "\n" + token, 1, end + 1);
        }
        // The last ; would be the 401st.
        Due.error(PLAN + "1" + Due.many("+1", 196) + "<-turn;", 1, end);
        Due.error(PLAN + "1" + Due.many("+1", 300), 1, 18 + 396);
        // 400 tokens that are not yet a game: the end of the tape is wrong.
        String begun = PLAN + "1" + Due.many("+1", 196) + "<turn+";
        Due.error(begun, 1, begun.length());
        Due.error(begun + "1;", 1, begun.length());
        // A wrong token ahead of it is told, and not the 401st.
        Due.error("plan red win+;" + FOUR_HUNDRED, 1, 12);
        Due.error(PLAN + "1" + Due.many("+1", 196) + "<turn turn;", 1, end);
    }

    private static void thePositionIsOfTheFirstByte() {
        Due.error("guard", 1, 0);
        Due.error("  \n guard", 1, 4);
        Due.error("plan red bridges;", 1, 9);
        Due.error("plan red win >= 1;", 1, 13);
        Due.error("plan red win 123456;", 1, 13);
        Due.error("plan red win  1234567;", 1, 14);
        Due.error("pond 000010 by 3;", 5, 5);
        Due.error("stone red 000001,000007;", 5, 17);
        Due.error("stone red 1,1;stone red 1,000001;", 2, 26);
        Due.error(Due.many("plan red win;", 16) + " plan red win;", 4, 16 * 13 + 1);
    }

    // ---- the errors 2, 4, and 5

    private static void errorOneIsToldAheadOfAll() {
        Due.error("pond 2 by 3;;", 1, 12);
        Due.error("pond 2 by 3", 1, 11);
        Due.error("stone red 7,7;stone red", 1, 23);
        Due.error("stone red 1,1;stone red 1,1;#", 1, 28);
        Due.error(Due.many("plan red win;", 17) + "plan", 1, 17 * 13 + 4);
        Due.error("pond 2 by 3;" + FOUR_HUNDRED, 1, 12 + 18 + 391);
        Due.error("pond 10 by 10;" + PLAN + Due.many("(", 9), 1, 14 + 18 + 8);
    }

    private static void theLeftmostErrorIsTold() {
        Due.error("pond 2 by 10;stone red 9,9;", 5, 5);
        Due.error("pond 3 by 10;stone red 9,9;", 5, 10);
        Due.error("stone red 7,7;stone red 1,1;stone red 1,1;", 5, 10);
        Due.error("stone red 1,7;stone red 1,1;stone red 1,1;", 5, 12);
        Due.error("stone red 1,1;stone red 1,1;stone red 7,7;", 2, 26);
        Due.error("stone red 1,1;stone red 1,1;" + Due.many("plan red win;", 17), 2, 26);
        Due.error(Due.many("plan red win;", 17) + "stone red 7,7;", 4, 16 * 13);
        Due.error(Due.many("plan red win;", 16) + "stone red 7,7;plan red win;", 5, 16 * 13 + 10);
        Due.error(Due.many("plan red win;", 18), 4, 16 * 13);
        Due.error("pond 2 by 3;" + Due.many("plan red win;", 17), 5, 5);
    }

    /** No token has two errors: who lies beyond a row lies at no cell, so at none with a stone. */
    private static void oneErrorAtAToken() {
        // Reckoned on, (0, 7) would be the cell 49, and (7, 0) the cell 7, which is that of (0, 1).
        Due.error("stone red 0,1;stone red 7,0;", 5, 24);
        Due.error("pond 3 by 3;stone red 0,2;stone blue 6,0;", 5, 37);
        Due.error("pond 3 by 9;stone red 0,1;stone blue 3,0;", 5, 37);
        Due.error("pond 9 by 3;stone red 0,2;stone blue 0,3;", 5, 39);
        Due.error("stone red 1,7;stone red 1,7;", 5, 12);
    }

    private static void twoStonesAtACell() {
        Due.error("stone red 1,1;stone red 1,1;", 2, 26);
        Due.error("stone red 1,1;stone blue 1,1;", 2, 27);
        Due.error("stone blue 0,0;stone red 000,00;", 2, 29);
        Due.error("pond 9 by 9;stone blue 8,8;plan red win;stone blue 8,8;", 2, 53);
        Due.error("pond 3 by 9;stone blue 2,8;stone red 0,0;stone red 2,8;", 2, 53);
        Due.error("pond 9 by 3;stone blue 8,2;stone red 0,0;stone red 8,2;", 2, 53);
        // Each of the same columns, of the same row, and the other way round is another cell.
        Due.game("stone red 1,2;stone red 2,1;stone red 1,1;stone red 2,2;stone blue 0,2;stone blue 2,0;");
        Due.game("pond 3 by 9;stone red 0,1;stone red 1,0;stone red 2,0;stone red 0,2;");
        // What was told in another game, or in one with an error, is not told ahead.
        HexPond pond = Due.game("stone red 3,3;");
        Due.same("teach() of the same stone", Due.teach(pond, "stone red 3,3;"), 0);
        Due.same("teach() of a game with an error", Due.teach(pond, "stone blue 4,4;stone red 7,7;"), 5);
        Due.same("teach() of its first stone", Due.teach(pond, "stone blue 4,4;"), 0);
        // Full: each cell once, and then any cell once more.
        StringBuilder full = new StringBuilder("pond 3 by 3;");
        for (int cell = 0; cell < 9; cell++) {
            full.append("stone blue ").append(cell % 3).append(',').append(cell / 3).append(';');
        }
        Due.same("emptyCells() of a full pond", Due.game(full.toString()).emptyCells(), 0);
        for (int cell = 0; cell < 9; cell++) {
            Due.error(full + "stone red " + cell % 3 + "," + cell / 3 + ";", 2, full.length() + 12);
        }
    }

    private static void theSeventeenthPlan() {
        for (int reds = 0; reds <= 16; reds++) {
            String sixteen = Due.many("plan red win;", reds) + Due.many("plan blue near;", 16 - reds);
            Due.same("plans()", Due.game(sixteen).plans(), 16);
            Due.error(sixteen + "plan red win;", 4, sixteen.length());
            Due.error(sixteen + "plan blue at 1,1 when won red;", 4, sixteen.length());
        }
        String spread = Due.many("plan red win;\n", 16) + "stone red 1,1;";
        Due.game(spread);
        Due.error(spread + " plan red win;", 4, spread.length() + 1);
        // The plans of another game, or of one with an error, are not counted.
        HexPond pond = new HexPond();
        for (int time = 0; time < 3; time++) {
            Due.same("teach() of 17 plans", Due.teach(pond, Due.many("plan red win;", 17)), 4);
            Due.same("teach() of 16 plans", Due.teach(pond, Due.many("plan red win;", 16)), 0);
        }
    }

    private static void lengthsBeyondThreeToNine() {
        int[] wrong = {0, 1, 2, 10, 11, 99, 100000, 999999};
        for (int length : wrong) {
            String columns = "pond " + length;
            Due.error(columns + " by 3;", 5, 5);
            Due.error(columns + " by 9;", 5, 5);
            Due.error("pond 3 by " + length + ";", 5, 10);
            Due.error("pond 9 by " + length + ";", 5, 10);
            Due.error(columns + " by " + length + ";", 5, 5);
        }
        for (int columns = 3; columns <= 9; columns++) {
            for (int rows = 3; rows <= 9; rows++) {
                Due.game("pond " + columns + " by " + rows + ";");
            }
        }
    }

    private static void stonesBeyondThePond() {
        int[][] ponds = {{3, 3}, {3, 9}, {9, 3}, {9, 9}, {4, 7}};
        for (int[] pond : ponds) {
            int columns = pond[0];
            int rows = pond[1];
            String first = "pond " + columns + " by " + rows + ";";
            Due.game(first + "stone red " + (columns - 1) + "," + (rows - 1) + ";stone red 0,0;");
            Due.error(first + "stone red " + columns + ",0;", 5, 22);
            Due.error(first + "stone red 0," + rows + ";", 5, 24);
            Due.error(first + "stone red " + (columns - 1) + "," + rows + ";", 5, 24);
            Due.error(first + "stone red " + columns + "," + (rows - 1) + ";", 5, 22);
            Due.error(first + "stone red " + columns + "," + rows + ";", 5, 22);
            Due.error(first + "stone blue 999999,0;", 5, 23);
            Due.error(first + "stone blue 0,999999;", 5, 25);
        }
        Due.game("stone red 6,6;");
        Due.error("stone red 7,6;", 5, 10);
        Due.error("stone red 6,7;", 5, 12);
    }

    private static void sevenBySevenWithoutALine() {
        HexPond pond = Due.game("pond 3 by 9;");
        Due.same("columns()", pond.columns(), 3);
        Due.same("rows()", pond.rows(), 9);
        Due.same("a stone where the pond before had no column", Due.teach(pond, "stone red 6,6;"), 0);
        Due.same("columns() without a line", pond.columns(), 7);
        Due.same("rows() without a line", pond.rows(), 7);
        Due.same("emptyCells() without a line", pond.emptyCells(), 48);
        Due.same("a stone where the pond before had a row", Due.teach(pond, "stone red 0,7;"), 5);
        Due.teach(pond, "pond 9 by 3;");
        Due.same("teach() of the empty tape", pond.teach(), 0);
        Due.same("columns() of it", pond.columns(), 7);
        Due.same("rows() of it", pond.rows(), 7);
    }

    // ---- teach and what it told

    private static void whatWasToldBeforeIsGone() {
        HexPond pond = Due.game("pond 9 by 9;stone red 0,0;stone blue 8,8;stone red 3,3;plan red at 1,1;"
                + "plan blue at 2,2;");
        pond.playByPlans(2);
        pond.layStone(4, 4);
        Due.same("teach() of the empty tape", pond.teach(), 0);
        Due.same("digest() as of a new object", pond.digest(), new HexPond().digest());
        Due.same("plannedCell() without plans", pond.plannedCell(), -1);
        Due.teach(pond, "pond 9 by 9;stone red 0,0;plan blue at 5,5;plan red at 6,6;");
        Due.same("plans()", pond.plans(), 2);
        Due.same("stonesOf(0)", pond.stonesOf(0), 1);
        Due.same("stonesOf(1)", pond.stonesOf(1), 0);
        Due.same("plannedCell() of blue", pond.plannedCell(), 50);
        HexPond over = Due.game("pond 3 by 3;stone red 0,1;stone red 1,1;stone red 2,1;");
        Due.same("isOver()", over.isOver(), true);
        over.teach();
        Due.same("isOver() of a new game", over.isOver(), false);
        Due.same("playerInTurn() of a new game", over.playerInTurn(), 0);
    }

    private static void nothingIsLeftToTakeBack() {
        String[] games = {"", "stone red 1,1;stone blue 2,2;", "pond 9 by 9;plan red near;"};
        for (String game : games) {
            HexPond pond = Due.game("plan red near;plan blue near;");
            pond.layStone(1, 1);
            pond.playByPlans(2);
            Due.same("stonesToTakeBack()", pond.stonesToTakeBack(), 3);
            Due.same("teach()", Due.teach(pond, game), 0);
            Due.same("stonesToTakeBack() behind teach()", pond.stonesToTakeBack(), 0);
            Due.refused(pond, "takeBack() behind teach()", IllegalStateException.class, pond::takeBack);
        }
    }

    private static HexPond halfPlayed() {
        HexPond pond = Due.game("pond 4 by 5;stone red 1,1;stone blue 2,2;plan blue at turn,1;plan blue near;"
                + "plan red guard;plan red at -turn,free when turn<9;plan red near;");
        pond.layStone(0, 4);
        pond.layStone(3, 0);
        pond.playByPlans(3);
        return pond;
    }

    private static void allStaysBehindAnError() {
        String[] wrong = {"pond 3 by 3;plan red at 0,0;plan blue at 0,0;stone red 2,2;#",
            "pond 3 by 3;plan red at 0,0;plan blue at 0,0;stone red 2,2;stone red 2,2;",
            "pond 3 by 3;" + Due.many("plan blue at 0,0;", 17),
            "pond 3 by 3;plan red at 0,0;plan blue at 0,0;stone red 3,2;",
            "pond 3 by 10;plan red at 0,0;",
            PLAN + "1" + Due.many("+1", 300)};
        int[] errors = {1, 2, 4, 5, 5, 1};
        for (int i = 0; i < wrong.length; i++) {
            HexPond pond = halfPlayed();
            HexPond twin = halfPlayed();
            Due.same("teach() of " + wrong[i], Due.teach(pond, wrong[i]), errors[i]);
            Due.same("tapeBytes()", pond.tapeBytes(), 0);
            Due.same("digest()", pond.digest(), twin.digest());
            Due.same("plannedCell()", pond.plannedCell(), twin.plannedCell());
            Due.same("winnerByPlans()", pond.winnerByPlans(), twin.winnerByPlans());
            Due.same("playByPlans(81)", pond.playByPlans(81), twin.playByPlans(81));
            Due.same("digest() of both games played on", pond.digest(), twin.digest());
            while (twin.stonesToTakeBack() > 0) {
                Due.same("takeBack()", pond.takeBack(), twin.takeBack());
            }
            Due.same("digest() of both games taken back", pond.digest(), twin.digest());
        }
    }

    private static void teachTellsTheError() {
        HexPond pond = new HexPond();
        Due.same("teach() of the empty tape", pond.teach(), 0);
        Due.same("error 1", Due.teach(pond, "red"), 1);
        Due.same("error 2", Due.teach(pond, "stone red 1,1;stone red 1,1;"), 2);
        Due.same("error 4", Due.teach(pond, Due.many("plan red win;", 17)), 4);
        Due.same("error 5", Due.teach(pond, "pond 2 by 3;"), 5);
        Due.same("no error", Due.teach(pond, "pond 3 by 3;"), 0);
    }

    private static void theLatestPosition() {
        HexPond pond = new HexPond();
        Due.teach(pond, "pond 2 by 3;");
        Due.same("errorAt()", pond.errorAt(), 5);
        Due.teach(pond, "red");
        Due.same("errorAt() at the first byte", pond.errorAt(), 0);
        Due.teach(pond, "pond" + Due.many("\n", 1996));
        Due.same("errorAt() at the end of a full tape", pond.errorAt(), 2000);
        pond.layStone(1, 1);
        pond.feed(0, 0, 0, 0, 0);
        pond.trim(0);
        pond.takeBack();
        Due.same("errorAt() behind other calls", pond.errorAt(), 2000);
    }

    private static void noPositionWithoutAnError() {
        HexPond pond = new HexPond();
        Due.same("errorAt() without a teach()", pond.errorAt(), -1);
        pond.feed(-1, -1, -1, -1, -1);
        Due.same("errorAt() with a tape alone", pond.errorAt(), -1);
        pond.teach();
        Due.same("errorAt() of the error", pond.errorAt(), 0);
        pond.teach();
        Due.same("errorAt() of a game without an error", pond.errorAt(), -1);
        Due.teach(pond, "pond 2 by 2;");
        Due.same("errorAt() of error 5", pond.errorAt(), 5);
        Due.teach(pond, "pond 9 by 9;");
        Due.same("errorAt() of another game", pond.errorAt(), -1);
    }

    private static void columnsFromThreeToNine() {
        Due.same("columns() of a new object", new HexPond().columns(), 7);
        Due.same("columns() without a line of pond", Due.game("plan red win;").columns(), 7);
        for (int columns = 3; columns <= 9; columns++) {
            Due.same("columns()", Due.game("pond " + columns + " by " + (12 - columns) + ";").columns(), columns);
        }
    }

    private static void rowsFromThreeToNine() {
        Due.same("rows() of a new object", new HexPond().rows(), 7);
        Due.same("rows() without a line of pond", Due.game("plan red win;").rows(), 7);
        for (int rows = 3; rows <= 9; rows++) {
            Due.same("rows()", Due.game("pond " + (12 - rows) + " by " + rows + ";").rows(), rows);
        }
    }

    private static void plansFromNoneToSixteen() {
        HexPond pond = new HexPond();
        Due.same("plans() of a new object", pond.plans(), 0);
        for (int plans = 0; plans <= 16; plans++) {
            Due.teach(pond, Due.many("plan blue win;", plans / 2) + Due.many("plan red win;", plans - plans / 2));
            Due.same("plans()", pond.plans(), plans);
        }
        Due.same("teach() of 17", Due.teach(pond, Due.many("plan red win;", 17)), 4);
        Due.same("plans() behind the error", pond.plans(), 16);
    }
}
