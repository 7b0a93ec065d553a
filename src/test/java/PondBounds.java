/** Boundary cases of the pond, who has won, and whose turn it is: each method is of one sentence. */
final class PondBounds {
    private static final String POND = "2. The pond";
    private static final Class<IndexOutOfBoundsException> BEYOND = IndexOutOfBoundsException.class;
    private static final Class<IllegalStateException> STATE = IllegalStateException.class;

    /** Numbers that are no player. */
    private static final int[] NO_PLAYERS = {2, 3, -1, Integer.MIN_VALUE, Integer.MAX_VALUE};

    /** Full, red has won by the row 0. */
    private static final String FULL = "pond 3 by 3;stone red 0,0;stone red 1,0;stone red 2,0;stone blue 0,1;"
            + "stone blue 1,1;stone red 2,1;stone blue 0,2;stone blue 1,2;stone red 2,2;";
    private static final String RED_HAS_WON = "pond 3 by 4;stone red 0,2;stone red 1,2;stone red 2,1;";
    private static final String BLUE_HAS_WON = "pond 4 by 3;stone blue 2,0;stone blue 1,1;stone blue 0,2;";

    private PondBounds() {
    }

    static void test(Sentences its) {
        its.of(POND, "Cells lie in columns and rows, numbered from 0", PondBounds::cellsAreNumberedFromZero);
        its.of(POND, "the number of a cell is the columns times its row, and its column, added",
                PondBounds::numbersOfCells);
        its.of(POND, "The shores of red are the column 0 and the last one", PondBounds::shoresOfRed);
        its.of(POND, "the shores of blue are the row 0 and the last one", PondBounds::shoresOfBlue);
        its.of(POND, "A player has won, if a group of this player has stones at both of this player's shores",
                PondBounds::oneStoneShortHasNotWon);
        its.of(POND, "If somebody has won, the game is over", PondBounds::theGameIsOverOnceSomebodyHasWon);
        its.of(POND, "It is red's turn, if there are no more red stones than blue ones, otherwise blue's",
                PondBounds::turnsOfEvenAndUnevenStones);
        its.of(POND, "A method that throws an exception changes nothing", PondBounds::refusedCallsChangeNothing);
        its.of(POND, "If several exceptions apply, the one that is named first is thrown",
                PondBounds::theFirstExceptionIsThrown);

        its.of("Promise 1", "Creates an empty pond of 7 by 7 cells, without plans", PondBounds::aNewObjectIsEmpty);
        its.of("Promise 9", "Returns how many stones can be taken back", PondBounds::stonesToTakeBackFromNoneToAll);
        its.of("Promise 11", "Returns how many cells are empty", PondBounds::emptyCellsFromNoneToAll);
        its.of("Promise 12", "Returns how many stones this one has", PondBounds::stonesFromNoneToAll);
        its.of("Promise 12", "Throws IndexOutOfBoundsException if there is no such player",
                PondBounds::stonesOfNoPlayer);
        its.of("Promise 13", "Returns whether the cell there is empty", PondBounds::cornersAreEmptyOrNot);
        its.of("Promise 13", "Throws IndexOutOfBoundsException if there is no such cell", PondBounds::isEmptyOfNoCell);
        its.of("Promise 14", "Returns the player whose stone is there", PondBounds::ownersAtTheCorners);
        its.of("Promise 14", "Throws IndexOutOfBoundsException if there is no such cell", PondBounds::ownerOfNoCell);
        its.of("Promise 14", "Throws IllegalStateException if it is empty", PondBounds::ownerOfAnEmptyCell);
        its.of("Promise 15", "Returns whether this one has won", PondBounds::eitherPlayerHasWon);
        its.of("Promise 15", "Throws IndexOutOfBoundsException if there is no such player",
                PondBounds::hasWonOfNoPlayer);
        its.of("Promise 16", "Returns whether the game is over", PondBounds::emptyAndFullPonds);
        its.of("Promise 17", "Returns the player whose turn it is", PondBounds::theTurnOfAnEmptyPond);
        its.of("Promise 17", "Throws IllegalStateException if the game is over",
                PondBounds::noTurnWhenTheGameIsOver);
    }

    /** A column and a row of each kind that lies beyond a pond of so many. */
    static int[][] beyond(int columns, int rows) {
        return new int[][] {{columns, 0}, {0, rows}, {-1, 0}, {0, -1}, {columns, rows}, {-1, -1}, {columns - 1, rows},
            {columns, rows - 1}, {-1, rows - 1}, {columns - 1, -1}, {Integer.MIN_VALUE, 0}, {0, Integer.MIN_VALUE},
            {Integer.MAX_VALUE, 0}, {0, Integer.MAX_VALUE}, {Integer.MAX_VALUE, Integer.MAX_VALUE}};
    }

    /** A call that tells a column and a row; it has to be refused for cells that are none. */
    interface OfACell {
        void call(HexPond pond, int column, int row);
    }

    static void refusesCellsBeyond(String what, OfACell call) {
        int[][] ponds = {{3, 3}, {3, 9}, {9, 3}, {9, 9}, {4, 5}};
        for (int[] size : ponds) {
            HexPond pond = Due.game("pond " + size[0] + " by " + size[1] + ";stone red 0,0;stone blue 2,2;"
                    + "stone red 2,1;");
            for (int[] at : beyond(size[0], size[1])) {
                Due.refused(pond, what + " at " + at[0] + ", " + at[1] + " of " + size[0] + " by " + size[1], BEYOND,
                        () -> call.call(pond, at[0], at[1]));
            }
        }
    }

    /** A call that tells a player. */
    interface OfAPlayer {
        void call(HexPond pond, int player);
    }

    static void refusesNoPlayers(String what, OfAPlayer call) {
        HexPond pond = Due.game("pond 4 by 5;stone red 0,0;stone blue 2,2;stone red 2,1;");
        for (int player : NO_PLAYERS) {
            Due.refused(pond, what + " of player " + player, BEYOND, () -> call.call(pond, player));
        }
    }

    // ---- cells

    private static void cellsAreNumberedFromZero() {
        int[][] ponds = {{3, 3}, {3, 9}, {9, 3}, {9, 9}, {7, 7}};
        for (int[] size : ponds) {
            HexPond pond = Due.game("pond " + size[0] + " by " + size[1] + ";");
            int cells = 0;
            for (int column = 0; column < size[0]; column++) {
                for (int row = 0; row < size[1]; row++) {
                    cells += pond.isEmpty(column, row) ? 1 : 0;
                }
            }
            Due.same("the cells", cells, size[0] * size[1]);
            pond.layStone(0, 0);
            Due.same("the first cell", pond.takeBack(), 0);
            pond.layStone(size[0] - 1, size[1] - 1);
            Due.same("the last cell", pond.takeBack(), size[0] * size[1] - 1);
        }
    }

    private static void numbersOfCells() {
        int[][] ponds = {{3, 3}, {3, 9}, {9, 3}, {9, 9}, {4, 7}};
        for (int[] size : ponds) {
            HexPond pond = Due.game("pond " + size[0] + " by " + size[1] + ";plan red at turn+" + (size[0] - 1)
                    + ",1;");
            int[] columns = {0, size[0] - 1, 0, size[0] - 1, 1};
            int[] rows = {0, 0, size[1] - 1, size[1] - 1, 2};
            for (int i = 0; i < columns.length; i++) {
                pond.layStone(columns[i], rows[i]);
                Due.same("takeBack()", pond.takeBack(), size[0] * rows[i] + columns[i]);
            }
            Due.same("plannedCell()", pond.plannedCell(), size[0] + size[0] - 1);
        }
    }

    // ---- shores, and who has won

    private static void shoresOfRed() {
        int[][] ponds = {{3, 9}, {9, 3}, {4, 4}};
        for (int[] size : ponds) {
            String first = "pond " + size[0] + " by " + size[1] + ";";
            for (int column = 0; column < size[0]; column++) {
                int due = column == 0 || column == size[0] - 1 ? 1 : 0;
                for (int row = 0; row < size[1]; row += size[1] - 1) {
                    HexPond pond = Due.game(first + "stone red " + column + "," + row + ";");
                    Due.same("shoresOf red at " + column + ", " + row, pond.shoresOf(column, row), due);
                }
            }
            StringBuilder whole = new StringBuilder(first);
            for (int column = 0; column < size[0]; column++) {
                Due.same("red has won up to the column " + column, Due.game(whole.toString()).hasWon(0), false);
                whole.append("stone red ").append(column).append(",1;");
            }
            Due.same("red has won", Due.game(whole.toString()).hasWon(0), true);
        }
    }

    private static void shoresOfBlue() {
        int[][] ponds = {{3, 9}, {9, 3}, {4, 4}};
        for (int[] size : ponds) {
            String first = "pond " + size[0] + " by " + size[1] + ";";
            for (int row = 0; row < size[1]; row++) {
                int due = row == 0 || row == size[1] - 1 ? 1 : 0;
                for (int column = 0; column < size[0]; column += size[0] - 1) {
                    HexPond pond = Due.game(first + "stone blue " + column + "," + row + ";");
                    Due.same("shoresOf blue at " + column + ", " + row, pond.shoresOf(column, row), due);
                }
            }
            StringBuilder whole = new StringBuilder(first);
            for (int row = 0; row < size[1]; row++) {
                Due.same("blue has won up to the row " + row, Due.game(whole.toString()).hasWon(1), false);
                whole.append("stone blue 1,").append(row).append(";");
            }
            Due.same("blue has won", Due.game(whole.toString()).hasWon(1), true);
        }
    }

    private static void oneStoneShortHasNotWon() {
        // Each of the stones is needed: without any one of them nobody has won.
        String[] stones = {"stone red 0,3;", "stone red 1,2;", "stone red 2,2;", "stone red 3,1;", "stone red 4,1;"};
        for (int missing = -1; missing < stones.length; missing++) {
            StringBuilder game = new StringBuilder("pond 5 by 5;");
            for (int i = 0; i < stones.length; i++) {
                game.append(i == missing ? stones[i].replace("red", "blue") : stones[i]);
            }
            Due.same("hasWon(0) without the stone " + missing, Due.game(game.toString()).hasWon(0), missing < 0);
            Due.same("hasWon(1) without the stone " + missing, Due.game(game.toString()).hasWon(1), false);
        }
        // Both shores have stones, but of two groups; and (0, 0), (1, 1) do not lie beside each other.
        Due.same("two groups", Due.game("pond 3 by 3;stone red 0,2;stone red 2,0;").hasWon(0), false);
        Due.same("aslant", Due.game("pond 3 by 3;stone red 0,0;stone red 1,1;stone red 2,2;").hasWon(0), false);
        Due.same("the other's shores", Due.game("pond 3 by 3;stone red 1,0;stone red 1,1;stone red 1,2;").hasWon(0),
                false);
        Due.same("a row around", Due.game("pond 3 by 3;stone red 2,0;stone red 0,1;").hasWon(0), false);
    }

    private static void theGameIsOverOnceSomebodyHasWon() {
        HexPond pond = Due.game("pond 3 by 3;stone red 0,1;stone red 1,1;stone blue 0,0;stone blue 1,0;");
        Due.same("isOver() one stone ahead", pond.isOver(), false);
        pond.layStone(2, 1);
        Due.same("isOver()", pond.isOver(), true);
        Due.refused(pond, "layStone when it is over", STATE, () -> pond.layStone(2, 2));
        pond.takeBack();
        Due.same("isOver() with the stone taken back", pond.isOver(), false);
        Due.same("isOver() when blue has won", Due.game(BLUE_HAS_WON).isOver(), true);
        Due.same("isOver() when red has won", Due.game(RED_HAS_WON).isOver(), true);
    }

    // ---- turns

    private static void turnsOfEvenAndUnevenStones() {
        for (int reds = 0; reds <= 4; reds++) {
            for (int blues = 0; blues <= 4; blues++) {
                StringBuilder game = new StringBuilder();
                for (int i = 0; i < reds; i++) {
                    game.append("stone red 0,").append(i).append(';');
                }
                for (int i = 0; i < blues; i++) {
                    game.append("stone blue 6,").append(i).append(';');
                }
                HexPond pond = Due.game(game.toString());
                int due = reds > blues ? 1 : 0;
                Due.same("playerInTurn() of " + reds + " and " + blues, pond.playerInTurn(), due);
                Due.same("layStone() of " + reds + " and " + blues, pond.layStone(3, 3), due);
            }
        }
    }

    private static void theTurnOfAnEmptyPond() {
        HexPond pond = new HexPond();
        Due.same("playerInTurn() of an empty pond", pond.playerInTurn(), 0);
        pond.layStone(0, 0);
        Due.same("playerInTurn() of one stone", pond.playerInTurn(), 1);
        pond.layStone(0, 1);
        Due.same("playerInTurn() of two stones", pond.playerInTurn(), 0);
        pond.takeBack();
        Due.same("playerInTurn() of one taken back", pond.playerInTurn(), 1);
    }

    private static void noTurnWhenTheGameIsOver() {
        String[] games = {RED_HAS_WON, BLUE_HAS_WON, FULL};
        for (String game : games) {
            HexPond over = Due.game(game);
            Due.refused(over, "playerInTurn() of " + game, STATE, over::playerInTurn);
        }
        HexPond pond = Due.game("pond 3 by 3;stone red 0,1;stone red 1,1;stone blue 0,0;stone blue 1,0;");
        Due.same("playerInTurn() ahead of the end", pond.playerInTurn(), 0);
        pond.layStone(2, 1);
        Due.refused(pond, "playerInTurn() at the end", STATE, pond::playerInTurn);
        pond.takeBack();
        Due.same("playerInTurn() again", pond.playerInTurn(), 0);
    }

    // ---- refused calls

    private static HexPond played() {
        HexPond pond = Due.game("pond 4 by 5;stone red 1,1;stone blue 2,2;plan red near;plan blue at turn,2;"
                + "plan blue near;");
        pond.layStone(0, 4);
        pond.layStone(3, 0);
        Due.tape(pond, "plan blue win;".getBytes());
        return pond;
    }

    private static void refusedCallsChangeNothing() {
        HexPond pond = played();
        HexPond twin = played();
        Due.refused(pond, "trim", IllegalArgumentException.class, () -> pond.trim(15));
        Due.refused(pond, "playByPlans", IllegalArgumentException.class, () -> pond.playByPlans(0));
        Due.refused(pond, "layStone on a stone", STATE, () -> pond.layStone(1, 1));
        Due.refused(pond, "layStone beyond", BEYOND, () -> pond.layStone(4, 0));
        Due.refused(pond, "mustPlay", STATE, pond::mustPlay);
        Due.refused(pond, "stonesNeededThrough", STATE, () -> pond.stonesNeededThrough(0, 2, 2));
        Due.refused(pond, "groupSize", STATE, () -> pond.groupSize(0, 0));
        Due.refused(pond, "isBridge", BEYOND, () -> pond.isBridge(0, 20));
        Due.same("stonesByPlans()", pond.stonesByPlans(), twin.stonesByPlans());
        Due.same("plannedCell()", pond.plannedCell(), twin.plannedCell());
        Due.same("takeBack()", pond.takeBack(), 3);
        Due.same("takeBack()", pond.takeBack(), 16);
        Due.refused(pond, "takeBack of none", STATE, pond::takeBack);
        Due.same("the tape", pond.teach(), 0);
        Due.same("plans()", pond.plans(), 1);
        HexPond full = new HexPond();
        Due.tape(full, ("plan red near;" + Due.many(" ", 1986)).getBytes());
        Due.refused(full, "feed of a full tape", STATE, () -> full.feed(-1, -1, -1, -1, -1));
        Due.same("the full tape", full.teach(), 0);
        Due.same("plans() of the full tape", full.plans(), 1);
    }

    private static void theFirstExceptionIsThrown() {
        HexPond over = Due.game(RED_HAS_WON + "stone blue 1,1;stone blue 1,3;");
        HexPond pond = Due.game("pond 3 by 3;stone blue 1,0;stone blue 1,1;stone blue 0,2;");
        for (int[] at : beyond(3, 4)) {
            Due.refused(over, "layStone beyond, when the game is over", BEYOND, () -> over.layStone(at[0], at[1]));
            Due.refused(over, "ownerOf beyond", BEYOND, () -> over.ownerOf(at[0], at[1]));
            Due.refused(over, "groupSize beyond", BEYOND, () -> over.groupSize(at[0], at[1]));
            Due.refused(over, "shoresOf beyond", BEYOND, () -> over.shoresOf(at[0], at[1]));
        }
        // Blue has won, and red has no way.
        Due.refused(pond, "stonesNeeded of no player", BEYOND, () -> pond.stonesNeeded(2));
        Due.refused(pond, "stonesNeeded of red", STATE, () -> pond.stonesNeeded(0));
        Due.refused(pond, "stonesNeededThrough of no player", BEYOND, () -> pond.stonesNeededThrough(2, 1, 1));
        Due.refused(pond, "stonesNeededThrough of no cell", BEYOND, () -> pond.stonesNeededThrough(0, 3, 1));
        Due.refused(pond, "stonesNeededThrough of red", STATE, () -> pond.stonesNeededThrough(0, 2, 1));
        Due.refused(pond, "playByPlans(0) when the game is over", IllegalArgumentException.class,
                () -> pond.playByPlans(0));
    }

    // ---- what stands on the pond

    private static void aNewObjectIsEmpty() {
        HexPond pond = new HexPond();
        Due.same("columns()", pond.columns(), 7);
        Due.same("rows()", pond.rows(), 7);
        Due.same("plans()", pond.plans(), 0);
        Due.same("emptyCells()", pond.emptyCells(), 49);
        Due.same("stonesOf(0)", pond.stonesOf(0), 0);
        Due.same("stonesOf(1)", pond.stonesOf(1), 0);
        Due.same("isEmpty(0, 0)", pond.isEmpty(0, 0), true);
        Due.same("isEmpty(6, 6)", pond.isEmpty(6, 6), true);
        Due.refused(pond, "isEmpty(7, 6)", BEYOND, () -> pond.isEmpty(7, 6));
        Due.refused(pond, "isEmpty(6, 7)", BEYOND, () -> pond.isEmpty(6, 7));
        Due.same("plannedCell()", pond.plannedCell(), -1);
        Due.same("stonesToTakeBack()", pond.stonesToTakeBack(), 0);
        Due.same("tapeBytes()", pond.tapeBytes(), 0);
        // Another object is none of its own.
        new HexPond().layStone(3, 3);
        Due.same("isEmpty(3, 3)", pond.isEmpty(3, 3), true);
    }

    /** Lays the whole pond of 9 by 9 full; the middle, which is laid last, decides the game. */
    static HexPond laidFullButTheMiddle() {
        HexPond pond = Due.game("pond 9 by 9;");
        int[][] cells = new int[2][40];
        int[] found = new int[2];
        for (int cell = 0; cell < 81; cell++) {
            int row = cell / 9;
            int player = row == 4 ? 0 : cell % 9 == 4 ? 1 : row < 4 ? 0 : 1;
            if (cell != 40) {
                cells[player][found[player]++] = cell;
            }
        }
        for (int i = 0; i < 80; i++) {
            int cell = cells[i % 2][i / 2];
            pond.layStone(cell % 9, cell / 9);
        }
        return pond;
    }

    private static void stonesToTakeBackFromNoneToAll() {
        Due.same("stonesToTakeBack() of a new object", new HexPond().stonesToTakeBack(), 0);
        Due.same("stonesToTakeBack() of a full pond that was told", Due.game(FULL).stonesToTakeBack(), 0);
        HexPond pond = laidFullButTheMiddle();
        Due.same("stonesToTakeBack() of all but one", pond.stonesToTakeBack(), 80);
        pond.layStone(4, 4);
        for (int left = 81; left > 0; left--) {
            Due.same("stonesToTakeBack()", pond.stonesToTakeBack(), left);
            pond.takeBack();
        }
        Due.same("stonesToTakeBack() at the end", pond.stonesToTakeBack(), 0);
        Due.refused(pond, "takeBack() at the end", STATE, pond::takeBack);
    }

    private static void emptyCellsFromNoneToAll() {
        Due.same("emptyCells() of the smallest pond", Due.game("pond 3 by 3;").emptyCells(), 9);
        Due.same("emptyCells() of 3 by 9", Due.game("pond 3 by 9;").emptyCells(), 27);
        Due.same("emptyCells() of a full pond", Due.game(FULL).emptyCells(), 0);
        HexPond pond = laidFullButTheMiddle();
        Due.same("emptyCells() but the middle", pond.emptyCells(), 1);
        pond.layStone(4, 4);
        Due.same("emptyCells() of 81 stones", pond.emptyCells(), 0);
        for (int left = 1; left <= 81; left++) {
            pond.takeBack();
            Due.same("emptyCells()", pond.emptyCells(), left);
        }
    }

    private static void stonesFromNoneToAll() {
        HexPond none = new HexPond();
        Due.same("stonesOf(0) of none", none.stonesOf(0), 0);
        Due.same("stonesOf(1) of none", none.stonesOf(1), 0);
        String[] players = {"red", "blue"};
        for (int player = 0; player < 2; player++) {
            StringBuilder game = new StringBuilder();
            for (int cell = 0; cell < 49; cell++) {
                game.append("stone ").append(players[player]).append(' ').append(cell % 7).append(',')
                        .append(cell / 7).append(';');
            }
            HexPond pond = Due.game(game.toString());
            Due.same("stonesOf() of all", pond.stonesOf(player), 49);
            Due.same("stonesOf() of the other", pond.stonesOf(1 - player), 0);
        }
        HexPond pond = laidFullButTheMiddle();
        pond.layStone(4, 4);
        Due.same("stonesOf(0) of a full pond", pond.stonesOf(0), 41);
        Due.same("stonesOf(1) of a full pond", pond.stonesOf(1), 40);
    }

    private static void stonesOfNoPlayer() {
        refusesNoPlayers("stonesOf", HexPond::stonesOf);
    }

    private static void cornersAreEmptyOrNot() {
        int[][] corners = {{0, 0}, {3, 0}, {0, 4}, {3, 4}};
        for (int[] at : corners) {
            HexPond pond = Due.game("pond 4 by 5;stone blue " + at[0] + "," + at[1] + ";");
            for (int[] other : corners) {
                Due.same("isEmpty(" + other[0] + ", " + other[1] + ")", pond.isEmpty(other[0], other[1]), at != other);
            }
        }
        HexPond full = Due.game(FULL);
        HexPond empty = Due.game("pond 3 by 3;");
        for (int cell = 0; cell < 9; cell++) {
            Due.same("isEmpty() of a full pond", full.isEmpty(cell % 3, cell / 3), false);
            Due.same("isEmpty() of an empty pond", empty.isEmpty(cell % 3, cell / 3), true);
        }
    }

    private static void isEmptyOfNoCell() {
        refusesCellsBeyond("isEmpty", HexPond::isEmpty);
    }

    private static void ownersAtTheCorners() {
        HexPond pond = Due.game("pond 4 by 5;stone red 0,0;stone blue 3,0;stone blue 0,4;stone red 3,4;");
        Due.same("ownerOf(0, 0)", pond.ownerOf(0, 0), 0);
        Due.same("ownerOf(3, 0)", pond.ownerOf(3, 0), 1);
        Due.same("ownerOf(0, 4)", pond.ownerOf(0, 4), 1);
        Due.same("ownerOf(3, 4)", pond.ownerOf(3, 4), 0);
        pond.layStone(1, 1);
        Due.same("ownerOf(1, 1)", pond.ownerOf(1, 1), 0);
        pond.layStone(2, 3);
        Due.same("ownerOf(2, 3)", pond.ownerOf(2, 3), 1);
    }

    private static void ownerOfNoCell() {
        refusesCellsBeyond("ownerOf", HexPond::ownerOf);
    }

    private static void ownerOfAnEmptyCell() {
        HexPond pond = Due.game("pond 3 by 3;stone red 1,1;");
        for (int cell = 0; cell < 9; cell++) {
            int column = cell % 3;
            int row = cell / 3;
            if (cell != 4) {
                Due.refused(pond, "ownerOf the empty cell " + cell, STATE, () -> pond.ownerOf(column, row));
            }
        }
        pond.layStone(2, 2);
        pond.takeBack();
        Due.refused(pond, "ownerOf a cell of a stone taken back", STATE, () -> pond.ownerOf(2, 2));
    }

    private static void won(String game, boolean red, boolean blue) {
        HexPond pond = Due.game(game);
        Due.same("hasWon(0) of " + game, pond.hasWon(0), red);
        Due.same("hasWon(1) of " + game, pond.hasWon(1), blue);
        Due.same("isOver() of " + game, pond.isOver(), red || blue);
    }

    private static void eitherPlayerHasWon() {
        won("", false, false);
        won("pond 3 by 3;", false, false);
        won(RED_HAS_WON, true, false);
        won(BLUE_HAS_WON, false, true);
        won(FULL, true, false);
        won(FULL.replace("red", "BLUE").replace("blue", "red").replace("BLUE", "blue"), false, true);
        won(RED_HAS_WON.replace("red", "blue"), false, false);
        won(BLUE_HAS_WON.replace("blue", "red"), false, false);
    }

    private static void hasWonOfNoPlayer() {
        refusesNoPlayers("hasWon", HexPond::hasWon);
        HexPond over = Due.game(RED_HAS_WON);
        for (int player : NO_PLAYERS) {
            Due.refused(over, "hasWon when the game is over", BEYOND, () -> over.hasWon(player));
        }
    }

    private static void emptyAndFullPonds() {
        Due.same("isOver() of an empty pond", new HexPond().isOver(), false);
        Due.same("isOver() of a full pond", Due.game(FULL).isOver(), true);
        HexPond pond = laidFullButTheMiddle();
        Due.same("isOver() of all but one stone", pond.isOver(), false);
        pond.layStone(4, 4);
        Due.same("isOver() of all stones", pond.isOver(), true);
        pond.takeBack();
        Due.same("isOver() with one taken back", pond.isOver(), false);
    }
}
