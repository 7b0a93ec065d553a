/** Boundary cases of ways, winning cells, and stones by hand: each method is of one sentence. */
final class WaysBounds {
    private static final String POND = "2. The pond";
    private static final Class<IllegalStateException> STATE = IllegalStateException.class;

    /** Blue has the middle column: blue has won, red has no way. */
    private static final String WALL = "pond 3 by 3;stone blue 1,0;stone blue 1,1;stone blue 1,2;stone red 0,0;";

    private WaysBounds() {
    }

    static void test(Sentences its) {
        its.of(POND, "Way of a player: cells, one beside the other, from one shore of the player to the other one,"
                + " none of which has a stone of the other player", WaysBounds::waysGoAroundTheOther);
        its.of(POND, "It needs as many stones as it has empty cells", WaysBounds::fromNoStoneToAll);
        its.of(POND, "A player needs the fewest stones of all ways", WaysBounds::theCheapestWayCounts);
        its.of(POND, "Through a cell (which has no stone of the other player) a way needs the fewest empty cells from"
                + " one shore to it, and from it to the other shore, added, the cell itself counted once",
                WaysBounds::theCellItselfCountsOnce);
        its.of(POND, "so one that is on both halves counts twice", WaysBounds::bothHalvesCountTwice);
        its.of(POND, "Winning cell of a player: an empty one such that, with a stone of the player on it, this player"
                + " has won", WaysBounds::whoHasWonWinsAtEachEmptyCell);

        its.of("Promise 28", "Returns how many stones this one needs", WaysBounds::needsFromNoneToNine);
        its.of("Promise 28", "Throws IndexOutOfBoundsException if there is no such player",
                WaysBounds::stonesNeededOfNoPlayer);
        its.of("Promise 28", "Throws IllegalStateException if there is no way of this one",
                WaysBounds::stonesNeededWithoutAWay);
        its.of("Promise 29", "Returns the fewest stones that a way of this player needs that goes through the cell"
                + " there", WaysBounds::throughFromNoneToMany);
        its.of("Promise 29", "Throws IndexOutOfBoundsException if there is no such player or cell",
                WaysBounds::throughNoCell);
        its.of("Promise 29", "Throws IllegalStateException if there is no such way", WaysBounds::throughWithoutAWay);
        its.of("Promise 30", "Returns whether the cell there is a winning cell of this player",
                WaysBounds::oneCellJoinsTheShores);
        its.of("Promise 30", "Throws IndexOutOfBoundsException if there is no such player or cell",
                WaysBounds::isWinningCellOfNoCell);
        its.of("Promise 31", "Returns how many winning cells this one has", WaysBounds::winningCellsFromNoneToAll);
        its.of("Promise 31", "Throws IndexOutOfBoundsException if there is no such player",
                WaysBounds::winningCellsOfNoPlayer);

        its.of("Promise 32", "Lays a stone of the player whose turn it is", WaysBounds::theFirstAndTheLastStone);
        its.of("Promise 32", "Returns this player", WaysBounds::theOneBehindLaysOn);
        its.of("Promise 32", "Throws IndexOutOfBoundsException if there is no such cell", WaysBounds::layStoneAtNoCell);
        its.of("Promise 32", "Throws IllegalStateException if the game is over, or the cell is not empty",
                WaysBounds::layStoneIsRefused);
        its.of("Promise 33", "Takes back the latest stone of those that were laid by hand or by plans",
                WaysBounds::handAndPlansAreTakenBack);
        its.of("Promise 33", "Returns the number of its cell", WaysBounds::allStonesAreTakenBack);
        its.of("Promise 33", "Throws IllegalStateException if there is none", WaysBounds::nothingToTakeBack);
    }

    private static void needs(String game, int player, int due) {
        HexPond pond = Due.game(game);
        if (due < 0) {
            Due.refused(pond, "stonesNeeded(" + player + ") of " + game, STATE, () -> pond.stonesNeeded(player));
        } else {
            Due.same("stonesNeeded(" + player + ") of " + game, pond.stonesNeeded(player), due);
        }
    }

    private static void through(String game, int player, int column, int row, int due) {
        HexPond pond = Due.game(game);
        String what = "stonesNeededThrough(" + player + ", " + column + ", " + row + ") of " + game;
        if (due < 0) {
            Due.refused(pond, what, STATE, () -> pond.stonesNeededThrough(player, column, row));
        } else {
            Due.same(what, pond.stonesNeededThrough(player, column, row), due);
        }
    }

    // ---- ways

    private static void waysGoAroundTheOther() {
        String wall = "pond 5 by 4;stone blue 2,0;stone blue 2,1;";
        needs(wall, 0, 5);
        needs(wall, 1, 2);
        needs(wall + "stone blue 2,2;", 0, 5);
        needs(wall + "stone blue 2,2;stone blue 1,3;", 0, -1);
        needs(wall + "stone blue 2,2;stone blue 2,3;", 0, -1);
        needs(wall + "stone blue 2,2;stone blue 2,3;", 1, 0);
        // A way of blue may not go over red's stone, though it be the only one.
        needs("pond 3 by 3;stone blue 1,0;stone red 0,1;stone red 1,1;stone blue 1,2;", 1, 2);
        needs("pond 3 by 3;stone red 0,1;stone red 1,1;stone red 2,1;", 1, -1);
        // (0, 0), (1, 1), (2, 2) are not beside each other, so a way goes between them.
        needs("pond 3 by 3;stone red 0,0;stone red 1,1;stone red 2,2;", 1, 3);
        needs("pond 3 by 3;stone red 0,2;stone red 1,1;stone red 2,0;", 1, -1);
    }

    private static void fromNoStoneToAll() {
        StringBuilder game = new StringBuilder("pond 9 by 3;");
        for (int column = 0; column < 9; column++) {
            needs(game.toString(), 0, 9 - column);
            game.append("stone red ").append(column).append(",1;");
        }
        needs(game.toString(), 0, 0);
        needs(game.toString(), 1, -1);
        needs("pond 3 by 9;", 1, 9);
        needs("pond 3 by 9;stone blue 1,4;", 1, 8);
        needs("pond 3 by 9;stone blue 1,4;stone blue 1,5;", 1, 7);
    }

    private static void theCheapestWayCounts() {
        needs("pond 5 by 5;stone red 0,0;stone red 1,0;stone red 0,4;stone red 1,4;stone red 2,4;", 0, 2);
        needs("pond 5 by 5;stone red 0,0;stone red 1,0;stone red 0,4;stone red 1,4;stone red 2,4;stone blue 3,4;", 0,
                2);
        needs("pond 5 by 5;stone red 0,0;stone red 1,0;stone red 0,4;stone red 1,4;stone red 2,4;stone blue 3,4;"
                + "stone blue 3,3;", 0, 3);
        // A longer way over own stones needs fewer than a straight one.
        needs("pond 4 by 4;stone blue 1,0;stone blue 1,1;stone red 0,0;stone red 0,1;stone red 0,2;stone red 1,2;"
                + "stone red 2,1;stone red 2,0;", 0, 1);
        needs("pond 9 by 9;", 0, 9);
        needs("pond 3 by 9;", 0, 3);
        needs("pond 9 by 3;", 1, 3);
    }

    private static void theCellItselfCountsOnce() {
        for (int column = 0; column < 3; column++) {
            for (int row = 0; row < 9; row++) {
                through("pond 3 by 9;", 0, column, row, 3);
                through("pond 3 by 9;", 1, column, row, 9);
            }
        }
        // A cell with an own stone counts nothing.
        through("pond 3 by 3;stone red 0,0;", 0, 0, 0, 2);
        through("pond 3 by 3;stone red 1,1;", 0, 1, 1, 2);
        through("pond 3 by 3;stone red 2,2;", 0, 2, 2, 2);
        through("pond 3 by 3;stone red 0,1;stone red 1,1;stone red 2,1;", 0, 1, 1, 0);
        through("pond 3 by 3;stone red 0,1;stone red 1,1;stone red 2,1;", 0, 1, 0, 1);
        through("pond 3 by 3;stone red 0,1;stone red 1,1;stone red 2,1;", 0, 0, 1, 0);
        through("pond 3 by 3;stone red 1,1;", 1, 1, 1, -1);
    }

    private static void bothHalvesCountTwice() {
        // To (1, 0) and back from it there is one cell alone, (1, 1).
        String dead = "pond 3 by 3;stone blue 0,0;stone blue 2,0;stone blue 0,1;";
        needs(dead, 0, 3);
        through(dead, 0, 1, 0, 5);
        through(dead, 0, 1, 1, 3);
        through(dead + "stone red 1,1;", 0, 1, 0, 3);
        through(dead + "stone red 1,1;stone red 1,0;", 0, 1, 0, 2);
        // A dead end of two cells behind (1, 2): each cell on both halves counts once more.
        String deep = "pond 4 by 5;stone blue 0,0;stone blue 0,1;stone blue 0,2;stone blue 2,0;stone blue 2,1;"
                + "stone blue 3,0;";
        through(deep, 0, 1, 2, 4);
        through(deep, 0, 1, 1, 6);
        through(deep, 0, 1, 0, 8);
    }

    private static void needsFromNoneToNine() {
        for (int columns = 3; columns <= 9; columns++) {
            int rows = 12 - columns;
            HexPond pond = Due.game("pond " + columns + " by " + rows + ";");
            Due.same("stonesNeeded(0) of an empty pond", pond.stonesNeeded(0), columns);
            Due.same("stonesNeeded(1) of an empty pond", pond.stonesNeeded(1), rows);
        }
        needs("pond 3 by 3;stone red 0,1;stone red 1,1;stone red 2,1;", 0, 0);
        needs("pond 3 by 3;stone blue 0,2;stone blue 1,1;stone blue 2,0;", 1, 0);
        needs("pond 3 by 3;stone red 0,1;stone red 1,1;", 0, 1);
        // A way that winds along the whole pond, and nothing else is left.
        String winding = "pond 9 by 3;stone blue 1,0;stone blue 1,1;stone blue 3,1;stone blue 3,2;stone blue 5,0;"
                + "stone blue 5,1;stone blue 7,1;stone blue 7,2;";
        needs(winding, 0, 11);
    }

    private static void stonesNeededOfNoPlayer() {
        PondBounds.refusesNoPlayers("stonesNeeded", HexPond::stonesNeeded);
    }

    private static void stonesNeededWithoutAWay() {
        needs(WALL, 0, -1);
        needs(WALL, 1, 0);
        needs(WALL.replace("stone blue 1,1;", ""), 0, 3);
        HexPond pond = Due.game("pond 3 by 3;stone red 0,1;stone red 1,1;stone blue 0,0;stone blue 1,0;");
        Due.same("stonesNeeded(1) ahead of the end", pond.stonesNeeded(1), 3);
        pond.layStone(2, 1);
        Due.refused(pond, "stonesNeeded(1) at the end", STATE, () -> pond.stonesNeeded(1));
        Due.same("stonesNeeded(0) at the end", pond.stonesNeeded(0), 0);
        pond.takeBack();
        Due.same("stonesNeeded(1) again", pond.stonesNeeded(1), 3);
    }

    private static void throughFromNoneToMany() {
        through("", 0, 0, 0, 7);
        through("", 0, 6, 6, 7);
        through("", 1, 0, 6, 7);
        through("pond 9 by 9;stone red 4,4;", 0, 4, 4, 8);
        through("pond 9 by 9;stone red 4,4;", 0, 8, 8, 9);
        through("pond 3 by 3;stone red 0,1;stone red 1,1;", 0, 2, 0, 1);
        through("pond 3 by 3;stone red 0,1;stone red 1,1;", 0, 2, 1, 1);
        through("pond 3 by 3;stone red 0,1;stone red 1,1;", 0, 2, 2, 2);
        through("pond 3 by 3;stone red 0,1;stone red 1,1;stone red 2,1;", 0, 2, 1, 0);
        through("pond 3 by 3;stone red 0,1;stone red 1,1;stone red 2,1;", 0, 2, 2, 1);
    }

    private static void throughNoCell() {
        PondBounds.refusesCellsBeyond("stonesNeededThrough(0)",
                (pond, column, row) -> pond.stonesNeededThrough(0, column, row));
        PondBounds.refusesCellsBeyond("stonesNeededThrough(1)",
                (pond, column, row) -> pond.stonesNeededThrough(1, column, row));
        PondBounds.refusesNoPlayers("stonesNeededThrough", (pond, player) -> pond.stonesNeededThrough(player, 0, 0));
        PondBounds.refusesNoPlayers("stonesNeededThrough at no cell",
                (pond, player) -> pond.stonesNeededThrough(player, 9, 9));
    }

    private static void throughWithoutAWay() {
        // Without any way: an empty cell, the own stone, and the other's stone.
        through(WALL, 0, 2, 2, -1);
        through(WALL, 0, 0, 1, -1);
        through(WALL, 0, 0, 0, -1);
        through(WALL, 0, 1, 1, -1);
        through(WALL, 1, 1, 1, 0);
        through(WALL, 1, 0, 0, -1);
        through(WALL, 1, 2, 2, 1);
        // With ways, but none through a corner that is shut in, nor through the other's stones.
        String shut = "pond 3 by 3;stone blue 1,0;stone blue 0,1;";
        through(shut, 0, 0, 0, -1);
        through(shut, 0, 1, 0, -1);
        through(shut, 0, 0, 1, -1);
        through(shut, 0, 0, 2, 3);
        through(shut + "stone red 0,0;", 0, 0, 0, -1);
    }

    // ---- winning cells

    private static void whoHasWonWinsAtEachEmptyCell() {
        HexPond red = Due.game("pond 3 by 3;stone red 0,1;stone red 1,1;stone red 2,1;stone blue 0,0;");
        boolean[] due = {false, true, true, false, false, false, true, true, true};
        for (int cell = 0; cell < 9; cell++) {
            Due.same("isWinningCell of red at " + cell, red.isWinningCell(0, cell % 3, cell / 3), due[cell]);
            Due.same("isWinningCell of blue at " + cell, red.isWinningCell(1, cell % 3, cell / 3), false);
        }
        Due.same("winningCells(0)", red.winningCells(0), 5);
        Due.same("winningCells(1)", red.winningCells(1), 0);
        HexPond blue = Due.game(WALL);
        Due.same("winningCells(1) of blue", blue.winningCells(1), 5);
        Due.same("winningCells(0) of red", blue.winningCells(0), 0);
        HexPond shut = Due.game("pond 3 by 4;stone red 0,3;stone red 1,3;stone red 2,3;stone blue 1,0;stone blue 0,1;");
        Due.same("a corner that is shut in wins, too", shut.isWinningCell(0, 0, 0), true);
    }

    private static void oneCellJoinsTheShores() {
        HexPond pond = Due.game("pond 3 by 3;stone red 0,1;stone red 1,1;");
        for (int cell = 0; cell < 9; cell++) {
            Due.same("isWinningCell of red at " + cell, pond.isWinningCell(0, cell % 3, cell / 3),
                    cell == 2 || cell == 5);
            Due.same("isWinningCell of blue at " + cell, pond.isWinningCell(1, cell % 3, cell / 3), false);
        }
        HexPond gap = Due.game("pond 3 by 3;stone blue 1,0;stone blue 1,2;stone red 0,0;");
        Due.same("a gap between two groups", gap.isWinningCell(1, 1, 1), true);
        Due.same("of the other player", gap.isWinningCell(0, 1, 1), false);
        Due.same("a cell with an own stone", gap.isWinningCell(1, 1, 0), false);
        Due.same("a cell with the other's stone", gap.isWinningCell(1, 0, 0), false);
        HexPond far = Due.game("pond 9 by 3;stone red 0,1;stone red 1,1;stone red 2,1;stone red 3,1;stone red 5,1;"
                + "stone red 6,1;stone red 7,1;stone red 8,1;");
        Due.same("winningCells(0) of a gap", far.winningCells(0), 1);
        Due.same("the gap", far.isWinningCell(0, 4, 1), true);
        Due.same("two cells short", Due.game("pond 3 by 3;stone red 0,1;").winningCells(0), 0);
    }

    private static void isWinningCellOfNoCell() {
        PondBounds.refusesCellsBeyond("isWinningCell(0)", (pond, column, row) -> pond.isWinningCell(0, column, row));
        PondBounds.refusesCellsBeyond("isWinningCell(1)", (pond, column, row) -> pond.isWinningCell(1, column, row));
        PondBounds.refusesNoPlayers("isWinningCell", (pond, player) -> pond.isWinningCell(player, 0, 0));
        PondBounds.refusesNoPlayers("isWinningCell at no cell", (pond, player) -> pond.isWinningCell(player, 9, 9));
    }

    private static void winningCellsFromNoneToAll() {
        HexPond none = new HexPond();
        Due.same("winningCells(0) of an empty pond", none.winningCells(0), 0);
        Due.same("winningCells(1) of an empty pond", none.winningCells(1), 0);
        HexPond full = PondBounds.laidFullButTheMiddle();
        Due.same("winningCells(0) with the middle left", full.winningCells(0), 1);
        Due.same("winningCells(1) with the middle left", full.winningCells(1), 1);
        full.layStone(4, 4);
        Due.same("winningCells(0) of a full pond", full.winningCells(0), 0);
        Due.same("winningCells(1) of a full pond", full.winningCells(1), 0);
        StringBuilder row = new StringBuilder("pond 9 by 9;");
        for (int column = 0; column < 9; column++) {
            row.append("stone red ").append(column).append(",8;");
        }
        Due.same("winningCells(0) of a row", Due.game(row.toString()).winningCells(0), 72);
        Due.same("winningCells(1) of a row", Due.game(row.toString()).winningCells(1), 0);
    }

    private static void winningCellsOfNoPlayer() {
        PondBounds.refusesNoPlayers("winningCells", HexPond::winningCells);
    }

    // ---- by hand

    private static void theFirstAndTheLastStone() {
        HexPond pond = new HexPond();
        Due.same("the first stone", pond.layStone(0, 0), 0);
        Due.same("ownerOf(0, 0)", pond.ownerOf(0, 0), 0);
        Due.same("the second stone", pond.layStone(6, 6), 1);
        Due.same("ownerOf(6, 6)", pond.ownerOf(6, 6), 1);
        HexPond full = PondBounds.laidFullButTheMiddle();
        Due.same("the last stone", full.layStone(4, 4), 0);
        Due.same("ownerOf(4, 4)", full.ownerOf(4, 4), 0);
        Due.same("emptyCells()", full.emptyCells(), 0);
    }

    private static void theOneBehindLaysOn() {
        HexPond red = Due.game("stone red 0,0;stone red 2,2;stone red 4,4;");
        int[] due = {1, 1, 1, 0, 1, 0};
        for (int i = 0; i < due.length; i++) {
            Due.same("layStone " + i, red.layStone(6, i), due[i]);
        }
        HexPond blue = Due.game("stone blue 0,0;stone blue 2,2;");
        int[] dueOfBlue = {0, 0, 0, 1, 0, 1};
        for (int i = 0; i < dueOfBlue.length; i++) {
            Due.same("layStone " + i, blue.layStone(6, i), dueOfBlue[i]);
        }
    }

    private static void layStoneAtNoCell() {
        PondBounds.refusesCellsBeyond("layStone", HexPond::layStone);
    }

    private static void layStoneIsRefused() {
        HexPond pond = Due.game("pond 3 by 3;stone red 0,1;stone blue 2,2;");
        Due.refused(pond, "layStone on a told red stone", STATE, () -> pond.layStone(0, 1));
        Due.refused(pond, "layStone on a told blue stone", STATE, () -> pond.layStone(2, 2));
        pond.layStone(1, 1);
        Due.refused(pond, "layStone on a laid stone", STATE, () -> pond.layStone(1, 1));
        pond.layStone(0, 0);
        pond.layStone(2, 1);
        for (int cell = 0; cell < 9; cell++) {
            int column = cell % 3;
            int row = cell / 3;
            Due.refused(pond, "layStone when red has won, at " + cell, STATE, () -> pond.layStone(column, row));
        }
        HexPond blue = Due.game(WALL);
        Due.refused(blue, "layStone when blue has won", STATE, () -> blue.layStone(2, 2));
        HexPond full = PondBounds.laidFullButTheMiddle();
        full.layStone(4, 4);
        Due.refused(full, "layStone on a full pond", STATE, () -> full.layStone(4, 4));
    }

    private static void handAndPlansAreTakenBack() {
        HexPond pond = Due.game("pond 3 by 3;stone red 0,2;plan blue at 2,2;plan red at 1,2;");
        Due.same("by hand", pond.layStone(0, 0), 1);
        Due.same("by plans", pond.playByPlans(2), 2);
        Due.same("by hand again", pond.layStone(2, 0), 0);
        int[] due = {2, 8, 7, 0};
        for (int cell : due) {
            Due.same("takeBack()", pond.takeBack(), cell);
            Due.same("the cell is empty again", pond.isEmpty(cell % 3, cell / 3), true);
        }
        Due.refused(pond, "takeBack() of a told stone", STATE, pond::takeBack);
        Due.same("the told stone", pond.ownerOf(0, 2), 0);
        // What would be played by plans is not laid.
        pond.stonesByPlans();
        pond.winnerByPlans();
        pond.bestCell();
        pond.plannedCell();
        Due.refused(pond, "takeBack() behind what would be", STATE, pond::takeBack);
    }

    private static void allStonesAreTakenBack() {
        HexPond pond = PondBounds.laidFullButTheMiddle();
        pond.layStone(4, 4);
        int middle = pond.takeBack();
        Due.same("takeBack() of the last stone, when the game is over", middle, 40);
        boolean[] taken = new boolean[81];
        taken[middle] = true;
        for (int i = 79; i >= 0; i--) {
            int cell = pond.takeBack();
            boolean isNew = cell >= 0 && cell < 81 && !taken[cell];
            Due.same("takeBack() of another cell", isNew, true);
            if (isNew) {
                taken[cell] = true;
                Due.same("its cell is empty", pond.isEmpty(cell % 9, cell / 9), true);
            }
            Due.same("emptyCells()", pond.emptyCells(), 81 - i);
        }
        HexPond corners = Due.game("pond 4 by 5;");
        int[][] cells = {{0, 0}, {3, 0}, {0, 4}, {3, 4}};
        int[] due = {0, 3, 16, 19};
        for (int[] at : cells) {
            corners.layStone(at[0], at[1]);
        }
        for (int i = 3; i >= 0; i--) {
            Due.same("takeBack() of a corner", corners.takeBack(), due[i]);
        }
    }

    private static void nothingToTakeBack() {
        HexPond fresh = new HexPond();
        Due.refused(fresh, "takeBack() of a new object", STATE, fresh::takeBack);
        HexPond told = Due.game("stone red 0,0;stone blue 1,1;");
        Due.refused(told, "takeBack() of told stones", STATE, told::takeBack);
        told.layStone(3, 3);
        Due.same("takeBack() of one", told.takeBack(), 24);
        Due.refused(told, "takeBack() once more", STATE, told::takeBack);
        told.layStone(3, 3);
        told.teach();
        Due.refused(told, "takeBack() behind teach()", STATE, told::takeBack);
    }
}
