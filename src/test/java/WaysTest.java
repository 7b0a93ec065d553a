/** Promises 28 to 31: how many stones a player needs, and winning cells. */
public final class WaysTest {
    private static final Class<IndexOutOfBoundsException> BEYOND = IndexOutOfBoundsException.class;
    private static final Class<IllegalStateException> STATE = IllegalStateException.class;

    public static void main(String[] args) {
        emptyPondsNeedTheirLength();
        stonesSaveStones();
        theOtherPlayerIsInTheWay();
        halvesOfAWayCountTwice();
        withoutAWay();
        winningCellsJoinTheShores();
        whoHasWonWinsWithEachCell();
        eachCallSeesTheLatestStones();
        wrongPlayersAndCells();
        Due.end("WaysTest");
    }

    private static void emptyPondsNeedTheirLength() {
        HexPond pond = Due.game("pond 4 by 9;");
        Due.same("stonesNeeded(0)", pond.stonesNeeded(0), 4);
        Due.same("stonesNeeded(1)", pond.stonesNeeded(1), 9);
        Due.same("stonesNeededThrough(0, 0, 0)", pond.stonesNeededThrough(0, 0, 0), 4);
        Due.same("stonesNeededThrough(0, 3, 8)", pond.stonesNeededThrough(0, 3, 8), 4);
        Due.same("stonesNeededThrough(1, 0, 0)", pond.stonesNeededThrough(1, 0, 0), 9);
        Due.same("stonesNeededThrough(1, 3, 8)", pond.stonesNeededThrough(1, 3, 8), 9);
    }

    private static void stonesSaveStones() {
        HexPond pond = Due.game("pond 3 by 3;stone red 1,1;");
        Due.same("stonesNeeded(0)", pond.stonesNeeded(0), 2);
        Due.same("stonesNeeded(1)", pond.stonesNeeded(1), 3);
        Due.same("through the stone", pond.stonesNeededThrough(0, 1, 1), 2);
        Due.same("through (0, 1)", pond.stonesNeededThrough(0, 0, 1), 2);
        Due.same("through (2, 0)", pond.stonesNeededThrough(0, 2, 0), 2);
        Due.same("through (0, 0)", pond.stonesNeededThrough(0, 0, 0), 3);
        Due.same("through (1, 0)", pond.stonesNeededThrough(0, 1, 0), 3);
        Due.same("blue through (0, 0)", pond.stonesNeededThrough(1, 0, 0), 3);
        Due.refused(pond, "blue through the red stone", STATE, () -> pond.stonesNeededThrough(1, 1, 1));
        HexPond chain = Due.game("pond 9 by 3;stone red 0,2;stone red 1,1;stone red 3,1;stone red 4,1;"
                + "stone red 6,1;stone red 8,0;");
        Due.same("over gaps of a chain", chain.stonesNeeded(0), 3);
        Due.same("through a stone of a chain", chain.stonesNeededThrough(0, 3, 1), 3);
        Due.same("through (7, 0)", chain.stonesNeededThrough(0, 7, 0), 3);
    }

    private static void theOtherPlayerIsInTheWay() {
        HexPond pond = Due.game("pond 5 by 3;stone blue 2,0;stone blue 2,1;");
        Due.same("red goes around below", pond.stonesNeeded(0), 5);
        Due.same("blue needs the last row", pond.stonesNeeded(1), 1);
        Due.same("red through (1, 0)", pond.stonesNeededThrough(0, 1, 0), 7);
        Due.refused(pond, "red through (2, 1)", STATE, () -> pond.stonesNeededThrough(0, 2, 1));
        pond.layStone(2, 2);
        Due.same("red's own stone (2, 2)", pond.stonesNeeded(0), 4);
        pond.takeBack();
        Due.same("without it", pond.stonesNeeded(0), 5);
    }

    private static void halvesOfAWayCountTwice() {
        HexPond pond = Due.game("pond 3 by 3;stone blue 0,0;stone blue 2,0;stone blue 0,1;");
        Due.same("stonesNeeded(0)", pond.stonesNeeded(0), 3);
        Due.same("through the dead end (1, 0), twice over (1, 1)", pond.stonesNeededThrough(0, 1, 0), 5);
        Due.same("through (1, 1)", pond.stonesNeededThrough(0, 1, 1), 3);
        HexPond joined = Due.game("pond 3 by 3;stone blue 0,0;stone blue 2,0;stone blue 0,1;stone red 1,1;");
        Due.same("twice over a stone counts nothing", joined.stonesNeededThrough(0, 1, 0), 3);
    }

    private static void withoutAWay() {
        HexPond pond = Due.game("pond 3 by 3;stone blue 1,0;stone blue 1,1;stone blue 1,2;stone red 0,0;");
        Due.refused(pond, "stonesNeeded(0)", STATE, () -> pond.stonesNeeded(0));
        Due.refused(pond, "through an empty cell", STATE, () -> pond.stonesNeededThrough(0, 2, 2));
        Due.refused(pond, "through the own stone", STATE, () -> pond.stonesNeededThrough(0, 0, 0));
        Due.refused(pond, "through the other's stone", STATE, () -> pond.stonesNeededThrough(0, 1, 1));
        Due.same("stonesNeeded(1)", pond.stonesNeeded(1), 0);
        Due.same("blue through (1, 1)", pond.stonesNeededThrough(1, 1, 1), 0);
        Due.same("blue through (0, 1)", pond.stonesNeededThrough(1, 0, 1), 1);
        HexPond shut = Due.game("pond 3 by 3;stone blue 1,0;stone blue 0,1;");
        Due.refused(shut, "red through a corner that is shut in", STATE, () -> shut.stonesNeededThrough(0, 0, 0));
        Due.refused(shut, "blue's cell", STATE, () -> shut.stonesNeededThrough(0, 1, 0));
        Due.same("red goes elsewhere", shut.stonesNeeded(0), 3);
    }

    private static void winningCellsJoinTheShores() {
        HexPond pond = Due.game("pond 3 by 3;stone red 0,1;stone red 1,1;");
        Due.same("winningCells(0)", pond.winningCells(0), 2);
        Due.same("winningCells(1)", pond.winningCells(1), 0);
        for (int cell = 0; cell < 9; cell++) {
            Due.same("isWinningCell of red at " + cell, pond.isWinningCell(0, cell % 3, cell / 3),
                    cell == 2 || cell == 5);
            Due.same("isWinningCell of blue at " + cell, pond.isWinningCell(1, cell % 3, cell / 3), false);
        }
        HexPond blue = Due.game("pond 3 by 3;stone blue 1,0;stone blue 1,2;stone red 0,0;");
        Due.same("a winning cell between two groups", blue.winningCells(1), 1);
        Due.same("isWinningCell(1, 1, 1)", blue.isWinningCell(1, 1, 1), true);
        Due.same("isWinningCell(0, 1, 1)", blue.isWinningCell(0, 1, 1), false);
        HexPond corner = Due.game("pond 3 by 3;stone red 1,0;stone red 2,0;");
        Due.same("winningCells() with the corner", corner.winningCells(0), 2);
        Due.same("isWinningCell(0, 0, 0)", corner.isWinningCell(0, 0, 0), true);
        Due.same("isWinningCell(0, 0, 1)", corner.isWinningCell(0, 0, 1), true);
        HexPond taken = Due.game("pond 3 by 3;stone blue 1,0;stone blue 1,2;stone red 1,1;");
        Due.same("a cell that is not empty does not win", taken.winningCells(1), 0);
        Due.same("winningCells of an empty pond", new HexPond().winningCells(0), 0);
    }

    private static void whoHasWonWinsWithEachCell() {
        HexPond pond = Due.game("pond 3 by 3;stone red 0,1;stone red 1,1;stone red 2,1;stone blue 0,0;");
        Due.same("winningCells(0)", pond.winningCells(0), 5);
        Due.same("winningCells(1)", pond.winningCells(1), 0);
        Due.same("isWinningCell(0, 2, 2)", pond.isWinningCell(0, 2, 2), true);
        Due.same("isWinningCell of a stone", pond.isWinningCell(0, 1, 1), false);
        Due.same("isWinningCell of the other's stone", pond.isWinningCell(0, 0, 0), false);
        HexPond full = Due.game("pond 3 by 3;stone red 0,0;stone red 1,0;stone red 2,0;stone blue 0,1;"
                + "stone blue 1,1;stone blue 2,1;stone blue 0,2;stone blue 1,2;stone blue 2,2;");
        Due.same("winningCells of a full pond", full.winningCells(0), 0);
    }

    private static void eachCallSeesTheLatestStones() {
        String two = "pond 3 by 3;stone red 0,1;stone red 1,1;";
        Due.same("stonesNeeded(0) at once", Due.game(two).stonesNeeded(0), 1);
        Due.same("stonesNeeded(1) at once", Due.game(two).stonesNeeded(1), 3);
        Due.same("stonesNeededThrough() at once", Due.game(two).stonesNeededThrough(0, 2, 2), 2);
        Due.same("isWinningCell() at once", Due.game(two).isWinningCell(0, 2, 1), true);
        Due.same("isWinningCell() at once, elsewhere", Due.game(two).isWinningCell(0, 2, 2), false);
        Due.same("winningCells() at once", Due.game(two).winningCells(0), 2);
        Due.same("bridgesOf() at once", Due.game("stone red 1,1;stone red 2,2;").bridgesOf(0), 1);
        Due.same("brokenBridgesOf() at once",
                Due.game("stone red 1,1;stone red 2,2;stone blue 1,2;").brokenBridgesOf(0), 1);
        HexPond pond = new HexPond();
        Due.same("stonesNeeded(0) of 7 by 7", pond.stonesNeeded(0), 7);
        Due.same("bridgesOf(0)", pond.bridgesOf(0), 0);
        Due.teach(pond, "pond 4 by 5;");
        Due.same("stonesNeeded(0) of 4 by 5", pond.stonesNeeded(0), 4);
        Due.same("stonesNeeded(1) of 4 by 5", pond.stonesNeeded(1), 5);
        pond.layStone(0, 2);
        pond.layStone(3, 3);
        pond.layStone(2, 1);
        Due.same("winningCells(0)", pond.winningCells(0), 0);
        Due.same("bridgesOf(0) with a bridge", pond.bridgesOf(0), 1);
        Due.same("stonesNeeded(0) with a bridge", pond.stonesNeeded(0), 2);
        pond.takeBack();
        Due.same("bridgesOf(0) without it", pond.bridgesOf(0), 0);
        Due.same("stonesNeededThrough(0, 0, 0) without it", pond.stonesNeededThrough(0, 0, 0), 4);
    }

    private static void wrongPlayersAndCells() {
        HexPond pond = Due.game("pond 4 by 3;stone blue 1,0;stone blue 1,1;stone blue 1,2;");
        int[] none = {2, -1, Integer.MAX_VALUE};
        for (int player : none) {
            Due.refused(pond, "stonesNeeded", BEYOND, () -> pond.stonesNeeded(player));
            Due.refused(pond, "stonesNeededThrough", BEYOND, () -> pond.stonesNeededThrough(player, 0, 0));
            Due.refused(pond, "isWinningCell", BEYOND, () -> pond.isWinningCell(player, 0, 0));
            Due.refused(pond, "winningCells", BEYOND, () -> pond.winningCells(player));
        }
        int[][] beyond = {{4, 0}, {0, 3}, {-1, 0}, {0, -1}};
        for (int[] at : beyond) {
            for (int player = 0; player < 2; player++) {
                int of = player;
                Due.refused(pond, "stonesNeededThrough", BEYOND, () -> pond.stonesNeededThrough(of, at[0], at[1]));
                Due.refused(pond, "isWinningCell", BEYOND, () -> pond.isWinningCell(of, at[0], at[1]));
            }
        }
    }
}
