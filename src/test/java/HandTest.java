/** Promises 32 and 33, and what they leave: stones laid by hand and taken back. */
public final class HandTest {
    private static final Class<IndexOutOfBoundsException> BEYOND = IndexOutOfBoundsException.class;
    private static final Class<IllegalStateException> STATE = IllegalStateException.class;

    public static void main(String[] args) {
        playersLayTurnByTurn();
        stonesAreRefused();
        stonesAreTakenBackFromTheLatest();
        stonesByPlansAreTakenBack();
        aLongGameIsTakenBack();
        theLastOfAllCellsEndsAGame();
        Due.end("HandTest");
    }

    private static void playersLayTurnByTurn() {
        HexPond pond = Due.game("pond 3 by 4;");
        Due.same("red first", pond.layStone(2, 3), 0);
        Due.same("then blue", pond.layStone(0, 0), 1);
        Due.same("ownerOf(2, 3)", pond.ownerOf(2, 3), 0);
        Due.same("ownerOf(0, 0)", pond.ownerOf(0, 0), 1);
        Due.same("playerInTurn()", pond.playerInTurn(), 0);
        Due.same("stonesToTakeBack()", pond.stonesToTakeBack(), 2);
        HexPond behind = Due.game("stone red 0,0;stone red 2,2;");
        Due.same("blue is behind", behind.layStone(5, 5), 1);
        Due.same("and once more", behind.layStone(5, 4), 1);
        Due.same("then red", behind.layStone(4, 4), 0);
    }

    private static void stonesAreRefused() {
        HexPond pond = Due.game("pond 3 by 4;stone red 0,0;");
        pond.layStone(1, 1);
        Due.refused(pond, "a told stone's cell", STATE, () -> pond.layStone(0, 0));
        Due.refused(pond, "a laid stone's cell", STATE, () -> pond.layStone(1, 1));
        int[][] beyond = {{3, 0}, {0, 4}, {-1, 0}, {0, -1}, {Integer.MIN_VALUE, 0}, {Integer.MAX_VALUE, 3}};
        for (int[] at : beyond) {
            Due.refused(pond, "a cell beyond the pond", BEYOND, () -> pond.layStone(at[0], at[1]));
        }
        HexPond over = Due.game("pond 3 by 3;stone red 0,1;stone red 1,1;stone red 2,1;");
        Due.refused(over, "an empty cell when the game is over", STATE, () -> over.layStone(0, 0));
        Due.refused(over, "a cell beyond the pond when the game is over", BEYOND, () -> over.layStone(3, 0));
    }

    private static void stonesAreTakenBackFromTheLatest() {
        HexPond pond = Due.game("pond 3 by 3;stone red 2,2;stone blue 2,0;");
        long before = pond.digest();
        int[][] cells = {{0, 1}, {0, 0}, {1, 1}, {1, 0}, {2, 1}};
        for (int[] at : cells) {
            Due.same("isOver()", pond.isOver(), false);
            pond.layStone(at[0], at[1]);
        }
        Due.same("red has won", pond.hasWon(0), true);
        Due.same("stonesToTakeBack()", pond.stonesToTakeBack(), 5);
        Due.refused(pond, "playerInTurn()", STATE, pond::playerInTurn);
        for (int i = 4; i >= 0; i--) {
            Due.same("takeBack()", pond.takeBack(), cells[i][1] * 3 + cells[i][0]);
            Due.same("the cell is empty again", pond.isEmpty(cells[i][0], cells[i][1]), true);
            Due.same("isOver()", pond.isOver(), false);
            Due.same("playerInTurn()", pond.playerInTurn(), i % 2);
        }
        Due.same("digest() as before", pond.digest(), before);
        Due.refused(pond, "takeBack() of told stones", STATE, pond::takeBack);
        Due.same("stonesOf(0)", pond.stonesOf(0), 1);
        HexPond fresh = new HexPond();
        Due.refused(fresh, "takeBack() of a new object", STATE, fresh::takeBack);
    }

    private static void stonesByPlansAreTakenBack() {
        HexPond pond = Due.game("pond 3 by 3;plan blue at 2,2;plan red at 1,2;");
        pond.layStone(0, 0);
        Due.same("playByPlans(2)", pond.playByPlans(2), 2);
        pond.layStone(2, 0);
        Due.same("stonesToTakeBack()", pond.stonesToTakeBack(), 4);
        Due.same("takeBack() by hand", pond.takeBack(), 2);
        Due.same("takeBack() by plans", pond.takeBack(), 7);
        Due.same("takeBack() by plans", pond.takeBack(), 8);
        Due.same("takeBack() by hand", pond.takeBack(), 0);
        Due.refused(pond, "takeBack()", STATE, pond::takeBack);
    }

    /** The middle decides: blue has the rest of its column, red the rest of its row. */
    private static void theLastOfAllCellsEndsAGame() {
        HexPond pond = Due.game("pond 9 by 9;");
        int[][] cells = new int[2][40];
        int[] found = new int[2];
        for (int cell = 0; cell < 81; cell++) {
            int column = cell % 9;
            int row = cell / 9;
            int player = row == 4 ? 0 : column == 4 ? 1 : row < 4 ? 0 : 1;
            if (cell != 40) {
                cells[player][found[player]] = cell;
                found[player]++;
            }
        }
        for (int i = 0; i < 80; i++) {
            int cell = cells[i % 2][i / 2];
            Due.same("layStone()", pond.layStone(cell % 9, cell / 9), i % 2);
            Due.same("isOver()", pond.isOver(), false);
        }
        Due.same("mustPlay() has a winning cell", pond.isWinningCell(0, 4, 4) && pond.isWinningCell(1, 4, 4), true);
        Due.same("bestCell()", pond.bestCell(), 40);
        Due.same("layStone(4, 4)", pond.layStone(4, 4), 0);
        Due.same("hasWon(0)", pond.hasWon(0), true);
        Due.same("stonesToTakeBack()", pond.stonesToTakeBack(), 81);
        Due.same("emptyCells()", pond.emptyCells(), 0);
        Due.same("winningCells(0)", pond.winningCells(0), 0);
        Due.same("stonesByPlans()", pond.stonesByPlans(), 0);
        Due.same("takeBack()", pond.takeBack(), 40);
        Due.same("stonesToTakeBack()", pond.stonesToTakeBack(), 80);
        Due.same("isOver()", pond.isOver(), false);
    }

    private static void aLongGameIsTakenBack() {
        HexPond pond = Due.game("pond 9 by 9;");
        int laid = 0;
        for (int cell = 0; cell < 81 && !pond.isOver(); cell++) {
            pond.layStone(cell / 9, cell % 9);
            laid++;
        }
        Due.same("stonesToTakeBack()", pond.stonesToTakeBack(), laid);
        Due.same("emptyCells()", pond.emptyCells(), 81 - laid);
        for (int i = 0; i < laid; i++) {
            pond.takeBack();
        }
        Due.same("emptyCells() again", pond.emptyCells(), 81);
    }
}
