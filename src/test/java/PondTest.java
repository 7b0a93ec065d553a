/** Promises 1, 6 to 9, and 11 to 17: the pond, its stones, who has won, and whose turn it is. */
public final class PondTest {
    private static final Class<IndexOutOfBoundsException> BEYOND = IndexOutOfBoundsException.class;
    private static final Class<IllegalStateException> STATE = IllegalStateException.class;

    public static void main(String[] args) {
        aNewObjectIsEmpty();
        columnsAndRowsBoundTheCells();
        stonesAreCounted();
        ownersAreTold();
        redWinsFromColumnToColumn();
        blueWinsFromRowToRow();
        aGroupMustHangTogether();
        turnsFollowTheStones();
        Due.end("PondTest");
    }

    private static void aNewObjectIsEmpty() {
        HexPond pond = new HexPond();
        Due.same("columns()", pond.columns(), 7);
        Due.same("rows()", pond.rows(), 7);
        Due.same("plans()", pond.plans(), 0);
        Due.same("stonesToTakeBack()", pond.stonesToTakeBack(), 0);
        Due.same("tapeBytes()", pond.tapeBytes(), 0);
        Due.same("errorAt()", pond.errorAt(), -1);
        Due.same("emptyCells()", pond.emptyCells(), 49);
        Due.same("isOver()", pond.isOver(), false);
        Due.same("playerInTurn()", pond.playerInTurn(), 0);
        for (int player = 0; player < 2; player++) {
            Due.same("stonesOf()", pond.stonesOf(player), 0);
            Due.same("hasWon()", pond.hasWon(player), false);
            Due.same("stonesNeeded()", pond.stonesNeeded(player), 7);
        }
        for (int cell = 0; cell < 49; cell++) {
            Due.same("isEmpty()", pond.isEmpty(cell % 7, cell / 7), true);
        }
    }

    private static void columnsAndRowsBoundTheCells() {
        HexPond pond = Due.game("pond 3 by 8;");
        Due.same("columns()", pond.columns(), 3);
        Due.same("rows()", pond.rows(), 8);
        Due.same("emptyCells()", pond.emptyCells(), 24);
        Due.same("isEmpty(2, 7)", pond.isEmpty(2, 7), true);
        int[][] beyond = {{3, 0}, {0, 8}, {-1, 0}, {0, -1}, {7, 2}, {Integer.MIN_VALUE, Integer.MIN_VALUE},
            {Integer.MAX_VALUE, 1}, {1, Integer.MAX_VALUE}};
        for (int[] at : beyond) {
            Due.refused(pond, "isEmpty", BEYOND, () -> pond.isEmpty(at[0], at[1]));
            Due.refused(pond, "ownerOf", BEYOND, () -> pond.ownerOf(at[0], at[1]));
        }
        HexPond greater = Due.game("pond 9 by 9;");
        Due.same("emptyCells() of 9 by 9", greater.emptyCells(), 81);
        Due.same("isEmpty(8, 8)", greater.isEmpty(8, 8), true);
        Due.refused(greater, "isEmpty(9, 8)", BEYOND, () -> greater.isEmpty(9, 8));
    }

    private static void stonesAreCounted() {
        HexPond pond = Due.game("pond 4 by 3; stone red 0,0; stone blue 3,2; stone blue 1,1;");
        Due.same("stonesOf(0)", pond.stonesOf(0), 1);
        Due.same("stonesOf(1)", pond.stonesOf(1), 2);
        Due.same("emptyCells()", pond.emptyCells(), 9);
        Due.same("stonesToTakeBack(): told stones stay", pond.stonesToTakeBack(), 0);
        pond.layStone(2, 0);
        Due.same("stonesOf(0) and one", pond.stonesOf(0), 2);
        Due.same("emptyCells() less one", pond.emptyCells(), 8);
        Due.same("stonesToTakeBack()", pond.stonesToTakeBack(), 1);
        pond.takeBack();
        Due.same("stonesOf(0) again", pond.stonesOf(0), 1);
        Due.same("emptyCells() again", pond.emptyCells(), 9);
        Due.same("stonesToTakeBack() again", pond.stonesToTakeBack(), 0);
        int[] none = {2, -1, Integer.MIN_VALUE, Integer.MAX_VALUE};
        for (int player : none) {
            Due.refused(pond, "stonesOf(" + player + ")", BEYOND, () -> pond.stonesOf(player));
            Due.refused(pond, "hasWon(" + player + ")", BEYOND, () -> pond.hasWon(player));
        }
    }

    private static void ownersAreTold() {
        HexPond pond = Due.game("pond 4 by 3; stone red 3,0; stone blue 0,2;");
        Due.same("ownerOf(3, 0)", pond.ownerOf(3, 0), 0);
        Due.same("ownerOf(0, 2)", pond.ownerOf(0, 2), 1);
        Due.same("isEmpty(3, 0)", pond.isEmpty(3, 0), false);
        Due.same("isEmpty(0, 2)", pond.isEmpty(0, 2), false);
        Due.same("isEmpty(2, 0)", pond.isEmpty(2, 0), true);
        Due.refused(pond, "ownerOf of an empty cell", STATE, () -> pond.ownerOf(2, 0));
        Due.refused(pond, "ownerOf(0, 3)", BEYOND, () -> pond.ownerOf(0, 3));
        Due.refused(pond, "ownerOf(4, 0)", BEYOND, () -> pond.ownerOf(4, 0));
    }

    private static void redWinsFromColumnToColumn() {
        HexPond pond = Due.game("pond 3 by 4; stone red 0,2; stone red 1,2; stone red 2,1;");
        Due.same("hasWon(0)", pond.hasWon(0), true);
        Due.same("hasWon(1)", pond.hasWon(1), false);
        Due.same("isOver()", pond.isOver(), true);
        Due.refused(pond, "playerInTurn()", STATE, pond::playerInTurn);
        HexPond rows = Due.game("pond 3 by 4; stone red 1,0; stone red 1,1; stone red 1,2; stone red 1,3;");
        Due.same("red does not win from row to row", rows.hasWon(0), false);
        Due.same("isOver()", rows.isOver(), false);
        Due.same("playerInTurn()", rows.playerInTurn(), 1);
    }

    private static void blueWinsFromRowToRow() {
        HexPond pond = Due.game("pond 4 by 3; stone blue 2,0; stone blue 1,1; stone blue 0,2;");
        Due.same("hasWon(0)", pond.hasWon(0), false);
        Due.same("hasWon(1)", pond.hasWon(1), true);
        Due.same("isOver()", pond.isOver(), true);
        Due.refused(pond, "playerInTurn()", STATE, pond::playerInTurn);
        HexPond columns = Due.game("pond 3 by 3; stone blue 0,1; stone blue 1,1; stone blue 2,1;");
        Due.same("blue does not win from column to column", columns.hasWon(1), false);
    }

    private static void aGroupMustHangTogether() {
        HexPond pond = Due.game("pond 3 by 3; stone red 0,0; stone red 1,1; stone red 2,2;");
        Due.same("(0,0) (1,1) (2,2) do not lie beside each other", pond.hasWon(0), false);
        HexPond other = Due.game("pond 3 by 3; stone red 0,2; stone red 1,1; stone red 2,0;");
        Due.same("(0,2) (1,1) (2,0) lie beside each other", other.hasWon(0), true);
        HexPond apart = Due.game("pond 3 by 3; stone red 0,2; stone red 2,0;");
        Due.same("two groups at the two shores", apart.hasWon(0), false);
        HexPond cut = Due.game("pond 3 by 3; stone red 0,2; stone blue 1,1; stone red 2,0;");
        Due.same("the other player's stone does not join", cut.hasWon(0), false);
    }

    private static void turnsFollowTheStones() {
        Due.same("as many stones", Due.game("stone red 0,0; stone blue 1,1;").playerInTurn(), 0);
        Due.same("one more red stone", Due.game("stone red 0,0;").playerInTurn(), 1);
        Due.same("one more blue stone", Due.game("stone blue 0,0;").playerInTurn(), 0);
        HexPond pond = Due.game("stone red 0,0; stone red 1,1; stone red 2,2;");
        for (int stone = 0; stone < 3; stone++) {
            Due.same("blue catches up", pond.playerInTurn(), 1);
            pond.layStone(6, stone);
        }
        Due.same("then it is red's turn", pond.playerInTurn(), 0);
    }
}
