/** Boundary cases of what lies beside, groups, bridges, and frozen cells: each method is of one sentence. */
final class HangBounds {
    private static final String POND = "2. The pond";
    private static final Class<IndexOutOfBoundsException> BEYOND = IndexOutOfBoundsException.class;
    private static final Class<IllegalStateException> STATE = IllegalStateException.class;

    /** What lies around a cell, one behind the other. */
    private static final int[][] STEPS = {{1, 0}, {0, 1}, {-1, 1}, {-1, 0}, {0, -1}, {1, -1}};

    private HangBounds() {
    }

    static void test(Sentences its) {
        its.of(POND, "(x + 1, y), (x, y + 1), (x - 1, y + 1), (x - 1, y), (x, y - 1) and (x + 1, y - 1), as far as"
                + " there are such", HangBounds::besideAtTheShores);
        its.of(POND, "behind the last one comes the first one again", HangBounds::fourGoOverTheEndOfTheRound);
        its.of(POND, "Group: stones of a player that hang together from cell to cell beside it, as many as possible",
                HangBounds::groupsFromOneToAll);
        its.of(POND, "two cells with stones of this player that do not lie beside each other, but have two cells that"
                + " lie beside both", HangBounds::nearerAndFartherIsNoBridge);
        its.of(POND, "whole, if these are empty", HangBounds::wholeWhenBothAreEmpty);
        its.of(POND, "broken, if the one has a stone of the other player, and the other one is empty",
                HangBounds::brokenWhenOneIsEmpty);
        its.of(POND, "an empty one around which, one behind the other, four or more are of the same player",
                HangBounds::threeFourFiveAndSix);
        its.of(POND, "one that is not there is red's if only its column is beyond the pond",
                HangBounds::columnsBeyondAreReds);
        its.of(POND, "blue's if only its row is", HangBounds::rowsBeyondAreBlues);
        its.of(POND, "nobody's if both are", HangBounds::cornersBeyondAreNobodys);

        its.of("Promise 18", "Returns how many stones of this player lie beside the cell there",
                HangBounds::besideFromNoneToSix);
        its.of("Promise 18", "Throws IndexOutOfBoundsException if there is no such player or cell",
                HangBounds::stonesBesideIsRefused);
        its.of("Promise 19", "Returns how many stones the group has of which one lies there",
                HangBounds::groupSizesFromOneToAll);
        its.of("Promise 19", "Throws IndexOutOfBoundsException if there is no such cell",
                HangBounds::groupSizeOfNoCell);
        its.of("Promise 19", "Throws IllegalStateException if the cell is empty",
                HangBounds::groupSizeOfAnEmptyCell);
        its.of("Promise 20", "Returns at how many shores of its player the group has stones of which one lies there, 0"
                + " to 2", HangBounds::noneOneAndTwoShores);
        its.of("Promise 20", "Throws IndexOutOfBoundsException if there is no such cell",
                HangBounds::shoresOfNoCell);
        its.of("Promise 20", "Throws IllegalStateException if the cell is empty", HangBounds::shoresOfAnEmptyCell);
        its.of("Promise 21", "Returns how many groups this one has", HangBounds::groupsFromNoneToMany);
        its.of("Promise 21", "Throws IndexOutOfBoundsException if there is no such player",
                HangBounds::groupsOfNoPlayer);
        its.of("Promise 22", "0 without any", HangBounds::greatestGroupWithoutAny);
        its.of("Promise 22", "Throws IndexOutOfBoundsException if there is no such player",
                HangBounds::greatestGroupOfNoPlayer);
        its.of("Promise 23", "Returns whether both make a whole bridge of some player",
                HangBounds::bridgesOfEitherPlayer);
        its.of("Promise 23", "Throws IndexOutOfBoundsException if there is no such cell",
                HangBounds::isBridgeOfNoCell);
        its.of("Promise 24", "Returns how many whole bridges this one has", HangBounds::bridgesFromNoneToMany);
        its.of("Promise 24", "Throws IndexOutOfBoundsException if there is no such player",
                HangBounds::bridgesOfNoPlayer);
        its.of("Promise 25", "Returns how many broken bridges this one has", HangBounds::brokenOnesFromNoneToMany);
        its.of("Promise 25", "Throws IndexOutOfBoundsException if there is no such player",
                HangBounds::brokenBridgesOfNoPlayer);
        its.of("Promise 26", "Returns whether the cell there is frozen", HangBounds::frozenIsWhatIsEmptyAlone);
        its.of("Promise 26", "Throws IndexOutOfBoundsException if there is no such cell",
                HangBounds::isFrozenOfNoCell);
        its.of("Promise 27", "Returns how many cells are frozen", HangBounds::frozenCellsFromNoneToMany);
    }

    private static String stone(String player, int column, int row) {
        return "stone " + player + " " + column + "," + row + ";";
    }

    /** A pond with a stone of the player at each cell but one. */
    private static HexPond allBut(int columns, int rows, String player, int column, int row) {
        StringBuilder game = new StringBuilder("pond " + columns + " by " + rows + ";");
        for (int cell = 0; cell < columns * rows; cell++) {
            int x = cell % columns;
            int y = cell / columns;
            if (x != column || y != row) {
                game.append(stone(player, x, y));
            }
        }
        return Due.game(game.toString());
    }

    // ---- what lies beside

    private static void besideAtTheShores() {
        int[][] ponds = {{3, 3}, {4, 5}, {5, 4}};
        for (int[] size : ponds) {
            int columns = size[0];
            int rows = size[1];
            int[] places = {0, columns - 1, 1};
            int[] levels = {0, rows - 1, 1};
            int[][] due = {{2, 3, 4}, {3, 2, 4}, {4, 4, 6}};
            for (int x = 0; x < 3; x++) {
                for (int y = 0; y < 3; y++) {
                    HexPond pond = allBut(columns, rows, "red", places[x], levels[y]);
                    Due.same("stonesBeside(0, " + places[x] + ", " + levels[y] + ") of " + columns + " by " + rows,
                            pond.stonesBeside(0, places[x], levels[y]), due[x][y]);
                }
            }
        }
        for (int from = 0; from < 9; from++) {
            HexPond pond = Due.game("pond 3 by 3;" + stone("blue", from % 3, from / 3));
            for (int to = 0; to < 9; to++) {
                int beside = 0;
                for (int[] step : STEPS) {
                    beside += from % 3 + step[0] == to % 3 && from / 3 + step[1] == to / 3 ? 1 : 0;
                }
                Due.same("beside " + from + " and " + to, pond.stonesBeside(1, to % 3, to / 3), beside);
            }
        }
    }

    private static void besideFromNoneToSix() {
        StringBuilder game = new StringBuilder("pond 5 by 5;stone blue 2,2;");
        Due.same("of none", Due.game(game.toString()).stonesBeside(0, 2, 2), 0);
        Due.same("the cell's own stone", Due.game(game.toString()).stonesBeside(1, 2, 2), 0);
        for (int i = 0; i < 6; i++) {
            game.append(stone("red", 2 + STEPS[i][0], 2 + STEPS[i][1]));
            HexPond pond = Due.game(game.toString());
            Due.same("stonesBeside(0, 2, 2)", pond.stonesBeside(0, 2, 2), i + 1);
            Due.same("stonesBeside(1, 2, 2)", pond.stonesBeside(1, 2, 2), 0);
        }
    }

    private static void stonesBesideIsRefused() {
        PondBounds.refusesCellsBeyond("stonesBeside(0)", (pond, column, row) -> pond.stonesBeside(0, column, row));
        PondBounds.refusesCellsBeyond("stonesBeside(1)", (pond, column, row) -> pond.stonesBeside(1, column, row));
        PondBounds.refusesCellsBeyond("stonesBeside(2)", (pond, column, row) -> pond.stonesBeside(2, column, row));
        PondBounds.refusesNoPlayers("stonesBeside", (pond, player) -> pond.stonesBeside(player, 0, 0));
    }

    // ---- groups

    private static void groupsFromOneToAll() {
        HexPond alone = Due.game("pond 3 by 3;stone red 1,1;");
        Due.same("a group of one", alone.groupSize(1, 1), 1);
        // Stones at each second cell do not hang together; with those between them, all do.
        StringBuilder row = new StringBuilder("pond 9 by 3;");
        for (int column = 0; column < 9; column += 2) {
            row.append(stone("blue", column, 1));
        }
        Due.same("groups of each second cell", Due.game(row.toString()).groupsOf(1), 5);
        for (int column = 1; column < 9; column += 2) {
            row.append(stone("blue", column, 1));
        }
        Due.same("groups of a row", Due.game(row.toString()).groupsOf(1), 1);
        Due.same("groupSize of a row", Due.game(row.toString()).groupSize(8, 1), 9);
        // All of 6 by 8 but for one cell: a pond that can be told in 400 tokens.
        HexPond all = allBut(6, 8, "red", 5, 7);
        Due.same("groupsOf(0) of all but one", all.groupsOf(0), 1);
        Due.same("groupSize of all but one", all.groupSize(0, 0), 47);
        Due.same("the end of a row and the beginning of the next one",
                Due.game("pond 3 by 3;stone red 2,0;stone red 0,1;").groupsOf(0), 2);
    }

    private static void groupSizesFromOneToAll() {
        StringBuilder game = new StringBuilder("pond 5 by 9;");
        for (int size = 1; size <= 9; size++) {
            game.append(stone("red", 2, size - 1));
            HexPond pond = Due.game(game.toString());
            Due.same("groupSize at the first", pond.groupSize(2, 0), size);
            Due.same("groupSize at the last", pond.groupSize(2, size - 1), size);
        }
        HexPond two = Due.game("pond 3 by 3;stone red 0,0;stone red 1,0;stone blue 0,1;stone blue 2,2;");
        Due.same("groupSize(0, 0)", two.groupSize(0, 0), 2);
        Due.same("groupSize(0, 1)", two.groupSize(0, 1), 1);
        Due.same("groupSize(2, 2)", two.groupSize(2, 2), 1);
    }

    private static void groupSizeOfNoCell() {
        PondBounds.refusesCellsBeyond("groupSize", HexPond::groupSize);
    }

    private static void groupSizeOfAnEmptyCell() {
        HexPond pond = Due.game("pond 3 by 3;stone red 1,1;");
        Due.refused(pond, "groupSize(0, 0)", STATE, () -> pond.groupSize(0, 0));
        Due.refused(pond, "groupSize(2, 2)", STATE, () -> pond.groupSize(2, 2));
        pond.layStone(2, 2);
        Due.same("groupSize(2, 2) of a stone", pond.groupSize(2, 2), 1);
        pond.takeBack();
        Due.refused(pond, "groupSize(2, 2) of a stone taken back", STATE, () -> pond.groupSize(2, 2));
    }

    private static void shores(String game, int column, int row, int due) {
        Due.same("shoresOf(" + column + ", " + row + ") of " + game, Due.game(game).shoresOf(column, row), due);
    }

    private static void noneOneAndTwoShores() {
        shores("pond 3 by 3;stone red 1,1;", 1, 1, 0);
        shores("pond 3 by 3;stone red 1,0;", 1, 0, 0);
        shores("pond 3 by 3;stone red 1,2;", 1, 2, 0);
        shores("pond 3 by 3;stone blue 0,1;", 0, 1, 0);
        shores("pond 3 by 3;stone blue 2,1;", 2, 1, 0);
        shores("pond 3 by 3;stone red 0,1;", 0, 1, 1);
        shores("pond 3 by 3;stone red 2,1;", 2, 1, 1);
        shores("pond 3 by 3;stone blue 1,0;", 1, 0, 1);
        shores("pond 3 by 3;stone blue 1,2;", 1, 2, 1);
        // Two stones at one shore count one; those at the other shore that hang elsewhere count none.
        shores("pond 3 by 3;stone red 0,0;stone red 0,1;", 0, 1, 1);
        shores("pond 3 by 3;stone red 0,1;stone red 2,2;", 0, 1, 1);
        shores("pond 3 by 3;stone red 0,1;stone red 1,1;stone red 2,1;", 1, 1, 2);
        shores("pond 3 by 3;stone blue 1,0;stone blue 1,1;stone blue 1,2;", 1, 0, 2);
        shores("pond 3 by 3;stone blue 0,0;stone blue 1,0;stone blue 2,0;", 1, 0, 1);
        shores("pond 3 by 9;stone red 0,0;stone red 0,1;stone red 0,2;", 0, 2, 1);
    }

    private static void shoresOfNoCell() {
        PondBounds.refusesCellsBeyond("shoresOf", HexPond::shoresOf);
    }

    private static void shoresOfAnEmptyCell() {
        HexPond pond = Due.game("pond 3 by 3;stone red 1,1;");
        Due.refused(pond, "shoresOf(0, 0)", STATE, () -> pond.shoresOf(0, 0));
        Due.refused(pond, "shoresOf(2, 2)", STATE, () -> pond.shoresOf(2, 2));
        Due.same("shoresOf(1, 1) of a stone", pond.shoresOf(1, 1), 0);
    }

    private static void groupsFromNoneToMany() {
        HexPond none = new HexPond();
        Due.same("groupsOf(0) of none", none.groupsOf(0), 0);
        Due.same("groupsOf(1) of none", none.groupsOf(1), 0);
        // Each second cell of each second row: 5 times 5 groups.
        StringBuilder game = new StringBuilder("pond 9 by 9;");
        for (int cell = 0; cell < 25; cell++) {
            game.append(stone("blue", cell % 5 * 2, cell / 5 * 2));
            HexPond pond = Due.game(game.toString());
            Due.same("groupsOf(1)", pond.groupsOf(1), cell + 1);
            Due.same("groupsOf(0)", pond.groupsOf(0), 0);
        }
        HexPond one = allBut(6, 8, "red", 0, 0);
        Due.same("groupsOf(0) of all but one", one.groupsOf(0), 1);
        Due.same("groupsOf(1) of all but one", one.groupsOf(1), 0);
    }

    private static void groupsOfNoPlayer() {
        PondBounds.refusesNoPlayers("groupsOf", HexPond::groupsOf);
    }

    private static void greatestGroupWithoutAny() {
        HexPond none = new HexPond();
        Due.same("greatestGroup(0) of none", none.greatestGroup(0), 0);
        Due.same("greatestGroup(1) of none", none.greatestGroup(1), 0);
        HexPond pond = Due.game("pond 4 by 4;stone red 0,0;stone red 3,0;stone red 3,1;stone red 0,3;");
        Due.same("greatestGroup(0) of 1, 2, and 1", pond.greatestGroup(0), 2);
        Due.same("greatestGroup(1) without any of blue", pond.greatestGroup(1), 0);
        Due.same("greatestGroup(0) of all but one", allBut(6, 8, "red", 3, 3).greatestGroup(0), 47);
        Due.same("greatestGroup(0) of one", Due.game("stone red 6,6;").greatestGroup(0), 1);
    }

    private static void greatestGroupOfNoPlayer() {
        PondBounds.refusesNoPlayers("greatestGroup", HexPond::greatestGroup);
    }

    // ---- bridges

    private static void nearerAndFartherIsNoBridge() {
        int bridges = 0;
        for (int cell = 0; cell < 81; cell++) {
            int x = cell % 9 - 4;
            int y = cell / 9 - 4;
            if (cell != 40) {
                HexPond pond = Due.game("pond 9 by 9;stone blue 4,4;" + stone("blue", x + 4, y + 4));
                // Six cells lie over two others, and none else does.
                boolean due = x == 1 && y == 1 || x == -1 && y == 2 || x == -2 && y == 1 || x == -1 && y == -1
                        || x == 1 && y == -2 || x == 2 && y == -1;
                Due.same("isBridge with the cell " + cell, pond.isBridge(40, cell), due);
                Due.same("isBridge from the cell " + cell, pond.isBridge(cell, 40), due);
                Due.same("bridgesOf(1) with the cell " + cell, pond.bridgesOf(1), due ? 1 : 0);
                Due.same("brokenBridgesOf(1) with the cell " + cell, pond.brokenBridgesOf(1), 0);
                bridges += due ? 1 : 0;
            }
        }
        Due.same("cells over two others", bridges, 6);
        // One cell is not two, at a corner neither, though two cells lie beside it.
        HexPond corner = Due.game("pond 3 by 3;stone red 0,0;");
        Due.same("isBridge of a corner alone", corner.isBridge(0, 0), false);
        Due.same("bridgesOf(0) of a corner alone", corner.bridgesOf(0), 0);
        HexPond around = Due.game("pond 5 by 5;stone red 4,0;stone red 0,2;stone red 4,1;stone red 1,2;");
        Due.same("not around the end of a row", around.bridgesOf(0), 0);
    }

    private static void bridge(String game, int whole, int broken) {
        HexPond pond = Due.game("pond 4 by 4;stone red 1,1;stone red 2,2;" + game);
        Due.same("bridgesOf(0) of " + game, pond.bridgesOf(0), whole);
        Due.same("brokenBridgesOf(0) of " + game, pond.brokenBridgesOf(0), broken);
        Due.same("isBridge of " + game, pond.isBridge(5, 10), whole == 1);
        Due.same("bridgesOf(1) of " + game, pond.bridgesOf(1), 0);
        Due.same("brokenBridgesOf(1) of " + game, pond.brokenBridgesOf(1), 0);
    }

    private static void wholeWhenBothAreEmpty() {
        bridge("", 1, 0);
        bridge("stone red 2,1;", 0, 0);
        bridge("stone red 1,2;", 0, 0);
        bridge("stone red 2,1;stone red 1,2;", 0, 0);
        bridge("stone blue 2,1;", 0, 1);
        // Stones beside it leave it whole.
        bridge("stone blue 0,1;stone blue 1,0;stone blue 3,2;stone blue 2,3;", 1, 0);
    }

    private static void brokenWhenOneIsEmpty() {
        bridge("stone blue 2,1;", 0, 1);
        bridge("stone blue 1,2;", 0, 1);
        bridge("stone blue 2,1;stone blue 1,2;", 0, 0);
        bridge("stone blue 2,1;stone red 1,2;", 0, 0);
        bridge("stone red 2,1;stone blue 1,2;", 0, 0);
        bridge("stone red 2,1;", 0, 0);
        bridge("stone red 1,2;", 0, 0);
    }

    private static void bridgesOfEitherPlayer() {
        String[] players = {"red", "blue"};
        for (String player : players) {
            HexPond pond = Due.game("pond 3 by 3;" + stone(player, 0, 0) + stone(player, 1, 1));
            Due.same("isBridge(0, 4) of " + player, pond.isBridge(0, 4), true);
            Due.same("isBridge(4, 0) of " + player, pond.isBridge(4, 0), true);
            Due.same("isBridge(4, 8) of an empty cell", pond.isBridge(4, 8), false);
            Due.same("isBridge(8, 4) of an empty cell", pond.isBridge(8, 4), false);
            Due.same("isBridge(3, 2) of empty cells", pond.isBridge(3, 2), false);
            Due.same("isBridge(0, 0)", pond.isBridge(0, 0), false);
        }
        HexPond two = Due.game("pond 3 by 3;stone red 0,0;stone blue 1,1;");
        Due.same("isBridge(0, 4) of two players", two.isBridge(0, 4), false);
        Due.same("isBridge(4, 0) of two players", two.isBridge(4, 0), false);
        HexPond broken = Due.game("pond 3 by 3;stone red 0,0;stone red 1,1;stone blue 1,0;");
        Due.same("isBridge(0, 4) of a broken one", broken.isBridge(0, 4), false);
    }

    private static void isBridgeOfNoCell() {
        int[][] ponds = {{3, 3}, {3, 9}, {9, 9}, {4, 5}};
        for (int[] size : ponds) {
            int cells = size[0] * size[1];
            HexPond pond = Due.game("pond " + size[0] + " by " + size[1] + ";stone red 0,0;stone red 1,1;");
            int[] wrong = {cells, cells + 1, -1, Integer.MIN_VALUE, Integer.MAX_VALUE};
            for (int cell : wrong) {
                Due.refused(pond, "isBridge(" + cell + ", 0)", BEYOND, () -> pond.isBridge(cell, 0));
                Due.refused(pond, "isBridge(0, " + cell + ")", BEYOND, () -> pond.isBridge(0, cell));
                Due.refused(pond, "isBridge(" + cell + ", itself)", BEYOND, () -> pond.isBridge(cell, cell));
            }
            Due.same("isBridge of the last cell", pond.isBridge(cells - 1, 0), false);
            Due.same("isBridge with the last cell", pond.isBridge(0, cells - 1), false);
            Due.same("isBridge of the first one", pond.isBridge(0, size[0] + 1), true);
        }
    }

    /** A stone in the middle and the six over two others: 6 bridges to the middle, 6 around it. */
    private static final String STAR = "pond 5 by 5;stone red 2,2;stone red 3,3;stone red 1,4;stone red 0,3;"
            + "stone red 1,1;stone red 3,0;stone red 4,1;";

    private static void bridgesFromNoneToMany() {
        HexPond none = new HexPond();
        Due.same("bridgesOf(0) of none", none.bridgesOf(0), 0);
        Due.same("bridgesOf(1) of none", none.bridgesOf(1), 0);
        HexPond star = Due.game(STAR);
        Due.same("bridgesOf(0) of a star", star.bridgesOf(0), 12);
        Due.same("bridgesOf(1) of a star", star.bridgesOf(1), 0);
        Due.same("bridgesOf(0) at the corners", Due.game("pond 3 by 3;stone red 0,0;stone red 1,1;stone red 2,2;")
                .bridgesOf(0), 2);
        Due.same("bridgesOf(0) of all but one", allBut(6, 8, "red", 2, 2).bridgesOf(0), 0);
    }

    private static void bridgesOfNoPlayer() {
        PondBounds.refusesNoPlayers("bridgesOf", HexPond::bridgesOf);
    }

    private static void brokenOnesFromNoneToMany() {
        HexPond star = Due.game(STAR);
        Due.same("brokenBridgesOf(0) of a star", star.brokenBridgesOf(0), 0);
        StringBuilder game = new StringBuilder(STAR);
        // Each stone breaks three, and cuts those to the middle that the one ahead of it has broken.
        int[] broken = {3, 4, 5, 6, 7, 6};
        int[] whole = {9, 7, 5, 3, 1, 0};
        for (int i = 0; i < 6; i++) {
            game.append(stone("blue", 2 + STEPS[i][0], 2 + STEPS[i][1]));
            HexPond pond = Due.game(game.toString());
            Due.same("brokenBridgesOf(0) with " + (i + 1), pond.brokenBridgesOf(0), broken[i]);
            Due.same("bridgesOf(0) with " + (i + 1), pond.bridgesOf(0), whole[i]);
        }
    }

    private static void brokenBridgesOfNoPlayer() {
        PondBounds.refusesNoPlayers("brokenBridgesOf", HexPond::brokenBridgesOf);
    }

    // ---- frozen cells

    private static void frozen(String game, int column, int row, boolean due) {
        HexPond pond = Due.game(game);
        Due.same("isFrozen(" + column + ", " + row + ") of " + game, pond.isFrozen(column, row), due);
    }

    private static String around(String player, int first, int stones) {
        StringBuilder game = new StringBuilder("pond 5 by 5;");
        for (int i = first; i < first + stones; i++) {
            game.append(stone(player, 2 + STEPS[i % 6][0], 2 + STEPS[i % 6][1]));
        }
        return game.toString();
    }

    private static void threeFourFiveAndSix() {
        String[] players = {"red", "blue"};
        for (String player : players) {
            for (int stones = 0; stones <= 6; stones++) {
                frozen(around(player, 0, stones), 2, 2, stones >= 4);
            }
            // Four, but not one behind the other.
            frozen(around(player, 0, 3) + stone(player, 2, 1), 2, 2, false);
            frozen(around(player, 0, 2) + stone(player, 1, 2) + stone(player, 2, 1), 2, 2, false);
            // The cell itself has to be empty.
            frozen(around(player, 0, 6) + stone("red", 2, 2), 2, 2, false);
            frozen(around(player, 0, 6) + stone("blue", 2, 2), 2, 2, false);
        }
        // Four one behind the other, of both players.
        frozen(around("red", 0, 3) + stone("blue", 1, 2), 2, 2, false);
        frozen(around("red", 0, 2) + stone("blue", 1, 3) + stone("blue", 1, 2), 2, 2, false);
        frozen(around("red", 0, 4) + stone("blue", 2, 1) + stone("blue", 3, 1), 2, 2, true);
    }

    private static void fourGoOverTheEndOfTheRound() {
        String[] players = {"red", "blue"};
        for (String player : players) {
            for (int first = 0; first < 6; first++) {
                frozen(around(player, first, 3), 2, 2, false);
                frozen(around(player, first, 4), 2, 2, true);
                frozen(around(player, first, 5), 2, 2, true);
            }
        }
    }

    private static void columnsBeyondAreReds() {
        // At the column 0 two are beyond, one behind the other, and so at the last one.
        frozen("pond 3 by 3;stone red 0,0;stone red 0,2;", 0, 1, true);
        frozen("pond 3 by 3;stone red 0,0;stone red 1,0;", 0, 1, true);
        frozen("pond 3 by 3;stone red 1,1;stone red 0,2;", 0, 1, true);
        frozen("pond 3 by 3;stone red 0,0;", 0, 1, false);
        frozen("pond 3 by 3;stone blue 0,0;stone blue 0,2;", 0, 1, false);
        frozen("pond 3 by 3;stone red 2,0;stone red 2,2;", 2, 1, true);
        frozen("pond 3 by 3;stone red 2,2;stone red 1,2;", 2, 1, true);
        frozen("pond 3 by 3;stone red 2,2;", 2, 1, false);
        frozen("pond 3 by 3;stone blue 2,0;stone blue 2,2;", 2, 1, false);
        frozen("pond 3 by 3;stone red 1,0;stone red 0,1;", 0, 0, true);
        frozen("pond 3 by 3;stone red 1,2;stone red 2,1;", 2, 2, true);
    }

    private static void rowsBeyondAreBlues() {
        frozen("pond 3 by 3;stone blue 0,0;stone blue 2,0;", 1, 0, true);
        frozen("pond 3 by 3;stone blue 0,0;stone blue 0,1;", 1, 0, true);
        frozen("pond 3 by 3;stone blue 2,0;stone blue 1,1;", 1, 0, true);
        frozen("pond 3 by 3;stone blue 0,0;", 1, 0, false);
        frozen("pond 3 by 3;stone red 0,0;stone red 2,0;", 1, 0, false);
        frozen("pond 3 by 3;stone blue 0,2;stone blue 2,2;", 1, 2, true);
        frozen("pond 3 by 3;stone blue 2,2;stone blue 2,1;", 1, 2, true);
        frozen("pond 3 by 3;stone blue 0,2;", 1, 2, false);
        frozen("pond 3 by 3;stone red 0,2;stone red 2,2;", 1, 2, false);
        frozen("pond 3 by 3;stone blue 1,0;stone blue 0,1;", 0, 0, true);
        frozen("pond 3 by 3;stone blue 1,2;stone blue 2,1;", 2, 2, true);
        frozen("pond 3 by 3;stone red 1,0;stone blue 0,1;", 0, 0, false);
    }

    private static void cornersBeyondAreNobodys() {
        // At (2, 0) and (0, 2) one of the six is beyond both; with it the three would be four.
        frozen("pond 3 by 3;stone red 2,1;stone red 1,1;", 2, 0, false);
        frozen("pond 3 by 3;stone blue 1,1;stone blue 1,0;", 2, 0, false);
        frozen("pond 3 by 3;stone red 0,1;stone red 1,1;", 0, 2, false);
        frozen("pond 3 by 3;stone blue 1,1;stone blue 1,2;", 0, 2, false);
        frozen("pond 3 by 3;stone red 2,1;stone red 1,1;stone red 1,0;", 2, 0, true);
        frozen("pond 3 by 3;stone blue 2,1;stone blue 1,1;stone blue 1,0;", 2, 0, true);
        frozen("pond 3 by 3;stone red 0,1;stone red 1,1;stone red 1,2;", 0, 2, true);
        frozen("pond 3 by 3;stone blue 0,1;stone blue 1,1;stone blue 1,2;", 0, 2, true);
        frozen("pond 4 by 5;stone red 3,1;stone red 2,1;", 3, 0, false);
        frozen("pond 4 by 5;stone blue 1,4;stone blue 1,3;", 0, 4, false);
    }

    private static void frozenIsWhatIsEmptyAlone() {
        HexPond pond = Due.game(around("blue", 0, 6));
        for (int cell = 0; cell < 25; cell++) {
            Due.same("isFrozen of the cell " + cell, pond.isFrozen(cell % 5, cell / 5), cell == 12);
        }
        pond.layStone(2, 2);
        Due.same("isFrozen(2, 2) with a stone", pond.isFrozen(2, 2), false);
        pond.takeBack();
        Due.same("isFrozen(2, 2) without it", pond.isFrozen(2, 2), true);
        pond.layStone(0, 0);
        Due.same("isFrozen(2, 2) with a stone elsewhere", pond.isFrozen(2, 2), true);
        HexPond empty = Due.game("pond 3 by 3;");
        for (int cell = 0; cell < 9; cell++) {
            Due.same("isFrozen of an empty pond", empty.isFrozen(cell % 3, cell / 3), false);
        }
    }

    private static void isFrozenOfNoCell() {
        PondBounds.refusesCellsBeyond("isFrozen", HexPond::isFrozen);
    }

    private static void frozenCellsFromNoneToMany() {
        Due.same("frozenCells() of an empty pond", new HexPond().frozenCells(), 0);
        Due.same("frozenCells() of the smallest pond", Due.game("pond 3 by 3;").frozenCells(), 0);
        for (int cell = 0; cell < 9; cell++) {
            HexPond pond = allBut(3, 3, "red", cell % 3, cell / 3);
            // At the rows 0 and last, two beyond them are blue's; four of the others are red all the same.
            Due.same("frozenCells() of all but the cell " + cell, pond.frozenCells(), 1);
        }
        HexPond two = Due.game("pond 3 by 3;stone red 1,0;stone red 0,1;stone red 1,2;stone red 2,1;");
        Due.same("frozenCells() of two corners", two.frozenCells(), 2);
        StringBuilder many = new StringBuilder("pond 9 by 9;");
        for (int cell = 0; cell < 81; cell++) {
            if (cell % 9 % 2 == 1 || cell / 9 % 2 == 1) {
                many.append(stone("blue", cell % 9, cell / 9));
            }
        }
        Due.same("frozenCells() of 25 single ones", Due.game(many.toString()).frozenCells(), 25);
        Due.same("frozenCells() of a full pond", Due.game("pond 3 by 3;stone red 0,0;stone red 1,0;stone red 2,0;"
                + "stone blue 0,1;stone blue 1,1;stone red 2,1;stone blue 0,2;stone blue 1,2;stone red 2,2;")
                .frozenCells(), 0);
    }
}
