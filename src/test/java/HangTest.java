/** Promises 18 to 27: stones beside a cell, groups, bridges, and frozen cells. */
public final class HangTest {
    private static final Class<IndexOutOfBoundsException> BEYOND = IndexOutOfBoundsException.class;
    private static final Class<IllegalStateException> STATE = IllegalStateException.class;

    /** What lies around the cell (2, 2), one behind the other. */
    private static final int[][] AROUND = {{3, 2}, {2, 3}, {1, 3}, {1, 2}, {2, 1}, {3, 1}};

    public static void main(String[] args) {
        stonesLieBesideACell();
        groupsHangTogether();
        groupsAreRefused();
        bridgesGoInSixDirections();
        whatIsNoBridge();
        bridgesAreCountedOnce();
        bridgesAreRefused();
        fourOneBehindTheOtherFreeze();
        shoresFreeze();
        frozenIsRefused();
        Due.end("HangTest");
    }

    private static String stone(String player, int[] cell) {
        return "stone " + player + " " + cell[0] + "," + cell[1] + ";";
    }

    private static void stonesLieBesideACell() {
        StringBuilder game = new StringBuilder("pond 5 by 5;stone blue 2,2;");
        for (int i = 0; i < 6; i++) {
            game.append(stone(i < 4 ? "red" : "blue", AROUND[i]));
        }
        HexPond pond = Due.game(game + "stone red 1,1;stone red 3,3;stone blue 4,2;");
        Due.same("stonesBeside(0, 2, 2)", pond.stonesBeside(0, 2, 2), 4);
        Due.same("stonesBeside(1, 2, 2)", pond.stonesBeside(1, 2, 2), 2);
        Due.same("stonesBeside(0, 0, 0)", pond.stonesBeside(0, 0, 0), 0);
        Due.same("stonesBeside(0, 4, 4)", pond.stonesBeside(0, 4, 4), 0);
        Due.same("stonesBeside(0, 4, 3)", pond.stonesBeside(0, 4, 3), 1);
        Due.same("stonesBeside(1, 4, 1)", pond.stonesBeside(1, 4, 1), 2);
        HexPond row = Due.game("pond 3 by 3;stone red 2,0;stone red 0,2;stone blue 2,1;stone blue 1,0;");
        Due.same("rows do not go on around the pond", row.stonesBeside(0, 0, 1), 1);
        Due.same("(2, 0) is not beside (0, 1)", row.stonesBeside(1, 0, 1), 1);
        int[][] beyond = {{2, 0, 0}, {-1, 0, 0}, {0, 5, 0}, {0, 0, 5}, {1, -1, 2}, {1, 2, -1}, {2, 9, 9}};
        for (int[] at : beyond) {
            Due.refused(pond, "stonesBeside", BEYOND, () -> pond.stonesBeside(at[0], at[1], at[2]));
        }
    }

    private static void groupsHangTogether() {
        HexPond pond = Due.game("pond 4 by 4;stone red 0,0;stone red 1,0;stone red 0,1;stone red 3,3;"
                + "stone blue 1,1;stone blue 2,1;stone blue 1,2;stone blue 2,0;");
        Due.same("groupSize(0, 0)", pond.groupSize(0, 0), 3);
        Due.same("groupSize(0, 1)", pond.groupSize(0, 1), 3);
        Due.same("groupSize(3, 3)", pond.groupSize(3, 3), 1);
        Due.same("groupSize(1, 2)", pond.groupSize(1, 2), 4);
        Due.same("shoresOf(1, 0)", pond.shoresOf(1, 0), 1);
        Due.same("shoresOf(3, 3)", pond.shoresOf(3, 3), 1);
        Due.same("shoresOf(1, 2)", pond.shoresOf(1, 2), 1);
        Due.same("groupsOf(0)", pond.groupsOf(0), 2);
        Due.same("groupsOf(1)", pond.groupsOf(1), 1);
        Due.same("greatestGroup(0)", pond.greatestGroup(0), 3);
        Due.same("greatestGroup(1)", pond.greatestGroup(1), 4);
        pond.layStone(1, 3);
        pond.layStone(0, 3);
        Due.same("shoresOf(2, 0) with (0, 3)", pond.shoresOf(2, 0), 2);
        Due.same("groupsOf(1) with (0, 3)", pond.groupsOf(1), 1);
        Due.same("groupsOf(0) with (1, 3)", pond.groupsOf(0), 3);
        HexPond joined = Due.game("pond 3 by 3;stone blue 1,0;stone blue 1,1;stone blue 0,2;stone red 2,2;");
        Due.same("shoresOf(1, 1)", joined.shoresOf(1, 1), 2);
        Due.same("groupSize(0, 2)", joined.groupSize(0, 2), 3);
        HexPond middle = Due.game("pond 3 by 3;stone red 1,0;stone red 1,2;stone blue 0,1;stone blue 2,2;");
        Due.same("rows are no shores of red", middle.shoresOf(1, 0), 0);
        Due.same("columns are no shores of blue", middle.shoresOf(0, 1), 0);
        Due.same("shoresOf(2, 2)", middle.shoresOf(2, 2), 1);
        HexPond none = new HexPond();
        Due.same("groupsOf(0) without any", none.groupsOf(0), 0);
        Due.same("greatestGroup(1) without any", none.greatestGroup(1), 0);
        Due.same("groupsOf of (1,1) (2,2)", Due.game("stone red 1,1;stone red 2,2;").groupsOf(0), 2);
        Due.same("groupsOf of (1,2) (2,1)", Due.game("stone red 1,2;stone red 2,1;").groupsOf(0), 1);
    }

    private static void groupsAreRefused() {
        HexPond pond = Due.game("pond 4 by 5;stone red 0,0;");
        Due.refused(pond, "groupSize of an empty cell", STATE, () -> pond.groupSize(1, 0));
        Due.refused(pond, "shoresOf of an empty cell", STATE, () -> pond.shoresOf(1, 0));
        int[][] beyond = {{4, 0}, {0, 5}, {-1, 0}, {0, -1}};
        for (int[] at : beyond) {
            Due.refused(pond, "groupSize", BEYOND, () -> pond.groupSize(at[0], at[1]));
            Due.refused(pond, "shoresOf", BEYOND, () -> pond.shoresOf(at[0], at[1]));
        }
        int[] none = {2, -1};
        for (int player : none) {
            Due.refused(pond, "groupsOf", BEYOND, () -> pond.groupsOf(player));
            Due.refused(pond, "greatestGroup", BEYOND, () -> pond.greatestGroup(player));
        }
    }

    private static void bridgesGoInSixDirections() {
        int[] middle = {2, 2};
        int[][] ends = {{3, 3}, {1, 4}, {0, 3}, {1, 1}, {3, 0}, {4, 1}};
        for (int i = 0; i < 6; i++) {
            String both = "pond 5 by 5;" + stone("blue", middle) + stone("blue", ends[i]);
            int[] one = AROUND[i];
            int[] other = AROUND[(i + 1) % 6];
            int end = ends[i][0] + 5 * ends[i][1];
            HexPond whole = Due.game(both);
            Due.same("isBridge", whole.isBridge(12, end), true);
            Due.same("isBridge the other way round", whole.isBridge(end, 12), true);
            bridges(whole, 1, 0, "whole " + i);
            bridges(Due.game(both + stone("red", one)), 0, 1, "broken at the one " + i);
            bridges(Due.game(both + stone("red", other)), 0, 1, "broken at the other " + i);
            bridges(Due.game(both + stone("red", one) + stone("red", other)), 0, 0, "cut " + i);
            bridges(Due.game(both + stone("blue", one)), 0, 0, "joined " + i);
            bridges(Due.game(both + stone("blue", one) + stone("red", other)), 0, 0, "joined and broken " + i);
            bridges(Due.game(both + stone("red", one) + stone("blue", other)), 0, 0, "broken and joined " + i);
            Due.same("isBridge of a broken one", Due.game(both + stone("red", one)).isBridge(12, end), false);
        }
    }

    private static void bridges(HexPond pond, int whole, int broken, String what) {
        Due.same("bridgesOf(1), " + what, pond.bridgesOf(1), whole);
        Due.same("brokenBridgesOf(1), " + what, pond.brokenBridgesOf(1), broken);
        Due.same("bridgesOf(0), " + what, pond.bridgesOf(0), 0);
        Due.same("brokenBridgesOf(0), " + what, pond.brokenBridgesOf(0), 0);
    }

    private static void whatIsNoBridge() {
        String middle = "pond 5 by 5;stone blue 2,2;";
        bridges(Due.game(middle + "stone blue 3,2;"), 0, 0, "beside each other");
        bridges(Due.game(middle + "stone blue 4,2;"), 0, 0, "with one cell between");
        bridges(Due.game(middle + "stone blue 0,4;"), 0, 0, "with one cell between, aslant");
        bridges(Due.game(middle + "stone red 3,3;"), 0, 0, "of two players");
        bridges(Due.game(middle + "stone blue 4,4;"), 0, 0, "farther away");
        HexPond pond = Due.game("pond 5 by 5;stone red 0,0;stone blue 2,2;stone red 3,3;");
        Due.same("a corner alone is no bridge", pond.isBridge(0, 0), false);
        Due.same("a cell alone is no bridge", pond.isBridge(12, 12), false);
        Due.same("isBridge of two players", pond.isBridge(12, 18), false);
        Due.same("isBridge of empty cells", pond.isBridge(6, 20), false);
        Due.same("isBridge of an empty end", pond.isBridge(12, 6), false);
        Due.same("isBridge of two empty ends", pond.isBridge(7, 13), false);
        HexPond rows = Due.game("pond 5 by 5;stone red 4,0;stone red 0,2;stone red 4,1;stone red 1,2;");
        Due.same("bridges do not go around the pond", rows.bridgesOf(0), 0);
    }

    private static void bridgesAreCountedOnce() {
        HexPond pond = Due.game("pond 5 by 5;stone red 2,2;stone red 3,3;stone red 1,4;stone red 0,3;"
                + "stone red 1,1;stone red 3,0;stone red 4,1;");
        Due.same("a star has 12 bridges", pond.bridgesOf(0), 12);
        Due.same("isBridge(18, 21)", pond.isBridge(18, 21), true);
        pond.layStone(3, 2);
        Due.same("bridgesOf(0) with a stone at (3, 2)", pond.bridgesOf(0), 9);
        Due.same("brokenBridgesOf(0) with a stone at (3, 2)", pond.brokenBridgesOf(0), 3);
        Due.same("bridgesOf(1)", pond.bridgesOf(1), 0);
        pond.takeBack();
        Due.same("brokenBridgesOf(0) without it", pond.brokenBridgesOf(0), 0);
        HexPond shore = Due.game("pond 3 by 3;stone blue 0,0;stone blue 1,1;");
        Due.same("a bridge at the corner", shore.bridgesOf(1), 1);
        Due.same("isBridge(0, 4)", shore.isBridge(0, 4), true);
    }

    private static void bridgesAreRefused() {
        HexPond pond = Due.game("pond 4 by 3;stone red 0,0;stone red 1,1;");
        int[] beyond = {12, -1, Integer.MIN_VALUE, Integer.MAX_VALUE};
        for (int cell : beyond) {
            Due.refused(pond, "isBridge(0, " + cell + ")", BEYOND, () -> pond.isBridge(0, cell));
            Due.refused(pond, "isBridge(" + cell + ", 5)", BEYOND, () -> pond.isBridge(cell, 5));
        }
        Due.same("isBridge(0, 5)", pond.isBridge(0, 5), true);
        Due.same("isBridge(11, 11)", pond.isBridge(11, 11), false);
        int[] none = {2, -1};
        for (int player : none) {
            Due.refused(pond, "bridgesOf", BEYOND, () -> pond.bridgesOf(player));
            Due.refused(pond, "brokenBridgesOf", BEYOND, () -> pond.brokenBridgesOf(player));
        }
    }

    private static void fourOneBehindTheOtherFreeze() {
        String[] players = {"red", "blue"};
        for (String player : players) {
            for (int set = 0; set < 64; set++) {
                StringBuilder game = new StringBuilder("pond 5 by 5;");
                for (int i = 0; i < 6; i++) {
                    if ((set >> i & 1) == 1) {
                        game.append(stone(player, AROUND[i]));
                    }
                }
                boolean due = false;
                for (int first = 0; first < 6; first++) {
                    int twice = set | set << 6;
                    due |= (twice >> first & 15) == 15;
                }
                HexPond pond = Due.game(game.toString());
                Due.same("isFrozen(2, 2) of " + game, pond.isFrozen(2, 2), due);
            }
        }
        String three = "pond 5 by 5;stone red 3,2;stone red 2,3;stone red 1,3;";
        Due.same("two players do not freeze", Due.game(three + "stone blue 1,2;").isFrozen(2, 2), false);
        String four = three + "stone red 1,2;";
        Due.same("frozenCells()", Due.game(four).frozenCells(), 1);
        Due.same("a cell with a stone is not frozen", Due.game(four + "stone blue 2,2;").isFrozen(2, 2), false);
        Due.same("frozenCells() then", Due.game(four + "stone blue 2,2;").frozenCells(), 0);
    }

    private static void shoresFreeze() {
        frozen("", 0, 0, false);
        frozen("stone red 0,0;stone red 0,2;", 0, 1, true);
        frozen("stone red 0,0;stone red 1,0;", 0, 1, true);
        frozen("stone red 0,0;", 0, 1, false);
        frozen("stone blue 0,0;stone blue 0,2;", 0, 1, false);
        frozen("stone blue 0,0;stone blue 2,0;", 1, 0, true);
        frozen("stone red 0,0;stone red 2,0;", 1, 0, false);
        frozen("stone red 2,0;stone red 2,2;", 2, 1, true);
        frozen("stone blue 0,2;stone blue 2,2;", 1, 2, true);
        frozen("stone red 1,0;stone red 0,1;", 0, 0, true);
        frozen("stone blue 1,0;stone blue 0,1;", 0, 0, true);
        frozen("stone red 0,1;stone blue 1,0;", 0, 0, false);
        frozen("stone red 1,2;stone red 2,1;", 2, 2, true);
        frozen("stone blue 1,2;stone blue 2,1;", 2, 2, true);
        frozen("stone red 0,1;stone red 1,1;stone red 1,2;", 0, 2, true);
        frozen("stone red 0,1;stone red 1,1;", 0, 2, false);
        frozen("stone blue 0,1;stone blue 1,1;stone blue 1,2;", 0, 2, true);
        frozen("stone blue 1,2;stone blue 1,1;", 0, 2, false);
        frozen("stone red 2,1;stone red 1,1;stone red 1,0;", 2, 0, true);
        frozen("stone red 2,1;stone red 1,1;", 2, 0, false);
        frozen("stone blue 2,1;stone blue 1,1;stone blue 1,0;", 2, 0, true);
        frozen("stone blue 1,1;stone blue 1,0;", 2, 0, false);
        Due.same("frozenCells() of an empty pond", Due.game("pond 3 by 3;").frozenCells(), 0);
        HexPond pond = Due.game("pond 3 by 3;stone red 1,0;stone red 0,1;stone red 1,2;stone red 2,1;");
        Due.same("frozenCells() of two corners", pond.frozenCells(), 2);
    }

    private static void frozen(String stones, int column, int row, boolean due) {
        HexPond pond = Due.game("pond 3 by 3;" + stones);
        Due.same("isFrozen(" + column + ", " + row + ") of " + stones, pond.isFrozen(column, row), due);
    }

    private static void frozenIsRefused() {
        HexPond pond = Due.game("pond 4 by 3;");
        int[][] beyond = {{4, 0}, {0, 3}, {-1, 0}, {0, -1}, {Integer.MAX_VALUE, 0}};
        for (int[] at : beyond) {
            Due.refused(pond, "isFrozen", BEYOND, () -> pond.isFrozen(at[0], at[1]));
        }
    }
}
