import java.math.BigInteger;

/** Boundary cases of plans, and of promises 34 to 41: each method is of one sentence. */
final class PlansBounds {
    private static final String POND = "2. The pond";
    private static final Class<IllegalStateException> STATE = IllegalStateException.class;
    private static final Class<IllegalArgumentException> ARGUMENT = IllegalArgumentException.class;

    private static final String RED_HAS_WON = "pond 3 by 3;stone red 0,1;stone red 1,1;stone red 2,1;";
    private static final String BLUE_HAS_WON = "pond 3 by 3;stone blue 1,0;stone blue 1,1;stone blue 1,2;";

    /** Red has won, and no cell is empty. */
    private static final String FULL = RED_HAS_WON + "stone blue 0,0;stone blue 1,0;stone blue 2,0;stone blue 0,2;"
            + "stone blue 1,2;stone red 2,2;";

    /** Each lays a stone in the row 1, or 0, one behind the other, till red has the row 1. */
    private static final String RACE = "pond 3 by 3;plan red at turn/2,1;plan blue at turn/2,0;";

    /** 81 stones are laid by plans: red's rows 0 to 4 but their middles, blue's others, and red's middle at last. */
    private static final String LONG = "pond 9 by 9;"
            + "plan red at turn/2-turn/16*8+(turn/2-turn/16*8)/4,turn/16 when turn<80;plan red at 4,4;"
            + "plan blue at 4,turn/2+turn/8 when turn<16;"
            + "plan blue at turn/2-turn/16*8+(turn/2-turn/16*8)/4,4+turn/16;";

    private PlansBounds() {
    }

    static void test(Sentences its) {
        its.of(POND, "the first one of which the test holds (or that has none) and which finds a cell is carried out",
                PlansBounds::theFirstThatHoldsAndFindsACell);
        its.of(POND, "If there is none, the player rests", PlansBounds::thePlayerRests);
        its.of(POND, "win: the winning cell of this player with the smallest number", PlansBounds::winOrNone);
        its.of(POND, "guard: that of the other player", PlansBounds::guardOrNone);
        its.of(POND, "save: the empty cell with the smallest number that lies beside both cells of a broken bridge of"
                + " this player, and so does the one with the other player's stone", PlansBounds::saveOrNone);
        its.of(POND, "near: the empty cell of which the way through it needs the fewest stones, of several the"
                + " smallest number", PlansBounds::nearOfSeveral);
        its.of(POND, "none, if there is no way", PlansBounds::nearWithoutAWay);
        its.of(POND, "each by its remainder of the columns, or rows (0 or greater)",
                PlansBounds::remaindersAreZeroOrGreater);
        its.of(POND, "or rows (0 or greater), if it is empty", PlansBounds::atFindsEmptyCellsAlone);
        its.of(POND, "turn is how many stones there are, free how many cells are empty, stones how many stones a"
                + " player has, bridges how many whole bridges", PlansBounds::countsFromNoneToAll);
        its.of(POND, "needs how many stones a player needs, 99 if there is no way", PlansBounds::needsIsNinetyNine);
        its.of(POND, "won holds, if the player has won", PlansBounds::wonWhileTheGameGoesOn);
        its.of(POND, "Both sides of and and or are reckoned", PlansBounds::bothSidesAreReckoned);
        its.of(POND, "and binds more than or, not more than and", PlansBounds::notAndOrBind);

        its.of("Promise 34", "-1 if this one would rest (nothing is changed)", PlansBounds::plannedCellOfWhoRests);
        its.of("Promise 34", "Throws IllegalStateException if the game is over", PlansBounds::plannedCellIsRefused);
        its.of("Promise 35", "till the game is over, or the one whose turn it is rests", PlansBounds::playEnds);
        its.of("Promise 35", "stones: how many stones at most", PlansBounds::noMoreStonesThanTold);
        its.of("Promise 35", "Returns how many are laid", PlansBounds::playTellsTheStones);
        its.of("Promise 35", "Throws IllegalArgumentException if stones is not 1 to 81", PlansBounds::playIsRefused);
        its.of("Promise 36", "till the game is over, or the one whose turn it is rests (nothing is changed)",
                PlansBounds::stonesByPlansFromNoneToMany);
        its.of("Promise 37", "-1 if nobody would, as one rests (nothing is changed)", PlansBounds::nobodyWouldWin);
        its.of("Promise 38", "Looks for the cell that the player whose turn it is has to take, as otherwise the other"
                + " one wins with the next stone", PlansBounds::theOneCellToTake);
        its.of("Promise 38", "Throws IllegalStateException if the game is over, this player has a winning cell, or the"
                + " other one has not just one", PlansBounds::mustPlayIsRefused);
        its.of("Promise 39", "who has no way needs 99", PlansBounds::cuttingOffIsBest);
        its.of("Promise 39", "Returns its number, of several the smallest one (nothing is changed)",
                PlansBounds::theSmallestOfSeveral);
        its.of("Promise 39", "Throws IllegalStateException if the game is over", PlansBounds::bestCellIsRefused);
        its.of("Promise 40", "0 without any", PlansBounds::theMeanOfNoneAndMany);
        its.of("Promise 41", "A number d starts with 953", PlansBounds::theDigestOfAnEmptyPond);
        its.of("Promise 41", "which wraps around as a 64-bit integer", PlansBounds::theDigestWrapsAround);
        its.of("Promise 41", "the stones that this one needs (99 if there is no way)",
                PlansBounds::theDigestWithoutAWay);
        its.of("Promise 41", "for each cell 0 if it is empty, otherwise 1 and its player, added",
                PlansBounds::theDigestOfFullCells);
    }

    private static void planned(String game, int due) {
        HexPond pond = Due.game(game);
        long before = pond.digest();
        Due.same("plannedCell() of " + game, pond.plannedCell(), due);
        Due.same("digest() behind it", pond.digest(), before);
    }

    // ---- which plan

    private static void theFirstThatHoldsAndFindsACell() {
        planned("plan red at 1,0;plan red at 2,0;", 1);
        planned("plan red at 1,0 when 1=2;plan red at 2,0;plan red at 3,0;", 2);
        planned("plan red at 1,0 when 1=1;plan red at 2,0;", 1);
        planned("stone blue 1,0;plan red at 1,0;plan red at 2,0;", 2);
        planned("plan red win;plan red guard;plan red save;plan red at 3,0;", 3);
        planned("plan blue at 1,0;plan red at 2,0;", 2);
        planned("stone red 6,6;plan red at 1,0;plan blue at 2,0;", 2);
        // The last of sixteen; and the first of them, by which the others are not asked.
        planned(Due.many("plan red at 1,0 when 1=2;", 15) + "plan red at 6,6;", 48);
        planned(Due.many("plan red win;", 15) + "plan red at 6,6;", 48);
        planned("plan red at 6,6;" + Due.many("plan red at 1,0;", 15), 48);
    }

    private static void thePlayerRests() {
        planned("", -1);
        planned("plan blue near;", -1);
        planned("stone red 1,1;plan red near;", -1);
        planned(Due.many("plan red near when 1=2;", 16), -1);
        planned(Due.many("plan red win;", 16), -1);
        planned("stone blue 1,0;plan red at 1,0;", -1);
        HexPond pond = new HexPond();
        Due.same("playByPlans(81) without plans", pond.playByPlans(81), 0);
        // Who rests keeps the turn.
        HexPond red = Due.game("plan blue near;");
        Due.same("playByPlans(81) when red rests", red.playByPlans(81), 0);
        Due.same("playerInTurn()", red.playerInTurn(), 0);
    }

    // ---- how plans find cells

    private static void winOrNone() {
        String two = "pond 3 by 3;stone red 0,1;stone red 1,1;stone blue 0,0;stone blue 1,0;";
        planned(two + "plan red win;", 2);
        planned(two + "stone blue 2,0;plan red win;", 5);
        planned(two + "plan red win;plan red at 2,2;", 2);
        planned("pond 3 by 3;plan red win;", -1);
        planned("pond 3 by 3;stone red 0,1;stone red 1,1;plan blue win;", -1);
        // The first and the last cell.
        planned("pond 3 by 3;stone red 1,0;stone red 2,0;stone blue 2,1;stone blue 2,2;plan red win;", 0);
        planned("pond 3 by 3;stone blue 2,0;stone blue 2,1;stone red 0,0;stone red 1,2;stone red 0,2;plan blue win;",
                8);
    }

    private static void guardOrNone() {
        String two = "pond 3 by 3;stone red 0,1;stone red 1,1;stone blue 0,0;";
        planned(two + "plan blue guard;", 2);
        planned("pond 3 by 3;stone red 0,1;stone red 1,1;stone blue 2,0;plan blue guard;", 5);
        planned(two + "stone blue 1,0;plan red guard;", -1);
        planned("pond 3 by 3;stone red 0,1;plan blue guard;", -1);
        planned("pond 3 by 3;stone blue 0,1;stone blue 0,2;stone red 2,2;stone red 2,1;plan red guard;", 0);
        planned("pond 3 by 3;stone blue 2,0;stone blue 2,1;stone red 0,0;stone red 1,2;plan red guard;", 8);
    }

    private static void saveOrNone() {
        String bridge = "pond 5 by 5;stone red 1,1;stone red 2,2;stone blue 4,4;";
        planned(bridge + "stone blue 2,1;plan red save;", 11);
        planned(bridge + "stone blue 1,2;plan red save;", 7);
        planned(bridge + "stone blue 4,3;plan red save;", -1);
        planned(bridge + "stone blue 1,2;stone blue 2,1;plan red save;", -1);
        planned(bridge + "stone blue 1,2;stone red 2,1;stone blue 4,3;plan red save;", -1);
        planned(bridge + "stone blue 1,2;stone red 3,0;plan blue save;", -1);
        planned("plan red save;", -1);
        // Of two broken ones the smallest cell, whichever bridge is told first.
        String two = "stone blue 7,6;stone blue 1,2;stone blue 0,8;stone blue 0,0;plan red save;";
        planned("pond 9 by 9;stone red 6,6;stone red 7,7;stone red 1,1;stone red 2,2;" + two, 11);
        planned("pond 9 by 9;stone red 1,1;stone red 2,2;stone red 6,6;stone red 7,7;" + two, 11);
        // The bridge with the smaller cells need not have the smaller one to save it.
        planned("pond 9 by 9;stone red 4,0;stone red 3,2;stone red 5,0;stone red 6,1;stone blue 4,1;stone blue 5,1;"
                + "stone blue 8,8;stone blue 8,7;plan red save;", 6);
        // A bridge over a corner.
        String corner = "pond 3 by 3;stone blue 1,0;stone blue 2,1;stone red 0,2;stone red 0,0;";
        planned(corner + "stone red 2,0;plan blue save;", 4);
        planned(corner + "stone red 1,1;plan blue save;", 2);
    }

    private static void nearOfSeveral() {
        planned("pond 3 by 3;plan red near;", 0);
        planned("pond 9 by 9;plan red near;", 0);
        planned("pond 3 by 3;stone red 1,1;stone blue 0,0;plan red near;", 2);
        planned("pond 3 by 3;stone red 2,0;stone red 0,1;stone blue 0,0;stone blue 1,0;plan red near;", 4);
        // A cell on the cheapest way, and not one that lies beside.
        planned("pond 5 by 3;stone blue 2,0;stone blue 2,1;plan red near;", 4);
        planned("pond 3 by 5;stone blue 2,2;stone red 0,0;stone red 1,4;plan blue near;", 2);
        // The last cell of all.
        planned("pond 3 by 3;stone blue 2,0;stone red 0,2;stone red 1,2;stone blue 2,1;plan red near;", 8);
    }

    /** Where a player has no way the other one has won, and no plan is tried: so none finds a cell. */
    private static void nearWithoutAWay() {
        String plans = "plan red near;plan blue near;";
        String[] games = {RED_HAS_WON, BLUE_HAS_WON, FULL};
        for (String game : games) {
            HexPond over = Due.game(game + plans);
            Due.refused(over, "plannedCell() of " + game, STATE, over::plannedCell);
            Due.same("playByPlans(81) of " + game, over.playByPlans(81), 0);
        }
        // No way goes through a corner that is shut in, be its number the smallest.
        planned("pond 3 by 3;stone blue 1,0;stone blue 0,1;" + plans, 2);
        planned("pond 3 by 3;stone red 1,0;stone red 0,1;" + plans, 2);
    }

    private static void remaindersAreZeroOrGreater() {
        for (int column = -9; column <= 9; column++) {
            for (int row = -9; row <= 9; row++) {
                planned("pond 4 by 5;plan red at " + column + "," + row + ";",
                        4 * Math.floorMod(row, 5) + Math.floorMod(column, 4));
            }
        }
        planned("pond 9 by 3;plan red at 8,2;", 26);
        planned("pond 9 by 3;plan red at 9,3;", 0);
        planned("pond 9 by 3;plan red at -1,-1;", 26);
        planned("pond 3 by 9;plan red at 8,8;", 26);
        planned("pond 3 by 9;plan red at 999999,999999;", 0);
        // -2147483648 is 5 more than a multiple of 7, and 2147483647 is 1 more.
        planned("plan red at 65536*32768,65536*32768-1;", 7 + 5);
    }

    private static void atFindsEmptyCellsAlone() {
        planned("stone blue 6,6;plan red at 6,6;", -1);
        planned("stone red 6,6;stone blue 0,0;plan red at 6,6;", -1);
        planned("stone red 6,6;stone blue 0,0;plan red at -1,-1;plan red at 7,7;plan red at 1,0;", 1);
        planned("stone blue 0,0;plan red at 0,0;plan red at 7,7;plan red at -7,-7;", -1);
        planned("stone blue 0,0;plan red at 0,1;", 7);
        planned("stone blue 0,0;plan red at 1,0;", 1);
    }

    private static void holds(String game, String test) {
        HexPond pond = Due.game(game);
        int player = pond.playerInTurn();
        String plan = "plan " + (player == 0 ? "red" : "blue") + " at 2,2 when " + test + ";";
        Due.same("whether " + test + " holds of " + game, Due.game(game + plan).plannedCell(),
                2 * pond.columns() + 2);
    }

    private static void countsFromNoneToAll() {
        holds("", "turn=0 and free=49 and stones red=0 and stones blue=0 and bridges red=0 and bridges blue=0");
        holds("pond 3 by 3;", "turn=0 and free=9");
        holds("pond 9 by 9;", "turn=0 and free=81");
        holds("pond 9 by 9;stone red 8,8;", "turn=1 and free=80 and stones red=1 and stones blue=0");
        holds("pond 9 by 9;stone blue 8,8;", "turn=1 and free=80 and stones red=0 and stones blue=1");
        // All but one cell are taken, and the game goes on.
        String last = "pond 3 by 3;stone blue 1,0;stone blue 1,1;stone red 0,0;stone red 0,1;stone red 0,2;"
                + "stone red 1,2;stone blue 2,0;stone blue 2,1;";
        holds(last, "turn=8 and free=1 and stones red=4 and stones blue=4");
        String bridges = "pond 5 by 5;stone red 0,0;stone red 1,1;stone blue 4,4;stone blue 3,3;";
        holds(bridges, "bridges red=1 and bridges blue=1");
        holds(bridges + "stone blue 0,1;stone red 3,4;", "bridges red=0 and bridges blue=0");
    }

    private static void needsIsNinetyNine() {
        holds("", "needs red=7 and needs blue=7");
        holds("pond 3 by 9;", "needs red=3 and needs blue=9");
        holds("pond 9 by 3;", "needs red=9 and needs blue=3");
        holds("pond 3 by 3;stone red 0,1;stone red 1,1;", "needs red=1 and needs blue=3");
        // Where a player has no way no plan is tried; bestCell() and digest() reckon with the 99.
        HexPond over = Due.game(BLUE_HAS_WON + "plan red at 0,0 when needs red=99;");
        Due.same("playByPlans(81) when red has no way", over.playByPlans(81), 0);
        Due.refused(over, "stonesNeeded(0) when red has no way", STATE, () -> over.stonesNeeded(0));
    }

    private static void wonWhileTheGameGoesOn() {
        holds("", "not won red and not won blue");
        holds("pond 3 by 3;stone red 0,1;stone red 1,1;", "not won red and not won blue");
        holds("pond 3 by 3;stone red 0,1;stone blue 1,1;stone red 2,1;", "not [won red or won blue]");
        Due.same("playByPlans(81) by a plan for whoever has won", Due.game(RED_HAS_WON
                + "plan blue at 0,0 when won red;plan red at 0,0 when won red;").playByPlans(81), 0);
    }

    private static void bothSidesAreReckoned() {
        // A quotient by 0 and sums that wrap around stand on the side that decides nothing, and on the other one.
        holds("", "1=1 or 1/0=5");
        holds("", "1/0=5 or 1=1");
        holds("", "not [1=2 and 1/0=0]");
        holds("", "not [1/0=0 and 1=2]");
        holds("", "1/0=0 and 65536*65536=0");
        String[] sides = {"1=2", "1=1"};
        for (int left = 0; left < 2; left++) {
            for (int right = 0; right < 2; right++) {
                String and = sides[left] + " and " + sides[right];
                String or = sides[left] + " or " + sides[right];
                holds("", left == 1 && right == 1 ? and : "not [" + and + "]");
                holds("", left == 1 || right == 1 ? or : "not [" + or + "]");
            }
        }
    }

    private static void notAndOrBind() {
        holds("", "1=1 or 1=1 and 1=2");
        holds("", "1=2 and 1=2 or 1=1");
        holds("", "not [[1=1 or 1=1] and 1=2]");
        holds("", "not [1=2 and [1=2 or 1=1]]");
        // Were not to turn what stands behind the and or the or as well, these would hold, or hold not.
        planned("plan red at 0,0 when not 1=2 and 1=2;", -1);
        planned("plan red at 0,0 when not 1=1 or 1=1;", 0);
        planned("plan red at 0,0 when not not 1=2 or 1=2;", -1);
        planned("plan red at 0,0 when not [1=1 or 1=1];", -1);
        planned("plan red at 0,0 when not 1=1 and 1=1 or 1=1 and 1=1;", 0);
    }

    // ---- what is played by plans

    private static void plannedCellOfWhoRests() {
        planned("", -1);
        planned("plan red win;", -1);
        planned("plan blue near;", -1);
        HexPond pond = Due.game("plan red near;");
        Due.same("plannedCell() of red", pond.plannedCell(), 0);
        Due.same("plannedCell() once more", pond.plannedCell(), 0);
        Due.same("stonesToTakeBack()", pond.stonesToTakeBack(), 0);
        pond.playByPlans(1);
        Due.same("plannedCell() of blue", pond.plannedCell(), -1);
    }

    private static void plannedCellIsRefused() {
        String plans = "plan red near;plan blue near;plan red at 0,0;plan blue at 0,0;";
        String[] games = {RED_HAS_WON, BLUE_HAS_WON, FULL};
        for (String game : games) {
            HexPond pond = Due.game(game + plans);
            Due.refused(pond, "plannedCell() of " + game, STATE, pond::plannedCell);
            HexPond without = Due.game(game);
            Due.refused(without, "plannedCell() without plans of " + game, STATE, without::plannedCell);
        }
        HexPond race = Due.game(RACE);
        race.playByPlans(81);
        Due.refused(race, "plannedCell() of a game played by plans", STATE, race::plannedCell);
        race.takeBack();
        Due.same("plannedCell() with a stone taken back", race.plannedCell(), 5);
    }

    private static void playEnds() {
        HexPond race = Due.game(RACE);
        Due.same("playByPlans(81) till red has won", race.playByPlans(81), 5);
        Due.same("hasWon(0)", race.hasWon(0), true);
        Due.same("playByPlans(81) when it is over", race.playByPlans(81), 0);
        Due.same("playByPlans(1) when it is over", race.playByPlans(1), 0);
        HexPond rests = Due.game("pond 3 by 3;plan red at turn,1;plan blue at 0,0;");
        Due.same("playByPlans(81) till blue rests", rests.playByPlans(81), 3);
        Due.same("playerInTurn()", rests.playerInTurn(), 1);
        Due.same("playByPlans(81) when blue rests", rests.playByPlans(81), 0);
        HexPond whole = Due.game(LONG);
        Due.same("playByPlans(81) of all cells", whole.playByPlans(81), 81);
        Due.same("hasWon(0) of all cells", whole.hasWon(0), true);
        HexPond full = Due.game(FULL + "plan red at 0,0;plan blue at 0,0;");
        Due.same("playByPlans(81) of a full pond", full.playByPlans(81), 0);
    }

    private static void noMoreStonesThanTold() {
        for (int most = 1; most <= 7; most++) {
            HexPond pond = Due.game(RACE);
            Due.same("playByPlans(" + most + ")", pond.playByPlans(most), Math.min(most, 5));
            Due.same("stonesToTakeBack()", pond.stonesToTakeBack(), Math.min(most, 5));
        }
        HexPond whole = Due.game(LONG);
        for (int stone = 1; stone <= 81; stone++) {
            Due.same("isOver() ahead of the stone " + stone, whole.isOver(), false);
            Due.same("playByPlans(1) of the stone " + stone, whole.playByPlans(1), 1);
            Due.same("emptyCells()", whole.emptyCells(), 81 - stone);
        }
        Due.same("isOver() at last", whole.isOver(), true);
        HexPond most = Due.game(LONG);
        Due.same("playByPlans(80)", most.playByPlans(80), 80);
        Due.same("isOver() of 80 stones", most.isOver(), false);
        Due.same("playByPlans(81) of the last one", most.playByPlans(81), 1);
    }

    private static void playTellsTheStones() {
        Due.same("playByPlans(81) without plans", new HexPond().playByPlans(81), 0);
        HexPond pond = Due.game(RACE);
        Due.same("playByPlans(2)", pond.playByPlans(2), 2);
        Due.same("stonesToTakeBack()", pond.stonesToTakeBack(), 2);
        Due.same("playByPlans(81) of the others", pond.playByPlans(81), 3);
        Due.same("stonesToTakeBack() of all", pond.stonesToTakeBack(), 5);
    }

    private static void playIsRefused() {
        int[] wrong = {0, -1, 82, 83, 100, Integer.MIN_VALUE, Integer.MAX_VALUE};
        String[] games = {RACE, "", RED_HAS_WON, FULL};
        for (String game : games) {
            HexPond pond = Due.game(game);
            for (int stones : wrong) {
                Due.refused(pond, "playByPlans(" + stones + ") of " + game, ARGUMENT, () -> pond.playByPlans(stones));
            }
        }
        Due.same("playByPlans(1)", Due.game(RACE).playByPlans(1), 1);
        Due.same("playByPlans(81)", Due.game(RACE).playByPlans(81), 5);
        Due.same("playByPlans(80)", Due.game(RACE).playByPlans(80), 5);
    }

    private static void wouldBe(String game, int stones, int winner) {
        HexPond pond = Due.game(game);
        long before = pond.digest();
        Due.same("stonesByPlans() of " + game, pond.stonesByPlans(), stones);
        Due.same("digest() behind stonesByPlans()", pond.digest(), before);
        Due.same("winnerByPlans() of " + game, pond.winnerByPlans(), winner);
        Due.same("digest() behind winnerByPlans()", pond.digest(), before);
        Due.same("stonesToTakeBack()", pond.stonesToTakeBack(), 0);
    }

    private static void stonesByPlansFromNoneToMany() {
        wouldBe("", 0, -1);
        wouldBe("plan red near;", 1, -1);
        wouldBe(RACE, 5, 0);
        wouldBe(RED_HAS_WON + "plan blue near;", 0, 0);
        wouldBe(FULL + "plan red near;plan blue near;", 0, 0);
        HexPond pond = Due.game(RACE);
        for (int laid = 0; laid <= 5; laid++) {
            Due.same("stonesByPlans() behind " + laid, pond.stonesByPlans(), 5 - laid);
            Due.same("stonesToTakeBack()", pond.stonesToTakeBack(), laid);
            Due.same("playByPlans(1)", pond.playByPlans(1), laid < 5 ? 1 : 0);
        }
        // 81 stones, the last of which ends the game.
        wouldBe(LONG, 81, 0);
        HexPond whole = Due.game(LONG);
        whole.playByPlans(80);
        Due.same("stonesByPlans() of the last one", whole.stonesByPlans(), 1);
        whole.playByPlans(81);
        Due.same("stonesByPlans() of a full pond", whole.stonesByPlans(), 0);
    }

    private static void nobodyWouldWin() {
        wouldBe("", 0, -1);
        wouldBe("plan red near;", 1, -1);
        wouldBe("pond 3 by 3;plan red at turn,1;plan blue at 0,0;", 3, -1);
        wouldBe(RACE, 5, 0);
        wouldBe("pond 3 by 3;plan red at 0,turn/2;plan blue at 1,turn/2;", 6, 1);
        wouldBe(LONG, 81, 0);
        wouldBe(BLUE_HAS_WON, 0, 1);
        wouldBe(RED_HAS_WON, 0, 0);
    }

    // ---- the cells to take

    private static void must(String game, int due) {
        HexPond pond = Due.game(game);
        long before = pond.digest();
        Due.same("mustPlay() of " + game, pond.mustPlay(), due);
        Due.same("digest() behind it", pond.digest(), before);
    }

    private static void theOneCellToTake() {
        must("pond 3 by 3;stone red 0,1;stone red 1,1;stone blue 2,0;", 5);
        must("pond 3 by 3;stone red 0,1;stone red 1,1;stone blue 2,1;", 2);
        must("pond 3 by 3;stone blue 1,0;stone blue 1,2;stone red 0,0;stone red 2,2;", 4);
        must("pond 3 by 3;stone red 1,0;stone red 2,0;stone red 0,2;stone blue 0,1;stone blue 1,1;", 0);
        must("pond 3 by 3;stone blue 2,0;stone blue 2,1;stone red 0,0;stone red 1,2;", 8);
    }

    private static void mustPlayIsRefused() {
        String[] games = {
            // Over.
            RED_HAS_WON, BLUE_HAS_WON, FULL, RED_HAS_WON + "stone blue 0,0;stone blue 1,0;stone blue 2,0;"
                    + "stone blue 0,2;stone blue 1,2;",
            BLUE_HAS_WON + "stone blue 0,0;stone red 0,1;stone red 0,2;stone red 2,0;stone red 2,1;",
            // This player has a winning cell, and the other one has none, or just one.
            "pond 3 by 3;stone red 0,1;stone red 1,1;stone blue 0,0;stone blue 2,2;",
            "pond 3 by 3;stone red 0,2;stone red 1,2;stone red 0,0;stone blue 2,0;stone blue 2,1;",
            "pond 3 by 3;stone red 0,0;stone red 1,0;stone red 0,2;stone blue 1,2;stone blue 2,1;",
            // The other one has none, or two.
            "", "pond 3 by 3;", "pond 3 by 3;stone red 0,1;",
            "pond 3 by 3;stone red 0,1;stone red 1,1;stone blue 0,0;",
            "pond 3 by 3;stone red 0,1;stone red 1,1;"};
        for (String game : games) {
            HexPond pond = Due.game(game);
            Due.refused(pond, "mustPlay() of " + game, STATE, pond::mustPlay);
        }
    }

    private static void best(String game, int due) {
        HexPond pond = Due.game(game);
        long before = pond.digest();
        Due.same("bestCell() of " + game, pond.bestCell(), due);
        Due.same("digest() behind it", pond.digest(), before);
        Due.same("stonesToTakeBack() behind it", pond.stonesToTakeBack(), 0);
    }

    private static void cuttingOffIsBest() {
        // With the stone that wins the other one has no way: 99 - 0 is the most of all.
        best("pond 3 by 3;stone red 0,1;stone red 1,1;stone blue 1,2;stone blue 2,0;", 5);
        best("pond 3 by 3;stone red 0,1;stone red 2,1;stone blue 0,0;stone blue 2,2;", 4);
        best("pond 9 by 3;stone red 0,2;stone red 1,2;stone red 2,2;stone red 3,2;stone red 4,2;stone red 5,2;"
                + "stone red 6,2;stone red 7,2;stone blue 0,0;stone blue 1,0;stone blue 2,0;stone blue 3,0;"
                + "stone blue 4,0;stone blue 5,0;stone blue 6,0;stone blue 7,0;", 17);
        best("pond 3 by 3;stone blue 1,0;stone blue 1,1;stone red 0,0;stone red 2,0;stone red 2,2;", 6);
        HexPond whole = PondBounds.laidFullButTheMiddle();
        Due.same("bestCell() of the only one", whole.bestCell(), 40);
    }

    private static void theSmallestOfSeveral() {
        best("pond 3 by 3;stone red 0,1;stone red 1,1;stone blue 0,0;stone blue 1,0;", 2);
        best("pond 3 by 3;stone red 0,1;stone red 1,1;stone blue 2,0;stone blue 1,0;", 5);
        best("", 0);
        best("pond 9 by 9;", 0);
        // At the first cell, and at the last one.
        best("pond 3 by 3;stone red 1,0;stone red 2,0;stone blue 0,1;stone blue 2,2;", 0);
        best("pond 3 by 3;stone red 0,2;stone red 1,2;stone blue 2,1;stone blue 2,0;", 8);
    }

    private static void bestCellIsRefused() {
        String[] games = {RED_HAS_WON, BLUE_HAS_WON, FULL};
        for (String game : games) {
            HexPond pond = Due.game(game);
            Due.refused(pond, "bestCell() of " + game, STATE, pond::bestCell);
        }
        HexPond race = Due.game(RACE);
        race.playByPlans(81);
        Due.refused(race, "bestCell() of a game played by plans", STATE, race::bestCell);
        race.takeBack();
        Due.same("bestCell() with a stone taken back", race.bestCell(), 2);
    }

    // ---- numbers over all

    private static void theMeanOfNoneAndMany() {
        Due.same("meanGroup() of a new object", new HexPond().meanGroup(), 0.0);
        Due.same("meanGroup() of one red stone", Due.game("stone red 6,6;").meanGroup(), 1.0);
        Due.same("meanGroup() of one blue stone", Due.game("stone blue 6,6;").meanGroup(), 1.0);
        Due.same("meanGroup() of 2 and 1", Due.game("stone red 1,1;stone red 2,1;stone blue 5,5;").meanGroup(), 1.5);
        Due.same("meanGroup() of 1, 1, and 2",
                Due.game("stone red 0,0;stone red 6,6;stone blue 3,3;stone blue 3,4;").meanGroup(), 4.0 / 3.0);
        HexPond full = PondBounds.laidFullButTheMiddle();
        // Red's stones hang together; blue's are those above the middle, and those below it.
        full.layStone(4, 4);
        Due.same("meanGroup() of a full pond", full.meanGroup(), 27.0);
        HexPond pond = Due.game("stone red 0,0;");
        pond.layStone(3, 3);
        pond.takeBack();
        Due.same("meanGroup() with a stone taken back", pond.meanGroup(), 1.0);
    }

    private static long digestOf(long start, long[] numbers) {
        long d = start;
        for (long x : numbers) {
            d = d * 31 + x;
        }
        return d;
    }

    private static void theDigestOfAnEmptyPond() {
        long d = digestOf(953, new long[] {7, 7, 0, 0, 0, 49, 0, 0, 0, 0, 0, 0, 0, 0, 0, 7, 0, 0, 0, 0, 0, 0, 0, 7});
        Due.same("digest() of a new object", new HexPond().digest(), digestOf(d, new long[49]));
        long least = digestOf(953, new long[] {3, 3, 0, 0, 0, 9, 0, 0, 0, 0, 0, 0, 0, 0, 0, 3, 0, 0, 0, 0, 0, 0, 0, 3});
        Due.same("digest() of 3 by 3", Due.game("pond 3 by 3;").digest(), digestOf(least, new long[9]));
    }

    private static void theDigestWrapsAround() {
        int negative = 0;
        for (int columns = 3; columns <= 9; columns++) {
            for (int rows = 3; rows <= 9; rows++) {
                int cells = columns * rows;
                long[] numbers = {columns, rows, 0, 0, 0, cells, 0, 0, 0, 0, 0, 0, 0, 0, 0, columns,
                    0, 0, 0, 0, 0, 0, 0, rows};
                BigInteger d = BigInteger.valueOf(953);
                for (int i = 0; i < numbers.length + cells; i++) {
                    long x = i < numbers.length ? numbers[i] : 0;
                    d = d.multiply(BigInteger.valueOf(31)).add(BigInteger.valueOf(x));
                }
                Due.same("it is longer than 64 bits", d.bitLength() > 64, true);
                negative += d.longValue() < 0 ? 1 : 0;
                HexPond pond = Due.game("pond " + columns + " by " + rows + ";");
                Due.same("digest() of " + columns + " by " + rows, pond.digest(), d.longValue());
            }
        }
        Due.same("some of them have the highest bit", negative > 0 && negative < 49, true);
    }

    private static void theDigestWithoutAWay() {
        // 3 by 3, over; red: 3 stones, won, a group of 3, 6 winning cells, needs none; blue none, and 99.
        long d = digestOf(953, new long[] {3, 3, 0, 0, 0, 6, 0, 1, 3, 1, 1, 3, 0, 0, 6, 0, 0, 0, 0, 0, 0, 0, 0, 99,
            0, 0, 0, 1, 1, 1, 0, 0, 0});
        Due.same("digest() when blue has no way", Due.game(RED_HAS_WON).digest(), d);
        long blue = digestOf(953, new long[] {3, 3, 0, 0, 0, 6, 0, 1, 0, 0, 0, 0, 0, 0, 0, 99, 3, 1, 1, 3, 0, 0, 6, 0,
            0, 2, 0, 0, 2, 0, 0, 2, 0});
        Due.same("digest() when red has no way", Due.game(BLUE_HAS_WON).digest(), blue);
    }

    private static void theDigestOfFullCells() {
        // Full; red: 4 stones, one group; blue: 3 above and 2 below.
        long d = digestOf(953, new long[] {3, 3, 0, 0, 0, 0, 0, 1, 4, 1, 1, 4, 0, 0, 0, 0, 5, 0, 2, 3, 0, 0, 0, 99,
            2, 2, 2, 1, 1, 1, 2, 2, 1});
        Due.same("digest() of a full pond", Due.game(FULL).digest(), d);
        HexPond pond = Due.game("pond 3 by 3;plan red near;plan blue win;");
        pond.layStone(0, 0);
        pond.feed(0, 0, 0, 0, 0);
        long one = digestOf(953, new long[] {3, 3, 2, 1, 20, 8, 0, 0, 1, 0, 1, 1, 0, 0, 0, 2, 0, 0, 0, 0, 0, 0, 0, 3,
            1, 0, 0, 0, 0, 0, 0, 0, 0});
        Due.same("digest() of one stone, two plans, and a tape", pond.digest(), one);
    }
}
