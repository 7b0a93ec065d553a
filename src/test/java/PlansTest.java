/** Promises 34 to 41: what plans do and say, the cells one must or should take, and the digest. */
public final class PlansTest {
    private static final Class<IllegalStateException> STATE = IllegalStateException.class;
    private static final Class<IllegalArgumentException> ARGUMENT = IllegalArgumentException.class;

    /** 14 stones: red 6, blue 8; red's turn; red has two whole bridges and a broken one, blue has one. */
    private static final String POSITION = "pond 9 by 9;stone red 1,1;stone red 2,2;stone red 4,1;stone red 5,2;"
            + "stone red 8,0;stone red 8,8;stone blue 5,1;stone blue 0,6;stone blue 1,8;stone blue 3,6;"
            + "stone blue 4,7;stone blue 0,0;stone blue 7,4;stone blue 7,5;";

    public static void main(String[] args) {
        winTakesTheFirstWinningCell();
        guardTakesTheOthersWinningCell();
        saveMendsABrokenBridge();
        nearTakesTheCheapestCell();
        atTakesTheCellOfTwoSums();
        plansAreTriedInTheirOrder();
        sumsAreReckoned();
        sumsSeeThePond();
        testsHold();
        playGoesTurnByTurn();
        playStops();
        wouldBeChangesNothing();
        mustPlayIsTheOnlyCell();
        bestCellHasTheGreatestLead();
        meanGroupIsTheMean();
        digestGoesOverAll();
        Due.end("PlansTest");
    }

    private static void planned(String game, int due) {
        HexPond pond = Due.game(game);
        long before = pond.digest();
        Due.same("plannedCell() of " + game, pond.plannedCell(), due);
        Due.same("digest() behind plannedCell()", pond.digest(), before);
    }

    private static void winTakesTheFirstWinningCell() {
        String two = "pond 3 by 3;stone red 0,1;stone red 1,1;stone blue 0,0;stone blue 1,0;";
        planned(two + "plan red win;", 2);
        planned(two + "stone blue 2,0;plan red win;", 5);
        planned("pond 3 by 3;plan red win;", -1);
        planned("pond 3 by 3;stone red 1,0;stone red 2,0;stone blue 2,1;stone blue 2,2;plan red win;", 0);
        planned("pond 3 by 3;stone blue 0,1;stone blue 0,2;stone red 2,2;stone red 2,1;plan red guard;", 0);
        planned("pond 3 by 3;stone red 0,1;stone red 1,1;plan blue win;", -1);
        planned("pond 3 by 3;stone red 0,1;stone red 2,2;stone blue 1,1;stone blue 0,2;stone red 0,0;plan blue win;", 1);
    }

    private static void guardTakesTheOthersWinningCell() {
        String two = "pond 3 by 3;stone red 0,1;stone red 1,1;stone blue 0,0;";
        planned(two + "plan blue guard;", 2);
        planned(two + "plan blue win;plan blue guard;", 2);
        planned("pond 3 by 3;stone red 0,1;stone red 1,1;stone blue 2,0;plan blue guard;", 5);
        planned("pond 3 by 3;stone red 0,1;plan blue guard;", -1);
        planned(two + "stone blue 1,0;plan red guard;", -1);
    }

    private static void saveMendsABrokenBridge() {
        String bridge = "pond 5 by 5;stone red 1,1;stone red 2,2;stone blue 4,4;";
        planned(bridge + "stone blue 2,1;plan red save;", 11);
        planned(bridge + "stone blue 1,2;plan red save;", 7);
        planned(bridge + "plan red save;", -1);
        planned(bridge + "stone blue 1,2;stone blue 2,1;plan red save;", -1);
        planned(bridge + "stone blue 1,2;stone red 3,0;plan blue save;", -1);
        String two = "pond 9 by 9;stone red 6,6;stone red 7,7;stone red 1,1;stone red 2,2;stone blue 7,6;"
                + "stone blue 1,2;stone blue 0,8;stone blue 0,0;";
        planned(two + "plan red save;", 2 + 9);
        planned("pond 5 by 5;stone blue 1,1;stone blue 2,2;stone red 2,1;stone red 0,0;stone red 4,4;"
                + "plan blue save;", 11);
    }

    private static void nearTakesTheCheapestCell() {
        planned("pond 3 by 3;plan red near;", 0);
        planned("pond 3 by 3;stone red 1,1;stone blue 0,0;plan red near;", 2);
        planned("pond 3 by 3;stone red 2,0;stone red 0,1;stone blue 0,0;stone blue 1,0;plan red near;", 4);
        planned("pond 5 by 3;stone blue 2,0;stone blue 2,1;plan red near;", 4);
        planned("pond 3 by 5;stone blue 2,2;stone red 0,0;stone red 1,4;plan blue near;", 2);
    }

    private static void atTakesTheCellOfTwoSums() {
        planned("pond 4 by 5;plan red at 0,0;", 0);
        planned("pond 4 by 5;plan red at 3,4;", 19);
        planned("pond 4 by 5;plan red at 4,5;", 0);
        planned("pond 4 by 5;plan red at 5,13;", 13);
        planned("pond 4 by 5;plan red at -1,-1;", 19);
        planned("pond 4 by 5;plan red at -4,-5;", 0);
        planned("pond 4 by 5;plan red at -6,-8;", 10);
        planned("pond 4 by 5;plan red at 65536*32768,-(65536*32768);", 8);
        planned("pond 4 by 5;stone blue 1,2;plan red at 1,2;", -1);
        planned("pond 4 by 5;stone blue 1,2;plan red at 5,7;plan red at 2,1;", 6);
    }

    private static void plansAreTriedInTheirOrder() {
        planned("plan red at 1,0;plan red at 2,0;", 1);
        planned("plan red at 1,0 when 1=2;plan red at 2,0;", 2);
        planned("plan red win;plan red guard;plan red save;plan red at 3,0;", 3);
        planned("plan blue at 1,0;plan red at 2,0;plan blue at 3,0;", 2);
        planned("stone red 6,6;plan red at 1,0;plan blue at 2,0;", 2);
        planned("plan blue at 1,0;", -1);
        planned("plan red at 1,0 when 1=2;", -1);
        planned("", -1);
        StringBuilder many = new StringBuilder();
        for (int i = 0; i < 15; i++) {
            many.append("plan red at ").append(i % 6).append(",0 when ").append(i).append("=turn+1;");
        }
        planned(many + "plan red at 6,6;", 1);
        planned(Due.many("plan red win;", 15) + "plan red at 6,6;", 48);
        HexPond over = Due.game("pond 3 by 3;stone red 0,1;stone red 1,1;stone red 2,1;plan blue at 0,0;");
        Due.refused(over, "plannedCell() when the game is over", STATE, over::plannedCell);
    }

    private static void holds(String test, boolean due) {
        planned(POSITION + "plan red at 8,5 when " + test + ";", due ? 53 : -1);
    }

    private static void sumsAreReckoned() {
        holds("2+3*4=14", true);
        holds("(2+3)*4=20", true);
        holds("20-5-4=11", true);
        holds("64/4/4=4", true);
        holds("7/2*2=6", true);
        holds("2*7/3=4", true);
        holds("-7/2=-3", true);
        holds("7/-2=-3", true);
        holds("-7/-2=3", true);
        holds("7/0=0", true);
        holds("-7/(1-1)=0", true);
        holds("1/2=0", true);
        holds("--3=3", true);
        holds("-2+5=3", true);
        holds("-2*3=0-6", true);
        holds("2--3=5", true);
        holds("min(3,5)=3 and min(5,3)=3 and min(-1,-2)=-2", true);
        holds("max(3,5)=5 and max(5,3)=5 and max(-1,-2)=-1", true);
        holds("max(min(1,2),min(4,3))*2=6", true);
        holds("999999*999999=-(729379*1000+967)", true);
        holds("65536*65536=0", true);
        holds("65536*32768<0", true);
        holds("65536*32768-1=65536*32767+65535", true);
        holds("65536*32767+65535+1=65536*32768", true);
        holds("65536*32768/-1=65536*32768", true);
        holds("-(65536*32768)=65536*32768", true);
        holds("65536*32768/2=-(1073*1000*1000+741*1000+824)", true);
    }

    private static void sumsSeeThePond() {
        holds("turn=14", true);
        holds("free=67", true);
        holds("stones red=6 and stones blue=8", true);
        holds("bridges red=2", true);
        holds("bridges blue=1", true);
        HexPond pond = Due.game(POSITION);
        holds("needs red=" + pond.stonesNeeded(0) + " and needs blue=" + pond.stonesNeeded(1), true);
        Due.same("bridgesOf(0)", pond.bridgesOf(0), 2);
        Due.same("bridgesOf(1)", pond.bridgesOf(1), 1);
        Due.same("brokenBridgesOf(0)", pond.brokenBridgesOf(0), 1);
        Due.same("the next stone is seen", Due.game("plan red at turn,free;plan blue at turn,free;").playByPlans(2), 2);
        HexPond seen = Due.game("plan red at turn,free;plan blue at stones red+1,needs red+stones blue;");
        Due.same("playByPlans(2)", seen.playByPlans(2), 2);
        Due.same("takeBack() of blue", seen.takeBack(), 2 + 7 * 6);
        Due.same("takeBack() of red", seen.takeBack(), 0);
    }

    private static void testsHold() {
        holds("1<2", true);
        holds("2<2", false);
        holds("3<2", false);
        holds("1>2", false);
        holds("2>2", false);
        holds("3>2", true);
        holds("1=2", false);
        holds("2=2", true);
        holds("1<=2", true);
        holds("2<=2", true);
        holds("3<=2", false);
        holds("1>=2", false);
        holds("2>=2", true);
        holds("3>=2", true);
        holds("-1<0", true);
        holds("won red", false);
        holds("not won blue", true);
        holds("not not won blue", false);
        holds("1=1 and 1=2", false);
        holds("1=1 and 2=2", true);
        holds("1=2 or 1=3", false);
        holds("1=2 or 1=1", true);
        holds("1=1 or 1=2", true);
        holds("1=1 or 1=1 and 1=2", true);
        holds("[1=1 or 1=1] and 1=2", false);
        holds("1=2 and 1=1 or 1=1", true);
        holds("1=2 and [1=1 or 1=1]", false);
        holds("not 1=2 and 1=2", false);
        holds("not [1=2 and 1=2]", true);
        holds("not 1=1 or 1=1", true);
        holds("not [1=1 or 1=1]", false);
        holds("1<2 and 3>2 and 1<=2 and 3>=2 and 2=2 and not won red and 1<2", true);
        holds("not 1<2 or not 3>2 or not 1<=2 or not 3>=2 or not 2=2 or won red", false);
        planned("pond 3 by 3;stone red 0,1;stone red 1,1;plan blue at 0,0 when won red;", -1);
        planned("pond 3 by 3;stone red 0,1;stone red 1,1;plan blue at 0,0 when needs red=1;", 0);
    }

    private static final String RACE = "pond 3 by 3;plan red at turn/2,1;plan blue at turn/2,0;";

    private static void playGoesTurnByTurn() {
        HexPond pond = Due.game(RACE);
        Due.same("plannedCell()", pond.plannedCell(), 3);
        Due.same("playByPlans(1)", pond.playByPlans(1), 1);
        Due.same("plannedCell() of blue", pond.plannedCell(), 0);
        Due.same("playByPlans(2)", pond.playByPlans(2), 2);
        Due.same("stonesToTakeBack()", pond.stonesToTakeBack(), 3);
        Due.same("playerInTurn()", pond.playerInTurn(), 1);
        Due.same("playByPlans(81)", pond.playByPlans(81), 2);
        Due.same("hasWon(0)", pond.hasWon(0), true);
        Due.same("playByPlans(1) when the game is over", pond.playByPlans(1), 0);
        int[] cells = {5, 1, 4, 0, 3};
        for (int cell : cells) {
            Due.same("takeBack()", pond.takeBack(), cell);
        }
    }

    private static void playStops() {
        HexPond alone = Due.game("pond 3 by 3;plan red at turn,1;");
        Due.same("blue rests", alone.playByPlans(81), 1);
        Due.same("blue rests still", alone.playByPlans(81), 0);
        Due.same("plannedCell() of who rests", alone.plannedCell(), -1);
        alone.layStone(0, 0);
        Due.same("red goes on", alone.playByPlans(81), 1);
        Due.same("without plans", new HexPond().playByPlans(5), 0);
        int[] wrong = {0, 82, -1, Integer.MIN_VALUE, Integer.MAX_VALUE};
        for (int stones : wrong) {
            Due.refused(alone, "playByPlans(" + stones + ")", ARGUMENT, () -> alone.playByPlans(stones));
        }
        HexPond over = Due.game("pond 3 by 3;stone red 0,1;stone red 1,1;stone red 2,1;plan blue at 0,0;");
        Due.refused(over, "playByPlans(0) when the game is over", ARGUMENT, () -> over.playByPlans(0));
        Due.same("playByPlans(1) when the game is over", over.playByPlans(1), 0);
    }

    private static void wouldBe(HexPond pond, int stones, int winner) {
        long before = pond.digest();
        Due.same("stonesByPlans()", pond.stonesByPlans(), stones);
        Due.same("winnerByPlans()", pond.winnerByPlans(), winner);
        Due.same("digest() behind what would be", pond.digest(), before);
    }

    private static void wouldBeChangesNothing() {
        HexPond pond = Due.game(RACE);
        wouldBe(pond, 5, 0);
        pond.playByPlans(2);
        wouldBe(pond, 3, 0);
        Due.same("stonesToTakeBack()", pond.stonesToTakeBack(), 2);
        pond.playByPlans(81);
        wouldBe(pond, 0, 0);
        wouldBe(Due.game("pond 3 by 3;plan red at 0,turn/2;plan blue at 1,turn/2;"), 6, 1);
        wouldBe(Due.game("pond 3 by 3;plan red at turn/2,1;plan blue at 0,0;"), 3, -1);
        wouldBe(new HexPond(), 0, -1);
        wouldBe(Due.game("pond 3 by 3;stone blue 0,0;stone blue 0,1;stone blue 0,2;plan red near;"), 0, 1);
        HexPond whole = Due.game("pond 9 by 9;plan red near;plan blue near;");
        int stones = whole.stonesByPlans();
        Due.same("playByPlans(81)", whole.playByPlans(81), stones);
        Due.same("isOver()", whole.isOver(), true);
        Due.same("winnerByPlans()", whole.hasWon(whole.winnerByPlans()), true);
    }

    private static void mustPlayIsTheOnlyCell() {
        HexPond pond = Due.game("pond 3 by 3;stone red 0,1;stone red 1,1;stone blue 2,0;");
        Due.same("mustPlay()", pond.mustPlay(), 5);
        HexPond two = Due.game("pond 3 by 3;stone red 0,1;stone red 1,1;stone blue 0,0;");
        Due.refused(two, "mustPlay() with two cells to guard", STATE, two::mustPlay);
        HexPond own = Due.game("pond 3 by 3;stone red 0,2;stone red 1,2;stone red 0,0;stone blue 2,0;stone blue 2,1;");
        Due.same("the one to guard", own.winningCells(0), 1);
        Due.refused(own, "mustPlay() with a winning cell", STATE, own::mustPlay);
        HexPond none = new HexPond();
        Due.refused(none, "mustPlay() with none to guard", STATE, none::mustPlay);
        HexPond over = Due.game("pond 3 by 3;stone red 0,1;stone red 1,1;stone red 2,1;stone blue 2,2;");
        Due.refused(over, "mustPlay() when the game is over", STATE, over::mustPlay);
        HexPond last = Due.game("pond 3 by 3;stone blue 1,0;stone blue 1,1;stone blue 1,2;stone blue 0,0;"
                + "stone red 0,1;stone red 0,2;stone red 2,0;stone red 2,1;");
        Due.same("the one cell left", last.winningCells(1), 1);
        Due.refused(last, "mustPlay() when the game is over with a cell left", STATE, last::mustPlay);
        HexPond red = Due.game("pond 3 by 3;stone blue 1,0;stone blue 1,2;stone red 0,0;");
        red.layStone(2, 2);
        Due.same("mustPlay() is for the player in turn", red.playerInTurn(), 0);
        Due.same("mustPlay() of red", red.mustPlay(), 4);
    }

    private static void best(String game, int due) {
        HexPond pond = Due.game(game);
        long before = pond.digest();
        Due.same("bestCell() of " + game, pond.bestCell(), due);
        Due.same("digest() behind bestCell()", pond.digest(), before);
    }

    private static void bestCellHasTheGreatestLead() {
        best("", 0);
        best("pond 3 by 3;stone red 1,1;stone blue 0,0;", 3);
        best("pond 3 by 3;stone red 0,1;stone red 1,1;stone blue 0,0;stone blue 1,0;", 2);
        best("pond 3 by 3;stone red 0,1;stone red 1,1;stone blue 2,0;", 5);
        best("pond 3 by 3;stone red 0,1;stone red 1,1;stone blue 2,0;stone blue 0,0;", 5);
        best("pond 3 by 3;stone blue 1,0;stone blue 1,1;", 5);
        bestByHand(POSITION);
        bestByHand(POSITION + "stone red 4,4;stone red 3,4;stone red 5,4;");
        bestByHand("pond 4 by 3;stone blue 0,0;stone blue 1,1;");
        bestByHand("pond 4 by 3;stone red 0,0;stone red 1,1;stone red 3,1;");
        bestByHand("pond 9 by 3;stone red 4,0;stone red 4,1;stone blue 0,0;stone blue 7,2;");
        bestByHand("pond 3 by 9;stone blue 0,4;stone blue 1,4;stone red 1,6;stone red 2,2;stone red 1,1;");
        HexPond over = Due.game("pond 3 by 3;stone red 0,1;stone red 1,1;stone red 2,1;");
        Due.refused(over, "bestCell() when the game is over", STATE, over::bestCell);
    }

    /** The best cell is found once more with stones laid by hand, where no stone ends the game. */
    private static void bestByHand(String game) {
        HexPond pond = Due.game(game);
        int player = pond.playerInTurn();
        int due = -1;
        int most = 0;
        for (int cell = 0; cell < pond.columns() * pond.rows(); cell++) {
            int column = cell % pond.columns();
            int row = cell / pond.columns();
            if (pond.isEmpty(column, row)) {
                pond.layStone(column, row);
                int lead = pond.stonesNeeded(1 - player) - pond.stonesNeeded(player);
                pond.takeBack();
                if (due < 0 || lead > most) {
                    due = cell;
                    most = lead;
                }
            }
        }
        best(game, due);
    }

    private static void meanGroupIsTheMean() {
        Due.same("meanGroup() without any", new HexPond().meanGroup(), 0.0);
        Due.same("meanGroup() of one", Due.game("stone red 1,1;").meanGroup(), 1.0);
        Due.same("meanGroup() of 2 and 1",
                Due.game("stone red 1,1;stone red 2,1;stone blue 5,5;").meanGroup(), 1.5);
        Due.same("meanGroup() of 2, 1, and 1",
                Due.game("stone red 1,1;stone red 2,1;stone blue 5,5;stone blue 3,3;").meanGroup(), 4.0 / 3.0);
        Due.same("meanGroup() of 14 stones", Due.game(POSITION).meanGroup(), 14.0 / 13.0);
    }

    private static long digestOf(HexPond pond, int needsRed, int needsBlue) {
        long[] first = {pond.columns(), pond.rows(), pond.plans(), pond.stonesToTakeBack(), pond.tapeBytes(),
            pond.emptyCells(), pond.frozenCells(), pond.isOver() ? 1 : 0};
        long d = 953;
        for (long x : first) {
            d = d * 31 + x;
        }
        for (int player = 0; player < 2; player++) {
            long[] its = {pond.stonesOf(player), pond.hasWon(player) ? 1 : 0, pond.groupsOf(player),
                pond.greatestGroup(player), pond.bridgesOf(player), pond.brokenBridgesOf(player),
                pond.winningCells(player), player == 0 ? needsRed : needsBlue};
            for (long x : its) {
                d = d * 31 + x;
            }
        }
        for (int row = 0; row < pond.rows(); row++) {
            for (int column = 0; column < pond.columns(); column++) {
                d = d * 31 + (pond.isEmpty(column, row) ? 0 : 1 + pond.ownerOf(column, row));
            }
        }
        return d;
    }

    private static void digestGoesOverAll() {
        HexPond fresh = new HexPond();
        long d = 953;
        int[] numbers = {7, 7, 0, 0, 0, 49, 0, 0, 0, 0, 0, 0, 0, 0, 0, 7, 0, 0, 0, 0, 0, 0, 0, 7};
        for (int x : numbers) {
            d = d * 31 + x;
        }
        for (int cell = 0; cell < 49; cell++) {
            d = d * 31;
        }
        Due.same("digest() of a new object", fresh.digest(), d);
        fresh.feed(1, 2, 3, 4, 5);
        Due.same("digest() with a tape", fresh.digest(), digestOf(fresh, 7, 7));
        HexPond pond = Due.game(POSITION + "plan red near;");
        pond.playByPlans(1);
        Due.same("digest() of a position", pond.digest(),
                digestOf(pond, pond.stonesNeeded(0), pond.stonesNeeded(1)));
        HexPond over = Due.game("pond 3 by 4;stone blue 0,0;stone blue 0,1;stone blue 0,2;stone blue 0,3;"
                + "stone red 2,0;");
        Due.same("digest() when red has no way", over.digest(), digestOf(over, 99, 0));
    }
}
