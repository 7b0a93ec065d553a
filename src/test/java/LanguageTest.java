/** Promises 4, 5, and 8: which tapes are games, and which errors the others have, and where. */
public final class LanguageTest {
    public static void main(String[] args) {
        gamesAreRead();
        tokensAreRead();
        wrongTokensAreToldFirst();
        depthIsAtMostEight();
        tokensAreAtMostFourHundred();
        numbersAreLookedAt();
        stonesLieOnceAtACell();
        plansAreAtMostSixteen();
        errorsComeInTheirOrder();
        anErrorLeavesAllAsItWas();
        aGameBeginsAnew();
        Due.end("LanguageTest");
    }

    private static void gamesAreRead() {
        Due.same("columns() without a line of pond", Due.game("").columns(), 7);
        Due.same("rows() without a line of pond", Due.game("plan red win;").rows(), 7);
        HexPond pond = Due.game("pond 3 by 9;stone blue 2,8;plan red at 1,2 when won blue;stone red 0,0;");
        Due.same("columns()", pond.columns(), 3);
        Due.same("rows()", pond.rows(), 9);
        Due.same("plans()", pond.plans(), 1);
        Due.same("ownerOf(2, 8)", pond.ownerOf(2, 8), 1);
        Due.same("ownerOf(0, 0)", pond.ownerOf(0, 0), 0);
        Due.game("plan red win;plan red guard;plan blue save;plan blue near;plan red at-1,max(free,turn)/2;");
        Due.game("plan red win when 1<2 and 3>4 or 5=6 and 7<=8 or 9>=0;");
        Due.game("plan red win when not not [[won red or not [won blue]] and needs red-stones blue*bridges red<1];");
        Due.game("plan red win when (min(1,2)+(3))*4-5/-6=turn;");
    }

    private static void tokensAreRead() {
        Due.game("\n pond\n3 by\n4 ; \n");
        Due.game("pond 3by 4;");
        Due.game("pond 000003 by 000004;");
        Due.game("plan red win when 999999>0;");
        Due.error("pond3 by 4;", 1, 0);
        Due.error("pond 3 by4;", 1, 7);
        Due.error("planred win;", 1, 0);
        Due.error("plan red winz;", 1, 9);
        Due.error("plan red wina;", 1, 9);
        Due.error("plan red win0;", 1, 9);
        Due.error("plan red win9;", 1, 9);
        Due.error("plan red wi n;", 1, 9);
        Due.error("0pond 3 by 3;", 1, 0);
        Due.error("plan red win when 1< =2;", 1, 21);
        Due.error("plan red win when 1> =2;", 1, 21);
        Due.error("plan red win when 1=<2;", 1, 20);
        Due.error("plan red win when 1==2;", 1, 20);
        Due.error("pond 0000003 by 4;", 1, 5);
        Due.error("pond 1234567 by 4;", 1, 5);
        Due.error("stone red 1234567,1;", 1, 10);
        Due.error("  abcdefghijk", 1, 2);
        Due.error("plan red win when abcdefghij > 1;", 1, 18);
        Due.error("\tpond 3 by 3;", 1, 0);
        Due.error("pond 3 by 3;\r\n", 1, 12);
        Due.error("Pond 3 by 3;", 1, 0);
        Due.error("pond 3 by 3; \u00e9", 1, 13);
        Due.error("pond 3 by 3; \u0000", 1, 13);
        Due.error("plan red win when 1 ! 2;", 1, 20);
        Due.error("plan red win when 1 _ 2;", 1, 20);
        Due.error("stones red 1,1;", 1, 0);
        Due.error("plan red win when stone red = 1;", 1, 18);
    }

    private static void wrongTokensAreToldFirst() {
        Due.error("pond 3 by 3", 1, 11);
        Due.error("pond 3 by 3  \n ", 1, 15);
        Due.error("pond", 1, 4);
        Due.error(";", 1, 0);
        Due.error("pond 3 by 3;;", 1, 12);
        Due.error("pond 3 by 3; pond 3 by 3;", 1, 13);
        Due.error("plan red win; pond 3 by 3;", 1, 14);
        Due.error("pond -3 by 3;", 1, 5);
        Due.error("pond (3) by 3;", 1, 5);
        Due.error("stone 1,1;", 1, 6);
        Due.error("stone red blue 1,1;", 1, 10);
        Due.error("stone red 1 1;", 1, 12);
        Due.error("stone red 1,1 stone", 1, 14);
        Due.error("stone red 1+1,1;", 1, 11);
        Due.error("plan win;", 1, 5);
        Due.error("plan red;", 1, 8);
        Due.error("plan red near 1;", 1, 14);
        Due.error("plan red win win;", 1, 13);
        Due.error("plan red at 1,;", 1, 14);
        Due.error("plan red at 1,2,3;", 1, 15);
        Due.error("plan red at won red,1;", 1, 12);
        Due.error("plan red at 1<2,1;", 1, 13);
        Due.error("plan red win when;", 1, 17);
        Due.error("plan red win when 1;", 1, 19);
        Due.error("plan red win when 1<2<3;", 1, 21);
        Due.error("plan red win when (1<2);", 1, 20);
        Due.error("plan red win when [1]<2;", 1, 20);
        Due.error("plan red win when [1<2;", 1, 22);
        Due.error("plan red win when won;", 1, 21);
        Due.error("plan red win when won red and;", 1, 29);
        Due.error("plan red win when or;", 1, 18);
        Due.error("plan red win when not;", 1, 21);
        Due.error("plan red win when 1<not 2;", 1, 20);
        Due.error("plan red win when won red when won blue;", 1, 26);
        Due.error("plan red win when needs<2;", 1, 23);
        Due.error("plan red win when turn red<2;", 1, 23);
        Due.error("plan red win when min(1)<2;", 1, 23);
        Due.error("plan red win when min 1,2<2;", 1, 22);
        Due.error("plan red win when min<2;", 1, 21);
        Due.error("plan red win when turn+max=2;", 1, 26);
        Due.error("plan red win when max(1,2,3)<2;", 1, 25);
        Due.error("plan red win when ()<2;", 1, 19);
        Due.error("plan red win when 1+<2;", 1, 20);
        Due.error("plan red win when +1<2;", 1, 18);
        Due.error("plan red win when 1+*2<2;", 1, 20);
    }

    private static void depthIsAtMostEight() {
        String plan = "plan red win when ";
        String deep = Due.many("(", 8) + "1" + Due.many(")", 8);
        Due.game(plan + deep + "<2;");
        Due.game(plan + "2>" + deep + ";");
        Due.game(plan + deep + "+" + deep + "*" + deep + "<" + deep + ";");
        Due.game("plan red at " + deep + "," + deep + ";");
        Due.error(plan + "(" + deep + ")<2;", 1, 18 + 8);
        Due.error("plan red at (" + deep + "),1;", 1, 12 + 8);
        Due.game(plan + Due.many("-", 8) + "1<2;");
        Due.error(plan + Due.many("-", 9) + "1<2;", 1, 18 + 8);
        Due.game(plan + Due.many("not ", 8) + "1<2;");
        Due.error(plan + Due.many("not ", 9) + "1<2;", 1, 18 + 32);
        Due.game(plan + Due.many("[", 8) + "1<2" + Due.many("]", 8) + ";");
        Due.error(plan + Due.many("[", 9) + "1<2" + Due.many("]", 9) + ";", 1, 18 + 8);
        Due.game(plan + Due.many("min(1,", 8) + "2" + Due.many(")", 8) + "<2;");
        Due.error(plan + Due.many("max(1,", 9) + "2" + Due.many(")", 9) + "<2;", 1, 18 + 6 * 8 + 3);
        Due.game(plan + Due.many("max(", 8) + "2" + Due.many(",1)", 8) + "<2;");
        Due.error(plan + Due.many("min(", 9) + "2" + Due.many(",1)", 9) + "<2;", 1, 18 + 4 * 8 + 3);
        Due.game(plan + "not [not [not [not [1<2]]]];");
        Due.error(plan + "not [not [not [not [(1)<2]]]];", 1, 18 + 20);
        Due.error(plan + "not [not [not [not [1<-2]]]];", 1, 18 + 22);
        Due.error(plan + "not [not [not [not [not won red]]]];", 1, 18 + 20);
        Due.game(plan + "not [not [not -(-1)<2]];");
        Due.error(plan + "not [not [not -(-(1))<2]];", 1, 18 + 17);
        Due.game(plan + "not not not not -(-(1))<-(-(2)) and " + Due.many("-", 8) + "3<4;");
        Due.game(plan + Due.many("-", 8) + "1+" + Due.many("-", 8) + "2*" + Due.many("-", 8) + "3<4;");
        Due.error(plan + Due.many("(", 400) + "1<2;", 1, 18 + 8);
    }

    private static void tokensAreAtMostFourHundred() {
        // Four words, a number, two tokens for each + 1, and three more.
        String plan = "plan red win when 1";
        String fourHundred = plan + Due.many("+1", 196) + "<turn;";
        Due.same("plans() of 400 tokens", Due.game(fourHundred + " \n ").plans(), 1);
        Due.same("columns() of 400 tokens",
                Due.game("pond 3 by 3;" + plan + Due.many("+1", 193) + "<-turn;").columns(), 3);
        Due.error(fourHundred + " plan red win;", 1, fourHundred.length() + 1);
        Due.error(fourHundred + " ;", 1, fourHundred.length() + 1);
        Due.error(fourHundred + " #", 1, fourHundred.length() + 1);
        String shorter = fourHundred.substring(0, fourHundred.length() - 1);
        Due.error(shorter, 1, shorter.length());
        Due.error(shorter + "+", 1, shorter.length() + 1);
        Due.error(shorter + "+1;", 1, shorter.length() + 1);
        Due.error(plan + Due.many("+1", 196) + "<-turn;", 1, shorter.length() + 1);
        Due.error(plan + Due.many("+1", 900), 1, 18 + 396);
    }

    private static void numbersAreLookedAt() {
        for (int number = 3; number <= 9; number++) {
            HexPond pond = Due.game("pond " + number + " by " + (12 - number) + ";");
            Due.same("columns()", pond.columns(), number);
            Due.same("rows()", pond.rows(), 12 - number);
        }
        Due.error("pond 2 by 3;", 5, 5);
        Due.error("pond 10 by 3;", 5, 5);
        Due.error("pond 0 by 0;", 5, 5);
        Due.error("pond 3 by 2;", 5, 10);
        Due.error("pond 3 by 10;", 5, 10);
        Due.error("pond 9 by 999999;", 5, 10);
        Due.game("pond 9 by 3;stone red 8,2;");
        Due.error("pond 9 by 3;stone red 9,2;", 5, 22);
        Due.error("pond 9 by 3;stone red 8,3;", 5, 24);
        Due.error("pond 9 by 3;stone red 9,3;", 5, 22);
        Due.error("pond 3 by 9;stone blue 3,8;", 5, 23);
        Due.error("stone red 7,0;", 5, 10);
        Due.error("stone red 0,7;", 5, 12);
        Due.error("stone red 999999,0;", 5, 10);
        Due.game("plan red at 999999,999999 when 0=99;");
    }

    private static void stonesLieOnceAtACell() {
        Due.error("stone red 1,1; stone red 1,1;", 2, 27);
        Due.error("stone red 1,1; stone blue 01,001;", 2, 29);
        Due.game("stone red 1,2; stone red 2,1; stone blue 1,1;");
        Due.error("pond 3 by 9;stone red 1,2;stone blue 2,1;plan red win;stone blue 1,2;", 2, 67);
        Due.error("stone red 6,6;stone red 6,6;stone red 7,0;", 2, 26);
        Due.error("stone red 6,6;stone red 7,0;stone red 6,6;", 5, 24);
    }

    private static void plansAreAtMostSixteen() {
        String eight = Due.many("plan red win;", 8) + Due.many("plan blue win;", 8);
        Due.same("plans() of 16", Due.game(eight).plans(), 16);
        Due.same("plans() of 1", Due.game("plan blue near;").plans(), 1);
        Due.error(eight + "plan red win;", 4, eight.length());
        Due.error(eight + " plan blue win;plan blue win;", 4, eight.length() + 1);
        Due.error(Due.many("plan red win;", 17), 4, 16 * 13);
        Due.error(Due.many("plan red win;", 17) + "stone red 7,0;", 4, 16 * 13);
        Due.error(Due.many("plan red win;", 16) + "stone red 7,0;plan red win;", 5, 16 * 13 + 10);
        Due.error(Due.many("plan red win;", 99), 4, 16 * 13);
        Due.error(Due.many("plan red win;", 101), 1, 100 * 13);
    }

    private static void errorsComeInTheirOrder() {
        Due.error("pond 2 by 2; stone red 0,0; stone red 0,0;;", 1, 42);
        Due.error("pond 2 by 10; stone red 99,99;", 5, 5);
        Due.error("stone red 1,1; stone red 1,1; plan red", 1, 38);
        Due.error("stone red 1,1; stone red 1,9; stone red 1,1;", 5, 27);
    }

    private static void anErrorLeavesAllAsItWas() {
        HexPond pond = Due.game("pond 4 by 5; stone red 1,1; stone blue 2,2; plan blue near; plan red near;");
        pond.layStone(0, 3);
        pond.playByPlans(3);
        long before = pond.digest();
        int planned = pond.plannedCell();
        String[] wrong = {"pond 6 by 6; plan red at 0,0; plan blue at 0,0 when", "pond 2 by 6; plan red at 0,0;",
            "plan red at 0,0; stone blue 1,1; stone red 1,1;", "plan blue at 3,4; stone blue 1,7;",
            Due.many("plan blue at 0,0;", 17)};
        int[] errors = {1, 5, 2, 5, 4};
        int[] places = {51, 5, 45, 31, 16 * 17};
        for (int i = 0; i < wrong.length; i++) {
            Due.same("teach() of " + wrong[i], Due.teach(pond, wrong[i]), errors[i]);
            Due.same("errorAt()", pond.errorAt(), places[i]);
            Due.same("digest() behind the error", pond.digest(), before);
            Due.same("plannedCell() behind the error", pond.plannedCell(), planned);
        }
        Due.same("stonesToTakeBack()", pond.stonesToTakeBack(), 4);
        pond.takeBack();
        Due.same("errorAt() stays", pond.errorAt(), 16 * 17);
        Due.same("teach() of a game", Due.teach(pond, "pond 3 by 3;"), 0);
        Due.same("errorAt() of a game", pond.errorAt(), -1);
    }

    private static void aGameBeginsAnew() {
        HexPond pond = Due.game("pond 4 by 5; stone red 1,1; plan blue near; plan red near;");
        pond.layStone(0, 3);
        Due.same("teach()", Due.teach(pond, "stone blue 6,6; plan red win;"), 0);
        Due.same("stonesToTakeBack()", pond.stonesToTakeBack(), 0);
        Due.same("columns()", pond.columns(), 7);
        Due.same("rows()", pond.rows(), 7);
        Due.same("plans()", pond.plans(), 1);
        Due.same("stonesOf(0)", pond.stonesOf(0), 0);
        Due.same("stonesOf(1)", pond.stonesOf(1), 1);
        Due.same("emptyCells()", pond.emptyCells(), 48);
        Due.same("ownerOf(6, 6)", pond.ownerOf(6, 6), 1);
        Due.refused(pond, "takeBack()", IllegalStateException.class, pond::takeBack);
        String sum = "1" + Due.many("+1", 190);
        for (int time = 0; time < 5; time++) {
            Due.same("a long plan, time and again",
                    Due.teach(pond, "plan red at " + sum + "," + time + ";"), 0);
            Due.same("plannedCell()", pond.plannedCell(), 191 % 7 + 7 * time);
        }
        Due.same("teach() of the empty tape", pond.teach(), 0);
        Due.same("digest()", pond.digest(), new HexPond().digest());
    }
}
