/** Boundary cases of the tape, its tokens, the grammar and its depth: each method is of one sentence. */
final class LanguageBounds {
    private static final String TERMS = "Terms";
    private static final String LANGUAGE = "1. The language";

    /** 2147483647, and the smallest number; both are two deep. */
    private static final String GREATEST = "(2147*1000*1000+483647)";
    private static final String LEAST = "(-2147*1000*1000-483648)";

    private static final String PLAN = "plan red win when ";

    private LanguageBounds() {
    }

    static void test(Sentences its) {
        its.of("What it is", "An object is used for at most 512 calls after it has been made",
                LanguageBounds::the512thCallIsAnswered);
        its.of(TERMS, "sums, differences and products of the language wrap around in 32 bits",
                LanguageBounds::reckoningWrapsAround);
        its.of(TERMS, "/ is cut towards 0", LanguageBounds::quotientsAreCut);
        its.of(TERMS, "gives 0 with 0 on the right side", LanguageBounds::nothingIsDividedByZero);
        its.of(TERMS, "and -2147483648 / -1 gives -2147483648", LanguageBounds::theLeastNumberByMinusOne);
        its.of(TERMS, "Positions of the tape are counted from 0, in bytes", LanguageBounds::positionsCountFromZero);

        its.of(LANGUAGE, "The tape is a row of at most 2000 bytes", LanguageBounds::twoThousandBytesAreRead);
        its.of(LANGUAGE, "at first empty", LanguageBounds::theTapeIsEmptyAtFirst);
        its.of(LANGUAGE, "teach reads it as a game, and it is empty behind it", LanguageBounds::teachEmptiesTheTape);
        its.of(LANGUAGE, "Blanks (32) and line ends (10) can stand between tokens, at the beginning and at the end",
                LanguageBounds::blanksStandAnywhere);
        its.of(LANGUAGE, "have to stand between two tokens that would otherwise be read as one",
                LanguageBounds::blanksPartWords);
        its.of(LANGUAGE, "The longest possible token is always read", LanguageBounds::theLongestTokenIsRead);
        its.of(LANGUAGE, "A word: a letter a to z, followed by letters a to z and digits",
                LanguageBounds::wordsGoFromAToZ);
        its.of(LANGUAGE, "at most 10 bytes", LanguageBounds::wordsOfTenAndElevenBytes);
        its.of(LANGUAGE, "A number: 1 to 6 digits", LanguageBounds::numbersHaveOneToSixDigits);
        its.of(LANGUAGE, "Symbols: ( ) [ ] ; , + - * / < > = <= >=", LanguageBounds::otherSignsAreNoSymbols);
        its.of(LANGUAGE, "All other words are names", LanguageBounds::nearlyAKeywordIsAName);

        its.of(LANGUAGE, "[ x ] outside of quotation marks means x or nothing", LanguageBounds::whatMayBeMissing);
        its.of(LANGUAGE, "{ x } x any number of times, also none", LanguageBounds::noneAndManyTimes);
        its.of(LANGUAGE, "Depth. It is 0 at the beginning", LanguageBounds::depthBeginsAtZero);
        its.of(LANGUAGE, "1 greater between a ( and its )", LanguageBounds::eightParentheses);
        its.of(LANGUAGE, "a [ and its ]", LanguageBounds::eightBrackets);
        its.of(LANGUAGE, "behind a - in front (of a value) for what it turns", LanguageBounds::eightMinuses);
        its.of(LANGUAGE, "and behind a not for what it turns", LanguageBounds::eightNots);
        its.of(LANGUAGE, "It may be at most 8", LanguageBounds::eightOfAllKinds);

        its.of("Promise 2", "Appends twenty bytes to the tape: the four bytes of each number, the highest one first",
                LanguageBounds::eachByteHasItsPlace);
        its.of("Promise 2", "Returns the number of bytes of the tape", LanguageBounds::feedTellsTheBytes);
        its.of("Promise 2", "Throws IllegalStateException if there would be more than 2000",
                LanguageBounds::feedIsRefusedBeyondTwoThousand);
        its.of("Promise 3", "Shortens the tape to its first bytes", LanguageBounds::trimKeepsNoneOrAll);
        its.of("Promise 3", "Returns n", LanguageBounds::trimTellsWhatIsKept);
        its.of("Promise 3", "Throws IllegalArgumentException if n is not 0 to the number of bytes of the tape",
                LanguageBounds::trimIsRefused);
        its.of("Promise 10", "Returns how many bytes the tape has", LanguageBounds::tapeBytesFromNoneToAll);
    }

    // ---- the terms

    private static void the512thCallIsAnswered() {
        HexPond pond = new HexPond();
        // 29 bytes: two calls of feed, one of trim; with teach, four calls.
        Due.same("teach()", Due.teach(pond, "plan red near;plan blue near;"), 0);
        HexPond other = Due.game("plan red near;plan blue near;");
        int best = other.bestCell();
        int stones = other.stonesByPlans();
        int winner = other.winnerByPlans();
        long digest = other.digest();
        for (int call = 5; call <= 512; call += 4) {
            Due.same("bestCell(), call " + call, pond.bestCell(), best);
            Due.same("stonesByPlans(), call " + (call + 1), pond.stonesByPlans(), stones);
            Due.same("winnerByPlans(), call " + (call + 2), pond.winnerByPlans(), winner);
            Due.same("digest(), call " + (call + 3), pond.digest(), digest);
        }
        HexPond hand = new HexPond();
        for (int call = 1; call <= 512; call += 2) {
            Due.same("layStone(6, 6), call " + call, hand.layStone(6, 6), 0);
            Due.same("takeBack(), call " + (call + 1), hand.takeBack(), 48);
        }
        HexPond taught = new HexPond();
        for (int call = 1; call <= 512; call++) {
            Due.same("teach(), call " + call, taught.teach(), 0);
        }
    }

    /** Whether a test holds: red takes the cell 0 if it does, and rests otherwise. */
    private static void holds(String test) {
        Due.same("the test " + test, Due.game("plan red at 0,0 when " + test + ";").plannedCell(), 0);
    }

    private static void reckoningWrapsAround() {
        holds(GREATEST + "+1=" + LEAST);
        holds(GREATEST + "+1<0");
        holds(GREATEST + "+" + GREATEST + "=-2");
        holds(LEAST + "+" + LEAST + "=0");
        holds(LEAST + "-1=" + GREATEST);
        holds(LEAST + "-1>0");
        holds(LEAST + "-" + GREATEST + "=1");
        holds("-" + LEAST + "=" + LEAST);
        holds("-" + LEAST + "<0");
        holds(GREATEST + "*2=-2");
        holds(GREATEST + "*" + GREATEST + "=1");
        holds(LEAST + "*2=0");
        holds(LEAST + "*-1=" + LEAST);
        holds("65536*65536=0");
        holds("46341*46341<0");
        holds("999999*999999=-(729379*1000+967)");
        holds(GREATEST + "=2147*1000*1000+483*1000+647 and " + LEAST + "<" + GREATEST);
    }

    private static void quotientsAreCut() {
        holds("7/2=3 and 1/2=0 and 6/3=2");
        holds("-7/2=-3 and -1/2=0 and -6/3=-2");
        holds("7/-2=-3 and 1/-2=0");
        holds("-7/-2=3 and -1/-2=0");
        holds(LEAST + "/2=-(1073*1000*1000+741*1000+824) and " + LEAST + "/" + GREATEST + "=-1");
        holds(GREATEST + "/" + LEAST + "=0 and " + GREATEST + "/-1=" + LEAST + "+1");
    }

    private static void nothingIsDividedByZero() {
        holds("7/0=0 and -7/0=0 and 0/0=0");
        holds(GREATEST + "/0=0 and " + LEAST + "/(1-1)=0");
        holds("0/7=0 and 0/-7=0");
        Due.same("a column divided by 0", Due.game("plan red at 5/0,9/turn;").plannedCell(), 0);
    }

    private static void theLeastNumberByMinusOne() {
        holds(LEAST + "/-1=" + LEAST);
        holds(LEAST + "/-1<0");
        holds(LEAST + "/-1-1=" + GREATEST);
        holds(LEAST + "/1=" + LEAST);
    }

    private static void positionsCountFromZero() {
        Due.error(";", 1, 0);
        Due.error("\n;", 1, 1);
        Due.error("pond 2 by 3;", 5, 5);
        Due.error("\n\npond\n2\nby 3;", 5, 7);
        Due.error(Due.many("\n", 1999) + ";", 1, 1999);
        Due.error(" \u00ff", 1, 1);
    }

    // ---- tape and tokens

    private static void twoThousandBytesAreRead() {
        String plan = "plan red win" + Due.many(" ", 1987);
        Due.same("plans() of 2000 bytes", Due.game(plan + ";").plans(), 1);
        Due.error(plan + " ", 1, 2000);
        Due.error(plan + "+", 1, 1999);
        Due.same("columns() behind 1988 blanks", Due.game(Due.many(" ", 1988) + "pond 9 by 9;").columns(), 9);
        HexPond pond = new HexPond();
        Due.tape(pond, new byte[2000]);
        Due.same("tapeBytes()", pond.tapeBytes(), 2000);
        Due.refused(pond, "feed of a full tape", IllegalStateException.class, () -> pond.feed(0, 0, 0, 0, 0));
    }

    private static void theTapeIsEmptyAtFirst() {
        HexPond pond = new HexPond();
        Due.same("tapeBytes()", pond.tapeBytes(), 0);
        Due.same("teach() of it", pond.teach(), 0);
        Due.same("the first feed", pond.feed(0, 0, 0, 0, 0), 20);
    }

    private static void teachEmptiesTheTape() {
        String[] games = {"", "plan red near;", "plan", "stone red 0,0;stone red 0,0;",
            Due.many("plan red win;", 17), "pond 2 by 2;", Due.many(" ", 2000)};
        int[] errors = {0, 0, 1, 2, 4, 5, 0};
        HexPond pond = new HexPond();
        for (int i = 0; i < games.length; i++) {
            Due.same("teach() of " + games[i], Due.teach(pond, games[i]), errors[i]);
            Due.same("tapeBytes() behind " + games[i], pond.tapeBytes(), 0);
        }
        Due.same("feed behind teach()", pond.feed(0x20202020, 0x20202020, 0x20202020, 0x20202020, 0x20202020), 20);
        Due.same("teach() of blanks alone", pond.teach(), 0);
    }

    private static boolean isLetter(int sign) {
        return sign >= 97 && sign <= 122;
    }

    private static boolean isDigit(int sign) {
        return sign >= 48 && sign <= 57;
    }

    private static boolean isBlank(int sign) {
        return sign == 32 || sign == 10;
    }

    private static void blanksStandAnywhere() {
        Due.game(" \n pond \n 3 \n by \n 3 \n ; \n ");
        Due.game("\n");
        Due.game(" ");
        for (int sign = 0; sign < 256; sign++) {
            String byItself = String.valueOf((char) sign);
            if (isBlank(sign)) {
                HexPond pond = Due.game(byItself + "pond" + byItself + "3 by 4;" + byItself);
                Due.same("rows() with " + sign, pond.rows(), 4);
            } else {
                Due.error(byItself + "pond 3 by 4;", 1, 0);
                Due.error("pond" + byItself + "3 by 4;", 1, isLetter(sign) || isDigit(sign) ? 0 : 4);
                Due.error("pond 3 by 4;" + byItself, 1, 12);
            }
        }
    }

    private static void blanksPartWords() {
        Due.error("pond3 by 3;", 1, 0);
        Due.error("pond 3 by3;", 1, 7);
        Due.error("planred win;", 1, 0);
        Due.error("plan redwin;", 1, 5);
        Due.error("plan red at1,1;", 1, 9);
        Due.error(PLAN + "not1=1;", 1, 18);
        Due.error(PLAN + "notwon red;", 1, 18);
        // Others are not read as one, so nothing has to stand between them.
        Due.game("pond 3by 4;stone red 0,0;plan red at(1),(2)when not[1=1or 2=2and 3<-3];");
    }

    private static void theLongestTokenIsRead() {
        holds("1<=1 and 1>=1 and 1<=2 and 2>=1");
        Due.error(PLAN + "1< =1;", 1, 21);
        Due.error(PLAN + "1> =1;", 1, 21);
        Due.error(PLAN + "1<==1;", 1, 21);
        Due.error(PLAN + "1==1;", 1, 20);
        Due.error(PLAN + "1=<1;", 1, 20);
        Due.error(PLAN + "1=>1;", 1, 20);
        Due.error(PLAN + "1<>1;", 1, 20);
        Due.error("stones red 1,1;", 1, 0);
        Due.error("pond 1234567 by 3;", 1, 5);
        Due.error("pond 3 by 3 3;", 1, 12);
        holds("12=4*3");
    }

    private static void wordsGoFromAToZ() {
        for (int sign = 0; sign < 256; sign++) {
            String game = "plan red win" + (char) sign + ";";
            if (isBlank(sign)) {
                Due.game(game);
            } else if (sign == ';') {
                Due.error(game, 1, 13);
            } else {
                // A letter or a digit makes another word of it; all else begins a token of its own.
                Due.error(game, 1, isLetter(sign) || isDigit(sign) ? 9 : 12);
            }
        }
        Due.error("0pond 3 by 3;", 1, 0);
        Due.error("Pond 3 by 3;", 1, 0);
    }

    private static void wordsOfTenAndElevenBytes() {
        Due.error("abcdefghij", 1, 0);
        Due.error("abcdefghijk", 1, 0);
        Due.error("plan red abcdefghij;", 1, 9);
        Due.error("plan red abcdefghijk;", 1, 9);
        // Behind its first ten bytes there is no other word.
        Due.error("plan red win when abcdefghijwon red;", 1, 18);
        Due.error(Due.many("z", 2000), 1, 0);
    }

    private static void numbersHaveOneToSixDigits() {
        Due.game("pond 3 by 4;");
        Due.same("rows() of 6 digits", Due.game("pond 000003 by 000009;").rows(), 9);
        Due.error("pond 0000003 by 9;", 1, 5);
        Due.error("pond 3 by 0000009;", 1, 10);
        Due.error("stone red 0000000,0;", 1, 10);
        Due.error("stone red 0,0000000;", 1, 12);
        holds("999999=1000*1000-1 and 000000=0");
        Due.error(PLAN + "1=1000000;", 1, 20);
        Due.error("plan red at 0," + Due.many("9", 1900) + ";", 1, 14);
        Due.error("pond 3/ by 3;", 1, 6);
        Due.error("pond 3: by 3;", 1, 6);
        for (int digit = 0; digit <= 9; digit++) {
            holds(digit + "=10-" + (10 - digit));
        }
    }

    private static void otherSignsAreNoSymbols() {
        Due.game("plan red at (1),-1 when [1+2*3/4-5<6 and 1>2 or 1=1 and 1<=1 and 1>=1];");
        String beginTokens = "()[];,+-*/<>= \n";
        for (int sign = 0; sign < 256; sign++) {
            boolean isOther = !isLetter(sign) && !isDigit(sign) && beginTokens.indexOf(sign) < 0;
            if (isOther) {
                Due.error(PLAN + "1" + (char) sign + "1=1;", 1, 19);
                Due.error(PLAN + (char) sign + "1=1;", 1, 18);
            }
        }
    }

    private static void nearlyAKeywordIsAName() {
        String all = "pond 5 by 5;stone red 0,0;stone blue 4,4;plan red win;plan red guard;plan red save;"
                + "plan red near;plan red at 1,1 when turn<stones red or bridges red>free and not won blue"
                + " or needs red=min(1,max(2,3));";
        Due.game(all);
        String[] keywords = ("pond by stone plan red blue win guard save near at when turn stones bridges free"
                + " needs won not and or min max").split(" ");
        Due.same("keywords", keywords.length, 23);
        for (String keyword : keywords) {
            String[] names = {keyword + "z", keyword + "0", keyword.substring(0, keyword.length() - 1),
                "z" + keyword, keyword.toUpperCase()};
            for (String name : names) {
                String changed = all.replaceFirst("\\b" + keyword + "\\b", name);
                Due.error(changed, 1, placeOf(all, keyword));
            }
        }
    }

    private static int placeOf(String text, String word) {
        java.util.regex.Matcher matcher = java.util.regex.Pattern.compile("\\b" + word + "\\b").matcher(text);
        return matcher.find() ? matcher.start() : -1;
    }

    // ---- the grammar

    private static void whatMayBeMissing() {
        Due.same("columns() without the line of pond", Due.game("plan red win;").columns(), 7);
        Due.game("pond 3 by 3;plan red win;");
        Due.error("pond 3 by 3;pond 3 by 3;", 1, 12);
        Due.error("plan red win;pond 3 by 3;", 1, 13);
        Due.error("pond 3 by;", 1, 9);
        Due.error("pond by 3;", 1, 5);
        Due.game("plan red win;plan red win when won red;plan red at 1,1;plan red at 1,1 when won red;");
        Due.error("plan red win when;", 1, 17);
        Due.error("plan red win when won red when won red;", 1, 26);
    }

    private static void noneAndManyTimes() {
        Due.game("");
        Due.game("pond 3 by 3;");
        Due.error(";", 1, 0);
        Due.error("pond 3 by 3;;", 1, 12);
        StringBuilder stones = new StringBuilder();
        for (int cell = 0; cell < 49; cell++) {
            stones.append("stone red ").append(cell % 7).append(',').append(cell / 7).append(';');
        }
        Due.same("stonesOf(0) of 49 lines", Due.game(stones.toString()).stonesOf(0), 49);
        Due.error(stones + ";", 1, stones.length());
        Due.error(stones + "plan red win", 1, stones.length() + 12);
        Due.game(PLAN + "1=1" + Due.many("+1", 190) + ";");
        Due.game(PLAN + "1=1" + Due.many("*1/1", 95) + ";");
        Due.game(PLAN + "1=1" + Due.many(" and 1=1", 95) + ";");
        Due.game(PLAN + "1=1" + Due.many(" or 1=1", 95) + ";");
        Due.error(PLAN + "1=1+;", 1, 22);
        Due.error(PLAN + "1=1*;", 1, 22);
        Due.error(PLAN + "1=1 and;", 1, 25);
        Due.error(PLAN + "1=1 or;", 1, 24);
    }

    // ---- the depth

    private static String around(String opening, int times, String inside, String closing) {
        return Due.many(opening, times) + inside + Due.many(closing, times);
    }

    private static void depthBeginsAtZero() {
        String deep = around("(", 8, "1", ")");
        Due.game("plan red at " + deep + "," + deep + " when " + deep + "=" + deep + ";plan blue at " + deep + ","
                + deep + " when " + deep + "=1;");
        Due.error("plan red at (" + deep + "),1;", 1, 20);
        Due.error("plan red at 1,(" + deep + ");", 1, 22);
        Due.error("plan red win;" + PLAN + "(" + deep + ")=1;", 1, 13 + 18 + 8);
    }

    private static void eightParentheses() {
        String deep = around("(", 8, "1", ")");
        Due.game(PLAN + deep + "+" + deep + "*" + deep + "<" + deep + " and " + deep + "=" + deep + ";");
        Due.error(PLAN + "(" + deep + ")<1;", 1, 18 + 8);
        Due.error(PLAN + deep + "<(" + deep + ");", 1, 18 + 17 + 1 + 8);
        Due.game(PLAN + around("min(1,", 8, "2", ")") + "<1;");
        Due.game(PLAN + around("max(", 8, "2", ",1)") + "<1;");
        Due.error(PLAN + around("min(1,", 9, "2", ")") + "<1;", 1, 18 + 6 * 8 + 3);
        Due.error(PLAN + around("max(", 9, "2", ",1)") + "<1;", 1, 18 + 4 * 8 + 3);
        Due.error(PLAN + Due.many("(", 300), 1, 18 + 8);
    }

    private static void eightBrackets() {
        String deep = around("[", 8, "1=1", "]");
        Due.game(PLAN + deep + " and " + deep + " or " + deep + ";");
        Due.error(PLAN + "[" + deep + "];", 1, 18 + 8);
        Due.error(PLAN + "1=1 or [" + deep + "];", 1, 18 + 7 + 8);
        Due.error(PLAN + Due.many("[", 300), 1, 18 + 8);
    }

    private static void eightMinuses() {
        String deep = Due.many("-", 8) + "1";
        Due.game(PLAN + deep + "+" + deep + "*" + deep + "=" + deep + ";");
        Due.error(PLAN + "-" + deep + "=1;", 1, 18 + 8);
        Due.error(PLAN + "1--" + deep + "=1;", 1, 18 + 2 + 8);
        // It turns one value, not the product; and a - between two values is none in front.
        Due.game(PLAN + "-1*" + deep + "=1;");
        Due.game(PLAN + "1" + Due.many("-1", 100) + "=1;");
        Due.game(PLAN + "1-" + deep + "=1;");
        Due.error(PLAN + Due.many("-", 300), 1, 18 + 8);
    }

    private static void eightNots() {
        String deep = Due.many("not ", 8) + "1=1";
        Due.game(PLAN + deep + " and " + deep + " or " + deep + ";");
        Due.error(PLAN + "not " + deep + ";", 1, 18 + 32);
        Due.error(PLAN + "1=1 and not " + deep + ";", 1, 18 + 8 + 32);
        // It turns both sides of the <, but not what stands behind the and.
        Due.error(PLAN + Due.many("not ", 8) + "(1)=1;", 1, 18 + 32);
        Due.error(PLAN + Due.many("not ", 8) + "1=-1;", 1, 18 + 34);
        Due.game(PLAN + Due.many("not ", 8) + "won red and (1)=-1;");
        Due.error(PLAN + Due.many("not ", 300), 1, 18 + 32);
    }

    private static void eightOfAllKinds() {
        String[] openings = {"(", "-", "min(", "max("};
        for (String opening : openings) {
            // The place of the min and max is that of their (.
            int place = opening.length() - 1;
            Due.error(PLAN + Due.many("(", 8) + opening, 1, 18 + 8 + place);
            Due.error(PLAN + Due.many("-", 8) + opening, 1, 18 + 8 + place);
            Due.error(PLAN + Due.many("[", 8) + opening, 1, 18 + 8 + place);
            Due.error(PLAN + Due.many("not ", 8) + opening, 1, 18 + 32 + place);
            Due.error(PLAN + Due.many("min(", 8) + opening, 1, 18 + 32 + place);
        }
        Due.error(PLAN + Due.many("[", 8) + "not ", 1, 18 + 8);
        Due.error(PLAN + Due.many("not ", 8) + "[", 1, 18 + 32);
        Due.game(PLAN + "not [not [-(-max(1,1))=1]] and not [not [not [not (1)=1]]];");
        Due.error(PLAN + "not [not [-(-max(-1,1))=1]];", 1, 18 + 17);
    }

    // ---- feed, trim, and tapeBytes

    private static void eachByteHasItsPlace() {
        // Without their highest bits, 160 would be a blank, and 138 a line end.
        int[] noTokens = {255, 160, 138, 128, 0};
        for (int noToken : noTokens) {
            for (int place = 0; place < 20; place++) {
                int[] numbers = {0x20202020, 0x20202020, 0x20202020, 0x20202020, 0x20202020};
                numbers[place / 4] ^= (32 ^ noToken) << (24 - 8 * (place % 4));
                HexPond pond = new HexPond();
                Due.same("feed", pond.feed(numbers[0], numbers[1], numbers[2], numbers[3], numbers[4]), 20);
                Due.same("teach() of byte " + noToken, pond.teach(), 1);
                Due.same("errorAt() of byte " + noToken + " at " + place, pond.errorAt(), place);
            }
        }
        HexPond pond = new HexPond();
        pond.feed('p' << 24 | 'o' << 16 | 'n' << 8 | 'd', ' ' << 24 | '9' << 16 | ' ' << 8 | 'b',
                'y' << 24 | ' ' << 16 | '3' << 8 | ';', 0x20202020, 0x0a0a0a0a);
        Due.same("teach()", pond.teach(), 0);
        Due.same("columns()", pond.columns(), 9);
        Due.same("rows()", pond.rows(), 3);
        pond.feed(Integer.MIN_VALUE, -1, Integer.MAX_VALUE, 0, 1);
        Due.same("any numbers are fed", pond.tapeBytes(), 20);
    }

    private static void feedTellsTheBytes() {
        HexPond pond = new HexPond();
        for (int bytes = 20; bytes <= 2000; bytes += 20) {
            Due.same("feed", pond.feed(0, 0, 0, 0, 0), bytes);
        }
        pond.trim(1);
        Due.same("feed behind one byte", pond.feed(0, 0, 0, 0, 0), 21);
        pond.trim(0);
        Due.same("feed behind none", pond.feed(0, 0, 0, 0, 0), 20);
    }

    private static void feedIsRefusedBeyondTwoThousand() {
        HexPond pond = new HexPond();
        Due.tape(pond, new byte[2000]);
        for (int bytes = 2000; bytes > 1980; bytes--) {
            pond.trim(bytes);
            Due.refused(pond, "feed behind " + bytes, IllegalStateException.class, () -> pond.feed(1, 2, 3, 4, 5));
            Due.same("tapeBytes()", pond.tapeBytes(), bytes);
        }
        pond.trim(1980);
        Due.same("feed behind 1980", pond.feed(1, 2, 3, 4, 5), 2000);
    }

    private static void trimKeepsNoneOrAll() {
        HexPond pond = new HexPond();
        Due.tape(pond, "plan red near;#".getBytes());
        pond.trim(15);
        Due.same("teach() of all", pond.teach(), 1);
        Due.tape(pond, "plan red near;#".getBytes());
        pond.trim(14);
        Due.same("teach() of all but one", pond.teach(), 0);
        Due.same("plans()", pond.plans(), 1);
        Due.tape(pond, "plan red near;#".getBytes());
        pond.trim(0);
        Due.same("teach() of none", pond.teach(), 0);
        Due.same("plans() of none", pond.plans(), 0);
    }

    private static void trimTellsWhatIsKept() {
        HexPond pond = new HexPond();
        Due.same("trim(0) of an empty tape", pond.trim(0), 0);
        Due.tape(pond, new byte[2000]);
        int[] kept = {2000, 2000, 1999, 20, 1, 0, 0};
        for (int n : kept) {
            Due.same("trim", pond.trim(n), n);
            Due.same("tapeBytes()", pond.tapeBytes(), n);
        }
    }

    private static void trimIsRefused() {
        HexPond pond = new HexPond();
        int[] wrong = {-1, 1, 20, 2000, Integer.MIN_VALUE, Integer.MAX_VALUE};
        for (int n : wrong) {
            Due.refused(pond, "trim(" + n + ") of an empty tape", IllegalArgumentException.class, () -> pond.trim(n));
        }
        pond.feed(0, 0, 0, 0, 0);
        int[] wrongOfTwenty = {-1, 21, 2000, Integer.MIN_VALUE, Integer.MAX_VALUE};
        for (int n : wrongOfTwenty) {
            Due.refused(pond, "trim(" + n + ") of 20 bytes", IllegalArgumentException.class, () -> pond.trim(n));
        }
        Due.same("trim(20)", pond.trim(20), 20);
        pond.trim(5);
        Due.refused(pond, "trim(6): what was cut off is gone", IllegalArgumentException.class, () -> pond.trim(6));
        Due.same("trim(0)", pond.trim(0), 0);
        Due.same("trim(0) of an empty tape", pond.trim(0), 0);
        pond.feed(0, 0, 0, 0, 0);
        pond.teach();
        Due.refused(pond, "trim(1) behind teach()", IllegalArgumentException.class, () -> pond.trim(1));
    }

    private static void tapeBytesFromNoneToAll() {
        HexPond pond = new HexPond();
        Due.same("tapeBytes() of none", pond.tapeBytes(), 0);
        Due.tape(pond, new byte[2000]);
        Due.same("tapeBytes() of a full tape", pond.tapeBytes(), 2000);
        pond.trim(1);
        Due.same("tapeBytes() of one", pond.tapeBytes(), 1);
        pond.teach();
        Due.same("tapeBytes() behind an error", pond.tapeBytes(), 0);
    }
}
