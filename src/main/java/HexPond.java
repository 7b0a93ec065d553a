import java.util.Arrays;

/**
 * A game of hexes on a frozen pond. Two players lay stones to join their shores; a small language
 * tells the pond, stones that lie there, and plans by which the players choose cells.
 */
public final class HexPond {
    private static final int RED = 0;
    private static final int BLUE = 1;
    private static final int PLAYERS = 2;

    /** The owner of a cell is EMPTY, or its player and 1 added. */
    private static final int EMPTY = 0;

    /** In the place of a cell, a player, or a position: there is none. */
    private static final int NONE = -1;

    private static final int SIDES = 6;
    private static final int SHORES = 2;
    private static final int LEAST_LENGTH = 3;
    private static final int USUAL_LENGTH = 7;
    private static final int MOST_LENGTH = 9;
    private static final int MOST_CELLS = MOST_LENGTH * MOST_LENGTH;

    /** What lies around a cell, in its order: how far in columns, and in rows. */
    private static final int[] COLUMN_STEPS = {1, 0, -1, -1, 0, 1};
    private static final int[] ROW_STEPS = {0, 1, 1, 0, -1, -1};

    private static final int FEED_BYTES = 20;
    private static final int MOST_BYTES = 2000;
    private static final int MOST_TOKENS = 400;
    private static final int MOST_DIGITS = 6;
    private static final int MOST_DEPTH = 8;
    private static final int MOST_PLANS = 16;

    private static final int ERROR_GRAMMAR = 1;
    private static final int ERROR_TAKEN = 2;
    private static final int ERROR_PLANS = 4;
    private static final int ERROR_RANGE = 5;

    /** What a player without a way needs. */
    private static final int NEEDS_WITHOUT_WAY = 99;

    /** More than any way needs: the distance of a cell that cannot be reached. */
    private static final int UNREACHED = 1000;

    private static final Kind[] KINDS = Kind.values();

    private final Tape tape;
    private final Tokens tokens;
    private final Grammar grammar;
    private final Meaning meaning;
    private final Pond pond;
    private final Groups groups;
    private final Bridges bridges;
    private final Ways ways;
    private final Chooser chooser;

    /** The plans in force, and those that the next teach() writes on: it must not spoil the others. */
    private Plans plans;
    private Plans sparePlans;
    private int errorAt;

    public HexPond() {
        tape = new Tape();
        tokens = new Tokens();
        sparePlans = new Plans();
        grammar = new Grammar(tokens, sparePlans);
        meaning = new Meaning(tokens);
        pond = new Pond();
        groups = new Groups(pond);
        bridges = new Bridges(pond);
        ways = new Ways(pond);
        chooser = new Chooser(pond, bridges, ways);
        plans = new Plans();
        errorAt = NONE;
    }

    // ---- the language

    public int feed(int a, int b, int c, int d, int e) throws IllegalStateException {
        if (tape.length() + FEED_BYTES > MOST_BYTES) {
            throw new IllegalStateException("the tape has no room");
        }
        tape.append(a);
        tape.append(b);
        tape.append(c);
        tape.append(d);
        tape.append(e);
        return tape.length();
    }

    public int trim(int n) throws IllegalArgumentException {
        if (n < 0 || n > tape.length()) {
            throw new IllegalArgumentException("the tape has not so many bytes");
        }
        tape.shorten(n);
        return n;
    }

    public int teach() {
        tokens.read(tape);
        tape.shorten(0);
        int wrong = grammar.firstWrong(sparePlans);
        int error = wrong == NONE ? 0 : ERROR_GRAMMAR;
        if (error == 0) {
            error = meaning.firstError();
            wrong = meaning.wrongToken();
        }
        errorAt = error == 0 ? NONE : tokens.startOf(wrong);
        if (error == 0) {
            beginTaughtGame();
        }
        return error;
    }

    private void beginTaughtGame() {
        Plans taught = sparePlans;
        sparePlans = plans;
        plans = taught;
        pond.begin(meaning.columns(), meaning.rows());
        for (int cell = 0; cell < pond.cells(); cell++) {
            pond.put(cell, meaning.ownerAt(cell));
        }
    }

    public int errorAt() {
        return errorAt;
    }

    // ---- the pond

    public int columns() {
        return pond.columns();
    }

    public int rows() {
        return pond.rows();
    }

    public int plans() {
        return plans.count();
    }

    public int stonesToTakeBack() {
        return pond.laidStones();
    }

    public int tapeBytes() {
        return tape.length();
    }

    public int emptyCells() {
        return pond.freeCells();
    }

    public int stonesOf(int player) throws IndexOutOfBoundsException {
        requirePlayer(player);
        return pond.stonesOf(player);
    }

    public boolean isEmpty(int column, int row) throws IndexOutOfBoundsException {
        return pond.ownerAt(requiredCell(column, row)) == EMPTY;
    }

    public int ownerOf(int column, int row) throws IndexOutOfBoundsException, IllegalStateException {
        return pond.ownerAt(requiredStone(column, row)) - 1;
    }

    public boolean hasWon(int player) throws IndexOutOfBoundsException {
        requirePlayer(player);
        return winner() == player;
    }

    public boolean isOver() {
        return winner() != NONE;
    }

    public int playerInTurn() throws IllegalStateException {
        requireGameOn();
        return pond.turn();
    }

    // ---- what hangs together

    public int stonesBeside(int player, int column, int row) throws IndexOutOfBoundsException {
        requirePlayer(player);
        int cell = requiredCell(column, row);
        int stones = 0;
        for (int side = 0; side < SIDES; side++) {
            if (pond.ownerAt(pond.beside(cell, side)) == player + 1) {
                stones++;
            }
        }
        return stones;
    }

    public int groupSize(int column, int row) throws IndexOutOfBoundsException, IllegalStateException {
        return groups.sizeAt(requiredStone(column, row));
    }

    public int shoresOf(int column, int row) throws IndexOutOfBoundsException, IllegalStateException {
        return groups.shoresAt(requiredStone(column, row));
    }

    public int groupsOf(int player) throws IndexOutOfBoundsException {
        requirePlayer(player);
        groups.look(player);
        return groups.count();
    }

    public int greatestGroup(int player) throws IndexOutOfBoundsException {
        requirePlayer(player);
        groups.look(player);
        return groups.greatest();
    }

    public boolean isBridge(int cell, int other) throws IndexOutOfBoundsException {
        if (!pond.hasCell(cell) || !pond.hasCell(other)) {
            throw new IndexOutOfBoundsException("no such cell");
        }
        return bridges.isWhole(cell, other);
    }

    public int bridgesOf(int player) throws IndexOutOfBoundsException {
        requirePlayer(player);
        bridges.look();
        return bridges.whole(player);
    }

    public int brokenBridgesOf(int player) throws IndexOutOfBoundsException {
        requirePlayer(player);
        bridges.look();
        return bridges.broken(player);
    }

    public boolean isFrozen(int column, int row) throws IndexOutOfBoundsException {
        return pond.isIced(requiredCell(column, row));
    }

    public int frozenCells() {
        int frozen = 0;
        for (int cell = 0; cell < pond.cells(); cell++) {
            if (pond.isIced(cell)) {
                frozen++;
            }
        }
        return frozen;
    }

    // ---- ways

    public int stonesNeeded(int player) throws IndexOutOfBoundsException, IllegalStateException {
        requirePlayer(player);
        ways.look();
        int needed = ways.needed(player);
        if (needed == NEEDS_WITHOUT_WAY) {
            throw new IllegalStateException("the player has no way");
        }
        return needed;
    }

    public int stonesNeededThrough(int player, int column, int row)
            throws IndexOutOfBoundsException, IllegalStateException {
        requirePlayer(player);
        int cell = requiredCell(column, row);
        ways.look();
        int needed = ways.through(player, cell);
        if (needed == NONE) {
            throw new IllegalStateException("no way of the player goes there");
        }
        return needed;
    }

    public boolean isWinningCell(int player, int column, int row) throws IndexOutOfBoundsException {
        requirePlayer(player);
        int cell = requiredCell(column, row);
        ways.look();
        return ways.wins(player, cell);
    }

    public int winningCells(int player) throws IndexOutOfBoundsException {
        requirePlayer(player);
        ways.look();
        return ways.winningCells(player);
    }

    // ---- by hand

    public int layStone(int column, int row) throws IndexOutOfBoundsException, IllegalStateException {
        int cell = requiredCell(column, row);
        requireGameOn();
        if (pond.ownerAt(cell) != EMPTY) {
            throw new IllegalStateException("the cell is not empty");
        }
        int player = pond.turn();
        pond.lay(cell, player);
        return player;
    }

    public int takeBack() throws IllegalStateException {
        if (pond.laidStones() == 0) {
            throw new IllegalStateException("no stone can be taken back");
        }
        return pond.liftLatest();
    }

    // ---- plans and what would be

    public int plannedCell() throws IllegalStateException {
        requireGameOn();
        return chooser.choose(plans, pond.turn());
    }

    public int playByPlans(int stones) throws IllegalArgumentException {
        if (stones < 1 || stones > MOST_CELLS) {
            throw new IllegalArgumentException("the stones are not 1 to 81");
        }
        return playOn(stones);
    }

    public int stonesByPlans() {
        int played = playOn(MOST_CELLS);
        liftStones(played);
        return played;
    }

    public int winnerByPlans() {
        int played = playOn(MOST_CELLS);
        int winner = winner();
        liftStones(played);
        return winner;
    }

    public int mustPlay() throws IllegalStateException {
        requireGameOn();
        int player = pond.turn();
        int rival = BLUE - player;
        ways.look();
        if (ways.winningCells(player) > 0 || ways.winningCells(rival) != 1) {
            throw new IllegalStateException("no cell has to be taken");
        }
        return ways.firstWinning(rival);
    }

    public int bestCell() throws IllegalStateException {
        requireGameOn();
        int player = pond.turn();
        int best = NONE;
        int most = 0;
        for (int cell = 0; cell < pond.cells(); cell++) {
            if (pond.ownerAt(cell) == EMPTY) {
                int lead = leadWith(cell, player);
                if (best == NONE || lead > most) {
                    best = cell;
                    most = lead;
                }
            }
        }
        return best;
    }

    public double meanGroup() {
        groups.look(RED);
        int count = groups.count();
        groups.look(BLUE);
        count += groups.count();
        return count == 0 ? 0.0 : (double) pond.stones() / (double) count;
    }

    public long digest() {
        long d = 953;
        d = d * 31 + columns();
        d = d * 31 + rows();
        d = d * 31 + plans();
        d = d * 31 + stonesToTakeBack();
        d = d * 31 + tapeBytes();
        d = d * 31 + emptyCells();
        d = d * 31 + frozenCells();
        d = d * 31 + (isOver() ? 1 : 0);
        d = digestOfPlayer(d, RED);
        d = digestOfPlayer(d, BLUE);
        for (int cell = 0; cell < pond.cells(); cell++) {
            d = d * 31 + pond.ownerAt(cell);
        }
        return d;
    }

    private long digestOfPlayer(long before, int player) {
        groups.look(player);
        bridges.look();
        ways.look();
        long d = before;
        d = d * 31 + pond.stonesOf(player);
        d = d * 31 + (winner() == player ? 1 : 0);
        d = d * 31 + groups.count();
        d = d * 31 + groups.greatest();
        d = d * 31 + bridges.whole(player);
        d = d * 31 + bridges.broken(player);
        d = d * 31 + ways.winningCells(player);
        d = d * 31 + ways.needed(player);
        return d;
    }

    // ---- what the calls share

    private static void requirePlayer(int player) {
        if (player != RED && player != BLUE) {
            throw new IndexOutOfBoundsException("no such player");
        }
    }

    private int requiredCell(int column, int row) {
        int cell = pond.cellAt(column, row);
        if (cell == NONE) {
            throw new IndexOutOfBoundsException("no such cell");
        }
        return cell;
    }

    private int requiredStone(int column, int row) {
        int cell = requiredCell(column, row);
        if (pond.ownerAt(cell) == EMPTY) {
            throw new IllegalStateException("the cell is empty");
        }
        return cell;
    }

    private void requireGameOn() {
        if (winner() != NONE) {
            throw new IllegalStateException("the game is over");
        }
    }

    /** A way that needs no stone is one of stones alone, so of a group at both shores. */
    private int winner() {
        ways.look();
        if (ways.needed(RED) == 0) {
            return RED;
        }
        return ways.needed(BLUE) == 0 ? BLUE : NONE;
    }

    private int playOn(int stones) {
        for (int played = 0; played < stones; played++) {
            if (winner() != NONE) {
                return played;
            }
            int player = pond.turn();
            int cell = chooser.choose(plans, player);
            if (cell == NONE) {
                return played;
            }
            pond.lay(cell, player);
        }
        return stones;
    }

    private void liftStones(int stones) {
        for (int lifted = 0; lifted < stones; lifted++) {
            pond.liftLatest();
        }
    }

    private int leadWith(int cell, int player) {
        pond.put(cell, player + 1);
        ways.lookFromFirstShores();
        int lead = ways.needed(BLUE - player) - ways.needed(player);
        pond.put(cell, EMPTY);
        return lead;
    }

    /** The bytes that feed and trim fill. */
    private static final class Tape {
        private final byte[] bytes = new byte[MOST_BYTES];
        private int length;

        int length() {
            return length;
        }

        int byteAt(int position) {
            return position >= 0 && position < length && position < bytes.length ? bytes[position] & 255 : NONE;
        }

        void append(int number) {
            for (int shift = 24; shift >= 0; shift -= 8) {
                if (length >= 0 && length < bytes.length) {
                    bytes[length] = (byte) (number >>> shift);
                    length++;
                }
            }
        }

        void shorten(int kept) {
            length = kept;
        }
    }

    /** What a token is. Those without a text are no fixed bytes. */
    private enum Kind {
        POND("pond"), BY("by"), STONE("stone"), PLAN("plan"), RED_PLAYER("red"), BLUE_PLAYER("blue"),
        WIN("win"), GUARD("guard"), SAVE("save"), NEAR("near"), AT("at"), WHEN("when"),
        TURN("turn"), STONES("stones"), BRIDGES("bridges"), FREE("free"), NEEDS("needs"), WON("won"),
        NOT("not"), AND("and"), OR("or"), MIN("min"), MAX("max"),
        OPEN("("), CLOSE(")"), SQUARE_OPEN("["), SQUARE_CLOSE("]"), SEMICOLON(";"), COMMA(","),
        PLUS("+"), MINUS("-"), TIMES("*"), OVER("/"),
        LESS("<"), MORE(">"), EQUAL("="), AT_MOST("<="), AT_LEAST(">="),
        NUMBER(""), END(""),
        /** What the grammar has no place for: also a name, as no rule takes one. */
        WRONG(""),
        /** The minus in front of a value, in the code of plans alone. */
        NEGATE("");

        private final String text;

        Kind(String text) {
            this.text = text;
        }

        boolean isWrittenAt(Tape tape, int from, int to) {
            if (text.length() != to - from) {
                return false;
            }
            for (int i = 0; i < text.length(); i++) {
                if (text.charAt(i) != tape.byteAt(from + i)) {
                    return false;
                }
            }
            return true;
        }
    }

    /** The tokens of a tape up to its end, or to the first one that is none; that one is kept, too. */
    private static final class Tokens {
        private final Kind[] kinds = new Kind[MOST_TOKENS + 1];
        private final int[] starts = new int[MOST_TOKENS + 1];
        private final int[] values = new int[MOST_TOKENS + 1];
        private int count;

        int count() {
            return count;
        }

        Kind kindOf(int token) {
            if (token < 0 || token >= count || token >= kinds.length) {
                return Kind.END;
            }
            Kind kind = kinds[token];
            return kind == null ? Kind.END : kind;
        }

        int startOf(int token) {
            return token >= 0 && token < starts.length ? starts[token] : NONE;
        }

        int valueOf(int token) {
            return token >= 0 && token < values.length ? values[token] : 0;
        }

        void read(Tape tape) {
            count = 0;
            int from = 0;
            for (int token = 0; token <= MOST_TOKENS; token++) {
                from = behindBlanks(tape, from);
                int to = behindToken(tape, from);
                Kind kind = kindBetween(tape, from, to);
                if (token == MOST_TOKENS && kind != Kind.END) {
                    kind = Kind.WRONG;
                }
                keep(kind, from, kind == Kind.NUMBER ? numberBetween(tape, from, to) : 0);
                if (kind == Kind.END || kind == Kind.WRONG) {
                    return;
                }
                from = to;
            }
        }

        private void keep(Kind kind, int start, int value) {
            if (count >= 0 && count < kinds.length) {
                kinds[count] = kind;
                starts[count] = start;
                values[count] = value;
                count++;
            }
        }

        private static int behindBlanks(Tape tape, int from) {
            int to = from;
            while (to < tape.length() && isBlank(tape.byteAt(to))) {
                to++;
            }
            return to;
        }

        private static int behindToken(Tape tape, int from) {
            int first = tape.byteAt(from);
            int to = from + 1;
            if (isLetter(first)) {
                while (to < tape.length() && (isLetter(tape.byteAt(to)) || isDigit(tape.byteAt(to)))) {
                    to++;
                }
            } else if (isDigit(first)) {
                while (to < tape.length() && isDigit(tape.byteAt(to))) {
                    to++;
                }
            } else if ((first == '<' || first == '>') && tape.byteAt(to) == '=') {
                to++;
            }
            return to;
        }

        /** A word that is too long needs no test of its own: no keyword has as many bytes. */
        private static Kind kindBetween(Tape tape, int from, int to) {
            if (from >= tape.length()) {
                return Kind.END;
            }
            if (isDigit(tape.byteAt(from))) {
                return to - from <= MOST_DIGITS ? Kind.NUMBER : Kind.WRONG;
            }
            for (Kind kind : KINDS) {
                if (kind.isWrittenAt(tape, from, to)) {
                    return kind;
                }
            }
            return Kind.WRONG;
        }

        private static int numberBetween(Tape tape, int from, int to) {
            int number = 0;
            for (int at = from; at < to; at++) {
                number = number * 10 + (tape.byteAt(at) - '0');
            }
            return number;
        }

        private static boolean isBlank(int sign) {
            return sign == 32 || sign == 10;
        }

        private static boolean isLetter(int sign) {
            return sign >= 'a' && sign <= 'z';
        }

        private static boolean isDigit(int sign) {
            return sign >= '0' && sign <= '9';
        }
    }

    /**
     * Reads tokens by the grammar and writes the plans as it goes. Behind the first wrong token
     * nothing is taken any more, so that all methods come to their ends.
     */
    private static final class Grammar {
        private final Tokens tokens;
        private Plans plans;
        private int token;
        private boolean failed;

        Grammar(Tokens tokens, Plans plans) {
            this.tokens = tokens;
            this.plans = plans;
        }

        /** The first token with which the tokens are not the beginning of a game, or NONE. */
        int firstWrong(Plans written) {
            plans = written;
            plans.begin();
            token = 0;
            failed = false;
            if (take(Kind.POND)) {
                need(Kind.NUMBER);
                need(Kind.BY);
                need(Kind.NUMBER);
                need(Kind.SEMICOLON);
            }
            for (int lines = 0; lines < MOST_TOKENS && !failed && !sees(Kind.END); lines++) {
                if (take(Kind.STONE)) {
                    readStone();
                } else {
                    need(Kind.PLAN);
                    readPlan();
                }
                need(Kind.SEMICOLON);
            }
            return failed ? token : NONE;
        }

        private void readStone() {
            readPlayer();
            need(Kind.NUMBER);
            need(Kind.COMMA);
            need(Kind.NUMBER);
        }

        private void readPlan() {
            int player = readPlayer();
            int columnStart = plans.codeLength();
            int rowStart = columnStart;
            Kind move = readMove();
            if (move == Kind.AT) {
                readSum(0);
                rowStart = plans.codeLength();
                need(Kind.COMMA);
                readSum(0);
            }
            int testStart = plans.codeLength();
            if (take(Kind.WHEN)) {
                readTest(0);
            }
            plans.add(player, move, columnStart, rowStart, testStart);
        }

        private Kind readMove() {
            Kind move = tokens.kindOf(token);
            boolean isMove = move == Kind.WIN || move == Kind.GUARD || move == Kind.SAVE
                    || move == Kind.NEAR || move == Kind.AT;
            // What is no move fails as a win that is missing here.
            need(isMove ? move : Kind.WIN);
            return move;
        }

        private int readPlayer() {
            if (take(Kind.RED_PLAYER)) {
                return RED;
            }
            need(Kind.BLUE_PLAYER);
            return BLUE;
        }

        private void readTest(int depth) {
            readBoth(depth);
            for (int n = 0; n < MOST_TOKENS && take(Kind.OR); n++) {
                readBoth(depth);
                plans.write(Kind.OR, 0);
            }
        }

        private void readBoth(int depth) {
            readSingle(depth);
            for (int n = 0; n < MOST_TOKENS && take(Kind.AND); n++) {
                readSingle(depth);
                plans.write(Kind.AND, 0);
            }
        }

        /** A not or [ that would go too deep is not taken, and then it is no beginning of a sum. */
        private void readSingle(int depth) {
            if (depth < MOST_DEPTH && take(Kind.NOT)) {
                readSingle(depth + 1);
                plans.write(Kind.NOT, 0);
            } else if (depth < MOST_DEPTH && take(Kind.SQUARE_OPEN)) {
                readTest(depth + 1);
                need(Kind.SQUARE_CLOSE);
            } else if (take(Kind.WON)) {
                plans.write(Kind.WON, readPlayer());
            } else {
                readSum(depth);
                Kind relation = readRelation();
                readSum(depth);
                plans.write(relation, 0);
            }
        }

        private Kind readRelation() {
            Kind relation = tokens.kindOf(token);
            boolean isRelation = relation == Kind.LESS || relation == Kind.MORE || relation == Kind.EQUAL
                    || relation == Kind.AT_MOST || relation == Kind.AT_LEAST;
            // What is no relation fails as a < that is missing here.
            need(isRelation ? relation : Kind.LESS);
            return relation;
        }

        private void readSum(int depth) {
            readProduct(depth);
            for (int n = 0; n < MOST_TOKENS && (sees(Kind.PLUS) || sees(Kind.MINUS)); n++) {
                Kind sign = tokens.kindOf(token);
                need(sign);
                readProduct(depth);
                plans.write(sign, 0);
            }
        }

        private void readProduct(int depth) {
            readValue(depth);
            for (int n = 0; n < MOST_TOKENS && (sees(Kind.TIMES) || sees(Kind.OVER)); n++) {
                Kind sign = tokens.kindOf(token);
                need(sign);
                readValue(depth);
                plans.write(sign, 0);
            }
        }

        /** A - or ( that would go too deep is not taken, and then the value is missing at it. */
        private void readValue(int depth) {
            Kind kind = tokens.kindOf(token);
            if (take(Kind.NUMBER)) {
                plans.write(kind, tokens.valueOf(token - 1));
            } else if (take(Kind.TURN) || take(Kind.FREE)) {
                plans.write(kind, 0);
            } else if (take(Kind.STONES) || take(Kind.BRIDGES) || take(Kind.NEEDS)) {
                plans.write(kind, readPlayer());
            } else if (depth < MOST_DEPTH && take(Kind.MINUS)) {
                readValue(depth + 1);
                plans.write(Kind.NEGATE, 0);
            } else if (take(Kind.MIN) || take(Kind.MAX)) {
                readPair(kind, depth);
            } else if (depth < MOST_DEPTH && take(Kind.OPEN)) {
                readSum(depth + 1);
                need(Kind.CLOSE);
            } else {
                failed = true;
            }
        }

        private void readPair(Kind kind, int depth) {
            if (depth < MOST_DEPTH && take(Kind.OPEN)) {
                readSum(depth + 1);
                need(Kind.COMMA);
                readSum(depth + 1);
                need(Kind.CLOSE);
                plans.write(kind, 0);
            } else {
                failed = true;
            }
        }

        private boolean sees(Kind kind) {
            return !failed && tokens.kindOf(token) == kind;
        }

        private boolean take(Kind kind) {
            boolean isThere = !failed && tokens.kindOf(token) == kind;
            if (isThere) {
                token++;
            }
            return isThere;
        }

        private void need(Kind kind) {
            if (!failed && tokens.kindOf(token) == kind) {
                token++;
            } else {
                failed = true;
            }
        }
    }

    /** Looks at the keywords and numbers of tokens in which the grammar finds no error. */
    private static final class Meaning {
        private final Tokens tokens;
        private final int[] owners = new int[MOST_CELLS];
        private int columns;
        private int rows;
        private int plans;
        private int wrongToken;

        Meaning(Tokens tokens) {
            this.tokens = tokens;
        }

        int columns() {
            return columns;
        }

        int rows() {
            return rows;
        }

        int ownerAt(int cell) {
            return cell >= 0 && cell < owners.length ? owners[cell] : EMPTY;
        }

        int wrongToken() {
            return wrongToken;
        }

        int firstError() {
            columns = USUAL_LENGTH;
            rows = USUAL_LENGTH;
            plans = 0;
            Arrays.fill(owners, EMPTY);
            for (int token = 0; token < tokens.count(); token++) {
                int error = errorAtToken(token);
                if (error != 0) {
                    wrongToken = token;
                    return error;
                }
            }
            wrongToken = NONE;
            return 0;
        }

        private int errorAtToken(int token) {
            if (tokens.kindOf(token) == Kind.PLAN) {
                plans++;
                return plans > MOST_PLANS ? ERROR_PLANS : 0;
            }
            if (tokens.kindOf(token) == Kind.NUMBER) {
                return errorAtNumber(token);
            }
            return 0;
        }

        /** The tokens ahead tell what a number is: pond NUMBER by NUMBER, stone player NUMBER , NUMBER. */
        private int errorAtNumber(int token) {
            int number = tokens.valueOf(token);
            if (tokens.kindOf(token - 1) == Kind.POND) {
                columns = number;
                return isLength(number) ? 0 : ERROR_RANGE;
            }
            if (tokens.kindOf(token - 1) == Kind.BY) {
                rows = number;
                return isLength(number) ? 0 : ERROR_RANGE;
            }
            if (tokens.kindOf(token - 2) == Kind.STONE) {
                return number < columns ? 0 : ERROR_RANGE;
            }
            if (tokens.kindOf(token - 4) == Kind.STONE) {
                int player = tokens.kindOf(token - 3) == Kind.RED_PLAYER ? RED : BLUE;
                return errorOfStone(player, tokens.valueOf(token - 2), number);
            }
            return 0;
        }

        private int errorOfStone(int player, int column, int row) {
            if (row >= rows) {
                return ERROR_RANGE;
            }
            int cell = columns * row + column;
            if (ownerAt(cell) != EMPTY) {
                return ERROR_TAKEN;
            }
            if (cell >= 0 && cell < owners.length) {
                owners[cell] = player + 1;
            }
            return 0;
        }

        private static boolean isLength(int number) {
            return number >= LEAST_LENGTH && number <= MOST_LENGTH;
        }
    }

    /**
     * What plans say. The code of a plan goes over a stack, what is reckoned with stands ahead of
     * what reckons: first its column, then its row, then its test, any of which may be missing.
     */
    private static final class Plans {
        private final Kind[] ops = new Kind[MOST_TOKENS];
        private final int[] operands = new int[MOST_TOKENS];
        private int codeLength;
        private final Kind[] moves = new Kind[MOST_PLANS];
        private final int[] players = new int[MOST_PLANS];
        private final int[] columnStarts = new int[MOST_PLANS];
        private final int[] rowStarts = new int[MOST_PLANS];
        private final int[] testStarts = new int[MOST_PLANS];
        private final int[] ends = new int[MOST_PLANS];
        private int count;

        void begin() {
            codeLength = 0;
            count = 0;
        }

        void write(Kind op, int operand) {
            if (codeLength >= 0 && codeLength < ops.length) {
                ops[codeLength] = op;
                operands[codeLength] = operand;
                codeLength++;
            }
        }

        /** More plans than there may be are left out here: such a game is refused as a whole. */
        void add(int player, Kind move, int columnStart, int rowStart, int testStart) {
            if (count >= 0 && count < players.length) {
                players[count] = player;
                moves[count] = move;
                columnStarts[count] = columnStart;
                rowStarts[count] = rowStart;
                testStarts[count] = testStart;
                ends[count] = codeLength;
                count++;
            }
        }

        int count() {
            return count;
        }

        int codeLength() {
            return codeLength;
        }

        Kind opAt(int place) {
            if (place < 0 || place >= codeLength || place >= ops.length) {
                return Kind.WRONG;
            }
            Kind op = ops[place];
            return op == null ? Kind.WRONG : op;
        }

        int operandAt(int place) {
            return place >= 0 && place < operands.length ? operands[place] : 0;
        }

        Kind moveOf(int plan) {
            if (!has(plan)) {
                return Kind.WRONG;
            }
            Kind move = moves[plan];
            return move == null ? Kind.WRONG : move;
        }

        int playerOf(int plan) {
            return has(plan) ? players[plan] : NONE;
        }

        int columnStart(int plan) {
            return has(plan) ? columnStarts[plan] : 0;
        }

        int rowStart(int plan) {
            return has(plan) ? rowStarts[plan] : 0;
        }

        int testStart(int plan) {
            return has(plan) ? testStarts[plan] : 0;
        }

        int end(int plan) {
            return has(plan) ? ends[plan] : 0;
        }

        private boolean has(int plan) {
            return plan >= 0 && plan < count && plan < players.length;
        }
    }

    /** The cells and their stones. What lies beyond the pond is NONE and counts as empty. */
    private static final class Pond {
        private int columns;
        private int rows;
        private final int[] owners = new int[MOST_CELLS];
        private final int[] besides = new int[MOST_CELLS * SIDES];
        private final int[] columnsOf = new int[MOST_CELLS];
        private final int[] rowsOf = new int[MOST_CELLS];
        private final int[] stones = new int[PLAYERS];
        private final int[] laid = new int[MOST_CELLS];
        private int laidStones;

        /** Rises with all that changes, so that others see whether what they reckoned still holds. */
        private int changes;

        Pond() {
            begin(USUAL_LENGTH, USUAL_LENGTH);
        }

        void begin(int newColumns, int newRows) {
            columns = newColumns;
            rows = newRows;
            laidStones = 0;
            changes++;
            Arrays.fill(owners, EMPTY);
            Arrays.fill(stones, 0);
            for (int row = 0; row < rows; row++) {
                for (int column = 0; column < columns; column++) {
                    placeCell(column, row);
                }
            }
        }

        private void placeCell(int column, int row) {
            int cell = columns * row + column;
            if (cell < 0 || cell >= MOST_CELLS) {
                return;
            }
            columnsOf[cell] = column;
            rowsOf[cell] = row;
            for (int side = 0; side < SIDES; side++) {
                besides[cell * SIDES + side] = cellAt(column + COLUMN_STEPS[side], row + ROW_STEPS[side]);
            }
        }

        int columns() {
            return columns;
        }

        int rows() {
            return rows;
        }

        int cells() {
            return columns * rows;
        }

        boolean hasCell(int cell) {
            return cell >= 0 && cell < columns * rows && cell < MOST_CELLS;
        }

        int cellAt(int column, int row) {
            boolean isThere = column >= 0 && column < columns && row >= 0 && row < rows;
            return isThere ? columns * row + column : NONE;
        }

        int beside(int cell, int side) {
            boolean isThere = cell >= 0 && cell < columns * rows && side >= 0 && side < SIDES;
            int place = isThere ? cell * SIDES + side : NONE;
            return place >= 0 && place < besides.length ? besides[place] : NONE;
        }

        int ownerAt(int cell) {
            return cell >= 0 && cell < owners.length ? owners[cell] : EMPTY;
        }

        boolean isAtShore(int player, int shore, int cell) {
            if (cell < 0 || cell >= MOST_CELLS) {
                return false;
            }
            int place = player == RED ? columnsOf[cell] : rowsOf[cell];
            int last = player == RED ? columns - 1 : rows - 1;
            return place == (shore == 0 ? 0 : last);
        }

        int stonesOf(int player) {
            return player >= 0 && player < stones.length ? stones[player] : 0;
        }

        int stones() {
            return stones[RED] + stones[BLUE];
        }

        int freeCells() {
            return cells() - stones();
        }

        int turn() {
            return stonesOf(RED) <= stonesOf(BLUE) ? RED : BLUE;
        }

        int laidStones() {
            return laidStones;
        }

        int changes() {
            return changes;
        }

        void put(int cell, int owner) {
            if (hasCell(cell)) {
                countStone(owners[cell], -1);
                countStone(owner, 1);
                owners[cell] = owner;
                changes++;
            }
        }

        private void countStone(int owner, int step) {
            int player = owner - 1;
            if (player >= 0 && player < stones.length) {
                stones[player] += step;
            }
        }

        void lay(int cell, int player) {
            if (hasCell(cell) && laidStones >= 0 && laidStones < laid.length) {
                put(cell, player + 1);
                laid[laidStones] = cell;
                laidStones++;
            }
        }

        int liftLatest() {
            if (laidStones <= 0 || laidStones > laid.length) {
                return NONE;
            }
            laidStones--;
            int cell = laid[laidStones];
            put(cell, EMPTY);
            return cell;
        }

        boolean isIced(int cell) {
            if (!hasCell(cell) || owners[cell] != EMPTY) {
                return false;
            }
            int behindOneAnother = 0;
            int before = EMPTY;
            // Three steps beyond the round, as the four can go over its end.
            for (int step = 0; step < SIDES + 3; step++) {
                int owner = ownerAround(columnsOf[cell], rowsOf[cell], step % SIDES);
                behindOneAnother = owner == before ? behindOneAnother + 1 : 1;
                before = owner;
                if (owner != EMPTY && behindOneAnother >= 4) {
                    return true;
                }
            }
            return false;
        }

        private int ownerAround(int column, int row, int side) {
            if (side < 0 || side >= SIDES) {
                return EMPTY;
            }
            int x = column + COLUMN_STEPS[side];
            int y = row + ROW_STEPS[side];
            boolean columnBeyond = x < 0 || x >= columns;
            boolean rowBeyond = y < 0 || y >= rows;
            if (columnBeyond && rowBeyond) {
                return EMPTY;
            }
            if (columnBeyond) {
                return RED + 1;
            }
            return rowBeyond ? BLUE + 1 : ownerAt(cellAt(x, y));
        }
    }

    /** Stones of a player that hang together. */
    private static final class Groups {
        private final Pond pond;
        private final int[] marks = new int[MOST_CELLS];
        private final int[] queue = new int[MOST_CELLS];
        private int queued;
        private int count;
        private int greatest;

        Groups(Pond pond) {
            this.pond = pond;
        }

        int sizeAt(int cell) {
            Arrays.fill(marks, 0);
            gather(cell);
            return queued;
        }

        int shoresAt(int cell) {
            Arrays.fill(marks, 0);
            gather(cell);
            int player = pond.ownerAt(cell) - 1;
            int shores = 0;
            for (int shore = 0; shore < SHORES; shore++) {
                if (hasGatheredAt(player, shore)) {
                    shores++;
                }
            }
            return shores;
        }

        private boolean hasGatheredAt(int player, int shore) {
            for (int i = 0; i < queued && i < queue.length; i++) {
                if (pond.isAtShore(player, shore, queue[i])) {
                    return true;
                }
            }
            return false;
        }

        /** count() and greatest() tell what was seen here. */
        void look(int player) {
            Arrays.fill(marks, 0);
            count = 0;
            greatest = 0;
            for (int cell = 0; cell < pond.cells() && cell < marks.length; cell++) {
                if (pond.ownerAt(cell) == player + 1 && marks[cell] == 0) {
                    gather(cell);
                    count++;
                    greatest = Math.max(greatest, queued);
                }
            }
        }

        int count() {
            return count;
        }

        int greatest() {
            return greatest;
        }

        /** Marks and queues the group at the cell. */
        private void gather(int start) {
            int owner = pond.ownerAt(start);
            queued = 0;
            join(start);
            for (int i = 0; i < queued && i < queue.length; i++) {
                for (int side = 0; side < SIDES; side++) {
                    int cell = pond.beside(queue[i], side);
                    if (pond.ownerAt(cell) == owner) {
                        join(cell);
                    }
                }
            }
        }

        private void join(int cell) {
            boolean isNew = cell >= 0 && cell < marks.length && marks[cell] == 0;
            if (isNew && queued >= 0 && queued < queue.length) {
                marks[cell] = 1;
                queue[queued] = cell;
                queued++;
            }
        }
    }

    /** The bridges of both players; ahead of what is asked of a player, look() sees them anew. */
    private static final class Bridges {
        private static final int NO_BRIDGE = 0;
        private static final int WHOLE = 1;
        private static final int BROKEN = 2;

        private final Pond pond;
        private final int[] whole = new int[PLAYERS];
        private final int[] broken = new int[PLAYERS];
        private final int[] saving = new int[PLAYERS];
        private int seenChanges = NONE;

        Bridges(Pond pond) {
            this.pond = pond;
        }

        boolean isWhole(int cell, int other) {
            for (int side = 0; side < SIDES; side++) {
                if (farEnd(cell, side) == other && other != NONE) {
                    return stateAt(cell, side) == WHOLE;
                }
            }
            return false;
        }

        void look() {
            if (seenChanges == pond.changes()) {
                return;
            }
            seenChanges = pond.changes();
            Arrays.fill(whole, 0);
            Arrays.fill(broken, 0);
            Arrays.fill(saving, NONE);
            for (int cell = 0; cell < pond.cells(); cell++) {
                // Over half of the sides, as each bridge is seen from both its ends.
                for (int side = 0; side < SIDES / 2; side++) {
                    note(cell, side, stateAt(cell, side));
                }
            }
        }

        int whole(int player) {
            return player >= 0 && player < whole.length ? whole[player] : 0;
        }

        int broken(int player) {
            return player >= 0 && player < broken.length ? broken[player] : 0;
        }

        /** The smallest cell that makes a broken bridge of the player safe, or NONE. */
        int saving(int player) {
            return player >= 0 && player < saving.length ? saving[player] : NONE;
        }

        private void note(int cell, int side, int state) {
            int player = pond.ownerAt(cell) - 1;
            if (state == NO_BRIDGE || player < 0 || player >= PLAYERS) {
                return;
            }
            if (state == WHOLE) {
                whole[player]++;
                return;
            }
            broken[player]++;
            int one = pond.beside(cell, side);
            int empty = pond.ownerAt(one) == EMPTY ? one : pond.beside(cell, nextSide(side));
            if (saving[player] == NONE || empty < saving[player]) {
                saving[player] = empty;
            }
        }

        /** The bridge from the cell between the one at this side and the one at the next side. */
        private int stateAt(int cell, int side) {
            int owner = pond.ownerAt(cell);
            int end = farEnd(cell, side);
            if (owner == EMPTY || end == NONE || pond.ownerAt(end) != owner) {
                return NO_BRIDGE;
            }
            int one = pond.ownerAt(pond.beside(cell, side));
            int other = pond.ownerAt(pond.beside(cell, nextSide(side)));
            if (one == owner || other == owner) {
                return NO_BRIDGE;
            }
            if (one == EMPTY && other == EMPTY) {
                return WHOLE;
            }
            return one == EMPTY || other == EMPTY ? BROKEN : NO_BRIDGE;
        }

        private int farEnd(int cell, int side) {
            return pond.beside(pond.beside(cell, side), nextSide(side));
        }

        private static int nextSide(int side) {
            return side + 1 < SIDES ? side + 1 : 0;
        }
    }

    /** The ways of both players; ahead of all that is asked, look() sees them anew. */
    private static final class Ways {
        private final Pond pond;

        /** For each player and shore: how many empty cells a way has from there up to each cell. */
        private final int[][] distances = new int[PLAYERS * SHORES][MOST_CELLS];
        private final int[] seenChanges = new int[PLAYERS * SHORES];
        private final int[] needs = new int[PLAYERS];

        /** Has room for all cells ahead of its middle, and for all behind it. */
        private final int[] queue = new int[2 * MOST_CELLS];
        private int queueFirst;
        private int queueEnd;

        Ways(Pond pond) {
            this.pond = pond;
            Arrays.fill(seenChanges, NONE);
        }

        void look() {
            for (int shore = 0; shore < SHORES; shore++) {
                measure(RED, shore);
                measure(BLUE, shore);
            }
        }

        /** Enough for needed(). */
        void lookFromFirstShores() {
            measure(RED, 0);
            measure(BLUE, 0);
        }

        int needed(int player) {
            return player >= 0 && player < needs.length ? needs[player] : NEEDS_WITHOUT_WAY;
        }

        /** What a way through the cell needs; NONE if there is none. */
        int through(int player, int cell) {
            int one = distance(player, 0, cell);
            int other = distance(player, 1, cell);
            if (one == UNREACHED || other == UNREACHED) {
                return NONE;
            }
            return one + other - (pond.ownerAt(cell) == EMPTY ? 1 : 0);
        }

        /** A way that needs the empty cell alone has been joined by the stone on it. */
        boolean wins(int player, int cell) {
            boolean isFree = pond.hasCell(cell) && pond.ownerAt(cell) == EMPTY;
            return isFree && (through(player, cell) == 1 || needed(player) == 0);
        }

        int winningCells(int player) {
            int winning = 0;
            for (int cell = 0; cell < pond.cells(); cell++) {
                if (wins(player, cell)) {
                    winning++;
                }
            }
            return winning;
        }

        int firstWinning(int player) {
            for (int cell = 0; cell < pond.cells(); cell++) {
                if (wins(player, cell)) {
                    return cell;
                }
            }
            return NONE;
        }

        /** The empty cell through which a way needs the fewest stones, or NONE. */
        int nearest(int player) {
            int nearest = NONE;
            int fewest = UNREACHED;
            for (int cell = 0; cell < pond.cells(); cell++) {
                int needed = pond.ownerAt(cell) == EMPTY ? through(player, cell) : NONE;
                if (needed != NONE && needed < fewest) {
                    nearest = cell;
                    fewest = needed;
                }
            }
            return nearest;
        }

        private int distance(int player, int shore, int cell) {
            int row = player * SHORES + shore;
            boolean isThere = row >= 0 && row < distances.length && cell >= 0 && cell < MOST_CELLS;
            return isThere ? distances[row][cell] : UNREACHED;
        }

        /** Each cell is queued once: those at the front are never farther than those behind them. */
        private void measure(int player, int shore) {
            int row = player * SHORES + shore;
            if (row < 0 || row >= distances.length || seenChanges[row] == pond.changes()) {
                return;
            }
            seenChanges[row] = pond.changes();
            int[] distance = distances[row];
            Arrays.fill(distance, UNREACHED);
            queueFirst = MOST_CELLS;
            queueEnd = MOST_CELLS;
            for (int cell = 0; cell < pond.cells(); cell++) {
                if (pond.isAtShore(player, shore, cell)) {
                    reach(player, distance, cell, 0);
                }
            }
            for (int n = 0; n < MOST_CELLS && queueFirst < queueEnd; n++) {
                int cell = queueFirst >= 0 && queueFirst < queue.length ? queue[queueFirst] : NONE;
                queueFirst++;
                for (int side = 0; side < SIDES && cell >= 0 && cell < distance.length; side++) {
                    reach(player, distance, pond.beside(cell, side), distance[cell]);
                }
            }
            if (shore == 0 && player >= 0 && player < needs.length) {
                needs[player] = fewestAtOtherShore(player);
            }
        }

        private int fewestAtOtherShore(int player) {
            int fewest = UNREACHED;
            for (int cell = 0; cell < pond.cells(); cell++) {
                if (pond.isAtShore(player, 1, cell)) {
                    fewest = Math.min(fewest, distance(player, 0, cell));
                }
            }
            return fewest == UNREACHED ? NEEDS_WITHOUT_WAY : fewest;
        }

        private void reach(int player, int[] distance, int cell, int before) {
            if (cell < 0 || cell >= distance.length || distance[cell] != UNREACHED) {
                return;
            }
            int owner = pond.ownerAt(cell);
            if (owner == EMPTY && queueEnd >= 0 && queueEnd < queue.length) {
                distance[cell] = before + 1;
                queue[queueEnd] = cell;
                queueEnd++;
            } else if (owner == player + 1 && queueFirst > 0 && queueFirst <= queue.length) {
                distance[cell] = before;
                queueFirst--;
                queue[queueFirst] = cell;
            }
        }
    }

    /** Finds the cell that a player takes by plans. */
    private static final class Chooser {
        private final Pond pond;
        private final Bridges bridges;
        private final Ways ways;
        private final int[] stack = new int[MOST_TOKENS];
        private int height;

        Chooser(Pond pond, Bridges bridges, Ways ways) {
            this.pond = pond;
            this.bridges = bridges;
            this.ways = ways;
        }

        /** The cell, or NONE if the player rests. */
        int choose(Plans plans, int player) {
            bridges.look();
            ways.look();
            for (int plan = 0; plan < plans.count(); plan++) {
                if (plans.playerOf(plan) == player && holds(plans, plan)) {
                    int cell = cellBy(plans, plan);
                    if (cell != NONE) {
                        return cell;
                    }
                }
            }
            return NONE;
        }

        private boolean holds(Plans plans, int plan) {
            int start = plans.testStart(plan);
            int end = plans.end(plan);
            return start == end || reckon(plans, start, end) != 0;
        }

        private int cellBy(Plans plans, int plan) {
            int player = plans.playerOf(plan);
            switch (plans.moveOf(plan)) {
                case WIN:
                    return ways.firstWinning(player);
                case GUARD:
                    return ways.firstWinning(BLUE - player);
                case SAVE:
                    return bridges.saving(player);
                case NEAR:
                    return ways.nearest(player);
                case AT:
                    return toldCell(plans, plan);
                default:
                    return NONE;
            }
        }

        private int toldCell(Plans plans, int plan) {
            int column = reckon(plans, plans.columnStart(plan), plans.rowStart(plan));
            int row = reckon(plans, plans.rowStart(plan), plans.testStart(plan));
            int cell = pond.cellAt(remainder(column, pond.columns()), remainder(row, pond.rows()));
            return pond.ownerAt(cell) == EMPTY ? cell : NONE;
        }

        private static int remainder(int number, int divisor) {
            return divisor > 0 ? Math.floorMod(number, divisor) : 0;
        }

        private int reckon(Plans plans, int from, int to) {
            height = 0;
            for (int place = from; place < to; place++) {
                Kind op = plans.opAt(place);
                int operand = plans.operandAt(place);
                switch (op) {
                    case NUMBER:
                        push(operand);
                        break;
                    case TURN:
                        push(pond.stones());
                        break;
                    case FREE:
                        push(pond.freeCells());
                        break;
                    case STONES:
                        push(pond.stonesOf(operand));
                        break;
                    case BRIDGES:
                        push(bridges.whole(operand));
                        break;
                    case NEEDS:
                        push(ways.needed(operand));
                        break;
                    case WON:
                        push(ways.needed(operand) == 0 ? 1 : 0);
                        break;
                    case NEGATE:
                        push(-pop());
                        break;
                    case NOT:
                        push(1 - pop());
                        break;
                    default:
                        int right = pop();
                        int left = pop();
                        push(joined(op, left, right));
                        break;
                }
            }
            return pop();
        }

        private static int joined(Kind op, int left, int right) {
            switch (op) {
                case PLUS:
                    return left + right;
                case MINUS:
                    return left - right;
                case TIMES:
                    return left * right;
                case OVER:
                    return right == 0 ? 0 : left / right;
                case MIN:
                    return Math.min(left, right);
                case MAX:
                    return Math.max(left, right);
                case LESS:
                    return left < right ? 1 : 0;
                case MORE:
                    return left > right ? 1 : 0;
                case EQUAL:
                    return left == right ? 1 : 0;
                case AT_MOST:
                    return left <= right ? 1 : 0;
                case AT_LEAST:
                    return left >= right ? 1 : 0;
                case AND:
                    return left & right;
                case OR:
                    return left | right;
                default:
                    return 0;
            }
        }

        private void push(int value) {
            if (height >= 0 && height < stack.length) {
                stack[height] = value;
                height++;
            }
        }

        private int pop() {
            if (height <= 0 || height > stack.length) {
                return 0;
            }
            height--;
            return stack[height];
        }
    }
}
