import java.nio.charset.StandardCharsets;
import java.util.ArrayList;
import java.util.Arrays;
import java.util.List;
import java.util.Set;
import java.util.function.BooleanSupplier;
import java.util.function.IntSupplier;
import java.util.regex.Matcher;
import java.util.regex.Pattern;

/**
 * The document once more, as slowly and as literally as it can be put: what RandomRunsTest compares
 * the program with. It shares no way of reckoning with the program.
 */
public final class PlainPond {
    private static final Set<String> KEYWORDS = Set.of(("pond by stone plan red blue win guard save near at when"
            + " turn stones bridges free needs won not and or min max").split(" "));
    private static final Pattern TOKEN =
            Pattern.compile("[a-z][a-z0-9]*|[0-9]+|<=|>=|[()\\[\\];,+\\-*/<>=]");
    private static final Recogniser RECOGNISER = new Recogniser();
    private static final int FAR = 5000;

    private record Token(String text, int at) {
        boolean isNumber() {
            return Character.isDigit(text.charAt(0));
        }

        String kind() {
            return isNumber() ? "number" : text;
        }
    }

    private record Plan(int player, String move, IntSupplier column, IntSupplier row, BooleanSupplier test) {
    }

    private byte[] tape = new byte[0];
    private int errorAt = -1;
    private int columns = 7;
    private int rows = 7;
    private Integer[] owners = new Integer[49];
    private List<Plan> plans = new ArrayList<>();
    private List<Integer> laid = new ArrayList<>();

    private List<Token> tokens;
    private int next;

    // ---- the language

    public int feed(int a, int b, int c, int d, int e) {
        if (tape.length > 1980) {
            throw new IllegalStateException();
        }
        int end = tape.length;
        tape = Arrays.copyOf(tape, end + 20);
        java.nio.ByteBuffer.wrap(tape, end, 20).putInt(a).putInt(b).putInt(c).putInt(d).putInt(e);
        return tape.length;
    }

    public int trim(int n) {
        if (n < 0 || n > tape.length) {
            throw new IllegalArgumentException();
        }
        tape = Arrays.copyOf(tape, n);
        return n;
    }

    public int teach() {
        String text = new String(tape, StandardCharsets.ISO_8859_1);
        tape = new byte[0];
        tokens = new ArrayList<>();
        int bad = split(text);
        List<String> kinds = new ArrayList<>();
        for (Token token : tokens) {
            kinds.add(token.kind());
        }
        if (bad >= 0) {
            kinds.add("?");
        }
        int wrong = RECOGNISER.firstWrong(kinds);
        if (wrong >= 0) {
            errorAt = wrong < tokens.size() ? tokens.get(wrong).at() : bad >= 0 ? bad : text.length();
            return 1;
        }
        int[] errorAndPlace = meaningError();
        errorAt = errorAndPlace[1];
        if (errorAndPlace[0] == 0) {
            begin();
        }
        return errorAndPlace[0];
    }

    /** Fills the tokens; tells where the first one is that is none or too many, or -1. */
    private int split(String text) {
        Matcher matcher = TOKEN.matcher(text);
        int at = 0;
        while (true) {
            while (at < text.length() && (text.charAt(at) == ' ' || text.charAt(at) == '\n')) {
                at++;
            }
            if (at == text.length()) {
                return -1;
            }
            if (tokens.size() == 400 || !matcher.region(at, text.length()).lookingAt()) {
                return at;
            }
            String token = matcher.group();
            boolean isNumber = Character.isDigit(token.charAt(0));
            boolean isName = Character.isLetter(token.charAt(0)) && !KEYWORDS.contains(token);
            if (isName || isNumber && token.length() > 6) {
                return at;
            }
            tokens.add(new Token(token, at));
            at = matcher.end();
        }
    }

    private int[] meaningError() {
        int width = 7;
        int height = 7;
        int told = 0;
        List<String> taken = new ArrayList<>();
        for (int i = 0; i < tokens.size(); i++) {
            String text = tokens.get(i).text();
            if (text.equals("pond")) {
                width = number(i + 1);
                height = number(i + 3);
                if (width < 3 || width > 9) {
                    return new int[] {5, tokens.get(i + 1).at()};
                }
                if (height < 3 || height > 9) {
                    return new int[] {5, tokens.get(i + 3).at()};
                }
            } else if (text.equals("plan")) {
                told++;
                if (told == 17) {
                    return new int[] {4, tokens.get(i).at()};
                }
            } else if (text.equals("stone")) {
                if (number(i + 2) >= width) {
                    return new int[] {5, tokens.get(i + 2).at()};
                }
                if (number(i + 4) >= height) {
                    return new int[] {5, tokens.get(i + 4).at()};
                }
                String place = number(i + 2) + " " + number(i + 4);
                if (taken.contains(place)) {
                    return new int[] {2, tokens.get(i + 4).at()};
                }
                taken.add(place);
            }
        }
        return new int[] {0, -1};
    }

    private int number(int token) {
        return Integer.parseInt(tokens.get(token).text());
    }

    private void begin() {
        next = 0;
        columns = 7;
        rows = 7;
        plans = new ArrayList<>();
        laid = new ArrayList<>();
        if (next("pond")) {
            columns = number(1);
            rows = number(3);
            next = 5;
        }
        owners = new Integer[columns * rows];
        while (next < tokens.size()) {
            if (next("stone")) {
                int player = player();
                owners[number(next) + columns * number(next + 2)] = player;
                next += 3;
            } else {
                next++;
                plan();
            }
            next++;
        }
    }

    private boolean next(String text) {
        if (next < tokens.size() && tokens.get(next).text().equals(text)) {
            next++;
            return true;
        }
        return false;
    }

    private int player() {
        return tokens.get(next++).text().equals("red") ? 0 : 1;
    }

    private void plan() {
        int player = player();
        String move = tokens.get(next++).text();
        IntSupplier column = null;
        IntSupplier row = null;
        if (move.equals("at")) {
            column = sum();
            next++;
            row = sum();
        }
        plans.add(new Plan(player, move, column, row, next("when") ? test() : () -> true));
    }

    private BooleanSupplier test() {
        BooleanSupplier left = both();
        while (next("or")) {
            BooleanSupplier before = left;
            BooleanSupplier right = both();
            left = () -> before.getAsBoolean() | right.getAsBoolean();
        }
        return left;
    }

    private BooleanSupplier both() {
        BooleanSupplier left = single();
        while (next("and")) {
            BooleanSupplier before = left;
            BooleanSupplier right = single();
            left = () -> before.getAsBoolean() & right.getAsBoolean();
        }
        return left;
    }

    private BooleanSupplier single() {
        if (next("not")) {
            BooleanSupplier turned = single();
            return () -> !turned.getAsBoolean();
        }
        if (next("[")) {
            BooleanSupplier inside = test();
            next++;
            return inside;
        }
        if (next("won")) {
            int player = player();
            return () -> hasWon(player);
        }
        IntSupplier left = sum();
        String relation = tokens.get(next++).text();
        IntSupplier right = sum();
        return () -> {
            int order = Integer.compare(left.getAsInt(), right.getAsInt());
            return order < 0 && relation.contains("<") || order > 0 && relation.contains(">")
                    || order == 0 && relation.contains("=");
        };
    }

    private IntSupplier sum() {
        IntSupplier left = product();
        while (true) {
            IntSupplier before = left;
            if (next("+")) {
                IntSupplier right = product();
                left = () -> (int) ((long) before.getAsInt() + right.getAsInt());
            } else if (next("-")) {
                IntSupplier right = product();
                left = () -> (int) ((long) before.getAsInt() - right.getAsInt());
            } else {
                return left;
            }
        }
    }

    private IntSupplier product() {
        IntSupplier left = value();
        while (true) {
            IntSupplier before = left;
            if (next("*")) {
                IntSupplier right = value();
                left = () -> (int) ((long) before.getAsInt() * right.getAsInt());
            } else if (next("/")) {
                IntSupplier right = value();
                left = () -> quotient(before.getAsInt(), right.getAsInt());
            } else {
                return left;
            }
        }
    }

    private static int quotient(long left, long right) {
        return right == 0 ? 0 : (int) (left / right);
    }

    private IntSupplier value() {
        Token token = tokens.get(next++);
        if (token.isNumber()) {
            int number = Integer.parseInt(token.text());
            return () -> number;
        }
        switch (token.text()) {
            case "turn":
                return () -> stonesOf(0) + stonesOf(1);
            case "free":
                return this::emptyCells;
            case "-":
                IntSupplier turned = value();
                return () -> (int) -(long) turned.getAsInt();
            case "(":
                IntSupplier inside = sum();
                next++;
                return inside;
            case "min":
            case "max":
                next++;
                IntSupplier left = sum();
                next++;
                IntSupplier right = sum();
                next++;
                return token.text().equals("min") ? () -> Math.min(left.getAsInt(), right.getAsInt())
                        : () -> Math.max(left.getAsInt(), right.getAsInt());
            default:
                int player = player();
                return () -> token.text().equals("stones") ? stonesOf(player)
                        : token.text().equals("bridges") ? bridgesOf(player) : needs(player);
        }
    }

    // ---- the pond

    public int errorAt() {
        return errorAt;
    }

    public int columns() {
        return columns;
    }

    public int rows() {
        return rows;
    }

    public int plans() {
        return plans.size();
    }

    public int stonesToTakeBack() {
        return laid.size();
    }

    public int tapeBytes() {
        return tape.length;
    }

    public int emptyCells() {
        return cellsOf(null).size();
    }

    public int stonesOf(int player) {
        checkPlayer(player);
        return cellsOf(player).size();
    }

    public boolean isEmpty(int column, int row) {
        return owners[cell(column, row)] == null;
    }

    public int ownerOf(int column, int row) {
        return owners[stone(column, row)];
    }

    public boolean hasWon(int player) {
        checkPlayer(player);
        for (int start : cellsOf(player)) {
            if (shores(group(start)) == 2) {
                return true;
            }
        }
        return false;
    }

    public boolean isOver() {
        return hasWon(0) || hasWon(1);
    }

    public int playerInTurn() {
        if (isOver()) {
            throw new IllegalStateException();
        }
        return stonesOf(0) > stonesOf(1) ? 1 : 0;
    }

    private void checkPlayer(int player) {
        if (player < 0 || player > 1) {
            throw new IndexOutOfBoundsException();
        }
    }

    private int cell(int column, int row) {
        if (column < 0 || row < 0 || column >= columns || row >= rows) {
            throw new IndexOutOfBoundsException();
        }
        return columns * row + column;
    }

    private int stone(int column, int row) {
        int cell = cell(column, row);
        if (owners[cell] == null) {
            throw new IllegalStateException();
        }
        return cell;
    }

    private List<Integer> cellsOf(Integer owner) {
        List<Integer> cells = new ArrayList<>();
        for (int cell = 0; cell < owners.length; cell++) {
            if (owner == null ? owners[cell] == null : owner.equals(owners[cell])) {
                cells.add(cell);
            }
        }
        return cells;
    }

    private boolean beside(int cell, int other) {
        int x = other % columns - cell % columns;
        int y = other / columns - cell / columns;
        return Math.max(Math.abs(x + y), Math.max(Math.abs(x), Math.abs(y))) == 1;
    }

    // ---- what hangs together

    public int stonesBeside(int player, int column, int row) {
        checkPlayer(player);
        int middle = cell(column, row);
        int stones = 0;
        for (int cell : cellsOf(player)) {
            stones += beside(cell, middle) ? 1 : 0;
        }
        return stones;
    }

    private List<Integer> group(int start) {
        List<Integer> group = new ArrayList<>(List.of(start));
        for (int i = 0; i < group.size(); i++) {
            for (int cell : cellsOf(owners[start])) {
                if (beside(cell, group.get(i)) && !group.contains(cell)) {
                    group.add(cell);
                }
            }
        }
        return group;
    }

    private int shores(List<Integer> group) {
        boolean first = false;
        boolean last = false;
        for (int cell : group) {
            int player = owners[cell];
            first |= onShore(player, false, cell);
            last |= onShore(player, true, cell);
        }
        return (first ? 1 : 0) + (last ? 1 : 0);
    }

    private boolean onShore(int player, boolean last, int cell) {
        if (player == 0) {
            return cell % columns == (last ? columns - 1 : 0);
        }
        return cell / columns == (last ? rows - 1 : 0);
    }

    public int groupSize(int column, int row) {
        return group(stone(column, row)).size();
    }

    public int shoresOf(int column, int row) {
        return shores(group(stone(column, row)));
    }

    private List<List<Integer>> groups(int player) {
        List<List<Integer>> groups = new ArrayList<>();
        for (int cell : cellsOf(player)) {
            if (groups.stream().noneMatch(g -> g.contains(cell))) {
                groups.add(group(cell));
            }
        }
        return groups;
    }

    public int groupsOf(int player) {
        checkPlayer(player);
        return groups(player).size();
    }

    public int greatestGroup(int player) {
        checkPlayer(player);
        return groups(player).stream().mapToInt(List::size).max().orElse(0);
    }

    /** The two cells beside both, or none. */
    private List<Integer> between(int cell, int other) {
        List<Integer> both = new ArrayList<>();
        for (int c = 0; c < owners.length; c++) {
            if (beside(c, cell) && beside(c, other)) {
                both.add(c);
            }
        }
        return cell == other || beside(cell, other) || both.size() != 2 ? List.of() : both;
    }

    private boolean whole(int player, int cell, int other) {
        List<Integer> both = between(cell, other);
        return isOf(player, cell) && isOf(player, other) && !both.isEmpty()
                && owners[both.get(0)] == null && owners[both.get(1)] == null;
    }

    private boolean broken(int player, int cell, int other) {
        List<Integer> both = between(cell, other);
        if (!isOf(player, cell) || !isOf(player, other) || both.isEmpty()) {
            return false;
        }
        Integer one = owners[both.get(0)];
        Integer two = owners[both.get(1)];
        return one == null && two != null && two == 1 - player || two == null && one != null && one == 1 - player;
    }

    private boolean isOf(int player, int cell) {
        return owners[cell] != null && owners[cell] == player;
    }

    public boolean isBridge(int cell, int other) {
        if (cell < 0 || other < 0 || cell >= owners.length || other >= owners.length) {
            throw new IndexOutOfBoundsException();
        }
        return whole(0, cell, other) || whole(1, cell, other);
    }

    public int bridgesOf(int player) {
        checkPlayer(player);
        int bridges = 0;
        for (int cell : cellsOf(player)) {
            for (int other : cellsOf(player)) {
                bridges += cell < other && whole(player, cell, other) ? 1 : 0;
            }
        }
        return bridges;
    }

    public int brokenBridgesOf(int player) {
        checkPlayer(player);
        int bridges = 0;
        for (int cell : cellsOf(player)) {
            for (int other : cellsOf(player)) {
                bridges += cell < other && broken(player, cell, other) ? 1 : 0;
            }
        }
        return bridges;
    }

    public boolean isFrozen(int column, int row) {
        if (owners[cell(column, row)] != null) {
            return false;
        }
        int[][] around = {{1, 0}, {0, 1}, {-1, 1}, {-1, 0}, {0, -1}, {1, -1}};
        StringBuilder round = new StringBuilder();
        for (int[] step : around) {
            int x = column + step[0];
            int y = row + step[1];
            boolean xBeyond = x < 0 || x >= columns;
            boolean yBeyond = y < 0 || y >= rows;
            Integer owner = xBeyond || yBeyond ? null : owners[cell(x, y)];
            if (xBeyond != yBeyond) {
                owner = xBeyond ? 0 : 1;
            }
            round.append(owner == null ? "." : owner == 0 ? "r" : "b");
        }
        String twice = round.toString() + round;
        return twice.contains("rrrr") || twice.contains("bbbb");
    }

    public int frozenCells() {
        int frozen = 0;
        for (int cell = 0; cell < owners.length; cell++) {
            frozen += isFrozen(cell % columns, cell / columns) ? 1 : 0;
        }
        return frozen;
    }

    // ---- ways

    private int[] distances(int player, boolean last) {
        int[] far = new int[owners.length];
        Arrays.fill(far, FAR);
        for (boolean changed = true; changed; ) {
            changed = false;
            for (int cell = 0; cell < far.length; cell++) {
                if (owners[cell] != null && owners[cell] != player) {
                    continue;
                }
                int before = onShore(player, last, cell) ? 0 : FAR;
                for (int other = 0; other < far.length; other++) {
                    if (beside(cell, other)) {
                        before = Math.min(before, far[other]);
                    }
                }
                int now = before + (owners[cell] == null ? 1 : 0);
                if (before < FAR && now < far[cell]) {
                    far[cell] = now;
                    changed = true;
                }
            }
        }
        return far;
    }

    private int needs(int player) {
        int[] far = distances(player, false);
        int fewest = FAR;
        for (int cell = 0; cell < far.length; cell++) {
            if (onShore(player, true, cell)) {
                fewest = Math.min(fewest, far[cell]);
            }
        }
        return fewest == FAR ? 99 : fewest;
    }

    public int stonesNeeded(int player) {
        checkPlayer(player);
        int needs = needs(player);
        if (needs == 99) {
            throw new IllegalStateException();
        }
        return needs;
    }

    public int stonesNeededThrough(int player, int column, int row) {
        checkPlayer(player);
        int cell = cell(column, row);
        int one = distances(player, false)[cell];
        int other = distances(player, true)[cell];
        if (one == FAR || other == FAR) {
            throw new IllegalStateException();
        }
        return one + other - (owners[cell] == null ? 1 : 0);
    }

    public boolean isWinningCell(int player, int column, int row) {
        checkPlayer(player);
        int cell = cell(column, row);
        if (owners[cell] != null) {
            return false;
        }
        owners[cell] = player;
        boolean wins = hasWon(player);
        owners[cell] = null;
        return wins;
    }

    private List<Integer> winning(int player) {
        List<Integer> winning = new ArrayList<>();
        for (int cell = 0; cell < owners.length; cell++) {
            if (isWinningCell(player, cell % columns, cell / columns)) {
                winning.add(cell);
            }
        }
        return winning;
    }

    public int winningCells(int player) {
        checkPlayer(player);
        return winning(player).size();
    }

    // ---- by hand

    public int layStone(int column, int row) {
        int cell = cell(column, row);
        int player = playerInTurn();
        if (owners[cell] != null) {
            throw new IllegalStateException();
        }
        owners[cell] = player;
        laid.add(cell);
        return player;
    }

    public int takeBack() {
        if (laid.isEmpty()) {
            throw new IllegalStateException();
        }
        int cell = laid.remove(laid.size() - 1);
        owners[cell] = null;
        return cell;
    }

    // ---- plans and what would be

    public int plannedCell() {
        int player = playerInTurn();
        for (Plan plan : plans) {
            if (plan.player() == player && plan.test().getAsBoolean()) {
                int cell = found(plan);
                if (cell >= 0) {
                    return cell;
                }
            }
        }
        return -1;
    }

    private int found(Plan plan) {
        int player = plan.player();
        switch (plan.move()) {
            case "win":
                return first(winning(player));
            case "guard":
                return first(winning(1 - player));
            case "save":
                return saving(player);
            case "near":
                return near(player);
            default:
                int cell = cell(Math.floorMod(plan.column().getAsInt(), columns),
                        Math.floorMod(plan.row().getAsInt(), rows));
                return owners[cell] == null ? cell : -1;
        }
    }

    private static int first(List<Integer> cells) {
        return cells.isEmpty() ? -1 : cells.get(0);
    }

    private int saving(int player) {
        for (int empty : cellsOf(null)) {
            for (int cell : cellsOf(player)) {
                for (int other : cellsOf(player)) {
                    if (broken(player, cell, other) && between(cell, other).contains(empty)) {
                        return empty;
                    }
                }
            }
        }
        return -1;
    }

    private int near(int player) {
        int best = -1;
        int fewest = FAR;
        for (int cell : cellsOf(null)) {
            try {
                int needed = stonesNeededThrough(player, cell % columns, cell / columns);
                if (needed < fewest) {
                    best = cell;
                    fewest = needed;
                }
            } catch (IllegalStateException e) {
                continue;
            }
        }
        return best;
    }

    public int playByPlans(int stones) {
        if (stones < 1 || stones > 81) {
            throw new IllegalArgumentException();
        }
        int played = 0;
        while (played < stones && !isOver()) {
            int cell = plannedCell();
            if (cell < 0) {
                break;
            }
            layStone(cell % columns, cell / columns);
            played++;
        }
        return played;
    }

    public int stonesByPlans() {
        int played = playByPlans(81);
        for (int i = 0; i < played; i++) {
            takeBack();
        }
        return played;
    }

    public int winnerByPlans() {
        int played = playByPlans(81);
        int winner = hasWon(0) ? 0 : hasWon(1) ? 1 : -1;
        for (int i = 0; i < played; i++) {
            takeBack();
        }
        return winner;
    }

    public int mustPlay() {
        int player = playerInTurn();
        if (!winning(player).isEmpty() || winning(1 - player).size() != 1) {
            throw new IllegalStateException();
        }
        return winning(1 - player).get(0);
    }

    public int bestCell() {
        int player = playerInTurn();
        int best = -1;
        int most = Integer.MIN_VALUE;
        for (int cell : cellsOf(null)) {
            owners[cell] = player;
            int lead = needs(1 - player) - needs(player);
            owners[cell] = null;
            if (lead > most) {
                most = lead;
                best = cell;
            }
        }
        return best;
    }

    public double meanGroup() {
        List<List<Integer>> groups = new ArrayList<>(groups(0));
        groups.addAll(groups(1));
        return groups.stream().mapToInt(List::size).average().orElse(0);
    }

    public long digest() {
        List<Integer> numbers = new ArrayList<>(List.of(columns, rows, plans.size(), laid.size(), tape.length,
                emptyCells(), frozenCells(), isOver() ? 1 : 0));
        for (int player = 0; player < 2; player++) {
            numbers.addAll(List.of(stonesOf(player), hasWon(player) ? 1 : 0, groupsOf(player),
                    greatestGroup(player), bridgesOf(player), brokenBridgesOf(player), winningCells(player),
                    needs(player)));
        }
        for (Integer owner : owners) {
            numbers.add(owner == null ? 0 : owner + 1);
        }
        long d = 953;
        for (int number : numbers) {
            d = d * 31 + number;
        }
        return d;
    }
}
