import java.lang.reflect.InvocationTargetException;
import java.lang.reflect.Method;
import java.nio.charset.StandardCharsets;
import java.util.ArrayList;
import java.util.Arrays;
import java.util.Comparator;
import java.util.List;

/** Long runs of calls, the same ones each time, whose answers are compared with those of PlainPond. */
public final class RandomRunsTest {
    private static final int CALLS = 300;
    private static final String[] WORDS = ("pond by stone plan red blue win guard save near at when turn stones"
            + " bridges free needs won not and or min max ( ) [ ] ; , + - * / < > = <= >= 0 1 3 7 9 10 999999"
            + " 1234567 name red2 abcdefghijk # A \t { \u00ff").split(" ");
    private static final List<Method> ASKING = asking();

    private long seed;

    private RandomRunsTest(int number) {
        seed = number * 7919L + 17;
    }

    public static void main(String[] args) {
        int runs = args.length > 0 ? Integer.parseInt(args[0]) : 150;
        int first = args.length > 1 ? Integer.parseInt(args[1]) : 0;
        for (int number = first; number < first + runs; number++) {
            new RandomRunsTest(number).run(number);
        }
        Due.end("RandomRunsTest");
    }

    private static List<Method> asking() {
        List<Method> methods = new ArrayList<>();
        for (Method method : PlainPond.class.getDeclaredMethods()) {
            if (java.lang.reflect.Modifier.isPublic(method.getModifiers())) {
                methods.add(method);
            }
        }
        methods.sort(Comparator.comparing(Method::getName));
        return methods;
    }

    private void run(int number) {
        HexPond pond = new HexPond();
        PlainPond plain = new PlainPond();
        StringBuilder told = new StringBuilder("run " + number);
        for (int call = 0; call < CALLS; call++) {
            if (any(40) == 0 || call == 0) {
                teach(told, pond, plain);
            }
            Method method = any(4) == 0 ? named(any(3) == 0 ? "takeBack" : any(2) == 0 ? "layStone" : "playByPlans")
                    : ASKING.get(any(ASKING.size()));
            if (method.getName().equals("teach")) {
                continue;
            }
            Object[] arguments = argumentsFor(method, plain);
            if (!same(told, method, arguments, pond, plain)) {
                return;
            }
            if (!same(told, named("digest"), new Object[0], pond, plain)) {
                return;
            }
        }
    }

    private static Method named(String name) {
        for (Method method : ASKING) {
            if (method.getName().equals(name)) {
                return method;
            }
        }
        throw new IllegalStateException(name);
    }

    private boolean same(StringBuilder told, Method method, Object[] arguments, HexPond pond, PlainPond plain) {
        String answered;
        try {
            Method asked = HexPond.class.getMethod(method.getName(), method.getParameterTypes());
            answered = answer(asked, pond, arguments);
        } catch (NoSuchMethodException e) {
            answered = "no such method";
        }
        String due = answer(method, plain, arguments);
        String call = method.getName() + Arrays.toString(arguments) + " " + due;
        told.append("\n  ").append(call);
        Due.same("a call", answered.equals(due), true);
        if (!answered.equals(due)) {
            System.out.println(told + "\nbut answered was " + answered);
        }
        return answered.equals(due);
    }

    private static String answer(Method method, Object object, Object[] arguments) {
        try {
            return String.valueOf(method.invoke(object, arguments));
        } catch (InvocationTargetException e) {
            return "throws " + e.getCause().getClass().getSimpleName();
        } catch (IllegalAccessException e) {
            return "cannot be called";
        }
    }

    private Object[] argumentsFor(Method method, PlainPond plain) {
        Object[] arguments = new Object[method.getParameterCount()];
        boolean wild = any(25) == 0;
        for (int i = 0; i < arguments.length; i++) {
            int left = arguments.length - i;
            int most;
            switch (method.getName()) {
                case "feed":
                    most = 0x7fffffff;
                    break;
                case "trim":
                    most = plain.tapeBytes() + 2;
                    break;
                case "playByPlans":
                    most = any(4) == 0 ? 83 : 4;
                    break;
                case "isBridge":
                    most = plain.columns() * plain.rows() + 1;
                    break;
                default:
                    most = left == 2 ? plain.columns() : left == 1 && arguments.length > 1 ? plain.rows() : 2;
                    break;
            }
            arguments[i] = wild ? wildNumber() : any(most);
        }
        return arguments;
    }

    private int wildNumber() {
        int[] numbers = {-1, Integer.MIN_VALUE, Integer.MAX_VALUE, 2, 9, 81, 82, -9, 65536};
        return numbers[any(numbers.length)];
    }

    // ---- games

    private void teach(StringBuilder told, HexPond pond, PlainPond plain) {
        StringBuilder game = new StringBuilder();
        int columns = 7;
        int rows = 7;
        if (any(4) != 0) {
            columns = 3 + any(7);
            rows = 3 + any(7);
            game.append("pond ").append(columns).append(any(2) == 0 ? " by " : "\nby").append(' ').append(rows)
                    .append(";");
        }
        writeStones(game, columns, rows);
        int plans = any(5) == 0 ? 0 : any(18);
        for (int i = 0; i < plans && game.length() < 1700; i++) {
            writePlan(game);
        }
        byte[] text = game.toString().getBytes(StandardCharsets.ISO_8859_1);
        if (any(3) == 0) {
            text = spoilt(text);
        }
        text = Arrays.copyOf(text, Math.min(text.length, 2000));
        told.append("\n  teach ").append(new String(text, StandardCharsets.ISO_8859_1).replace("\n", "\\n"));
        pond.trim(0);
        plain.trim(0);
        feedBoth(pond, plain, text);
        same(told, named("teach"), new Object[0], pond, plain);
        same(told, named("errorAt"), new Object[0], pond, plain);
    }

    private static void feedBoth(HexPond pond, PlainPond plain, byte[] text) {
        Due.tape(pond, text);
        int fed = (text.length + 19) / 20;
        for (int i = 0; i < fed; i++) {
            java.nio.ByteBuffer part = java.nio.ByteBuffer.wrap(Arrays.copyOfRange(text, i * 20, i * 20 + 20));
            plain.feed(part.getInt(), part.getInt(), part.getInt(), part.getInt(), part.getInt());
        }
        plain.trim(text.length);
    }

    private void writeStones(StringBuilder game, int columns, int rows) {
        int[] cells = new int[columns * rows];
        for (int i = 0; i < cells.length; i++) {
            int other = any(i + 1);
            cells[i] = cells[other];
            cells[other] = i;
        }
        int stones = any(3) == 0 ? any(4) : any(cells.length * 3 / 4);
        for (int i = 0; i < stones && i < cells.length && game.length() < 1100; i++) {
            int cell = any(200) == 0 ? cells[0] : cells[i];
            game.append("stone ").append(any(2) == 0 ? "red" : "blue").append(' ').append(cell % columns)
                    .append(',').append(any(300) == 0 ? rows : cell / columns).append(';');
        }
    }

    private void writePlan(StringBuilder game) {
        String[] moves = {"win", "guard", "save", "near", "at ", "at "};
        String move = moves[any(moves.length)];
        game.append("plan ").append(player()).append(' ').append(move);
        if (move.equals("at ")) {
            writeSum(game, 2 + any(2));
            game.append(',');
            writeSum(game, 2);
        }
        if (any(2) == 0) {
            game.append(" when ");
            writeTest(game, 3);
        }
        game.append(any(9) == 0 ? " ;\n" : ";");
    }

    private String player() {
        return any(2) == 0 ? "red" : "blue";
    }

    private void writeTest(StringBuilder game, int size) {
        int kind = size <= 0 ? 3 + any(3) : any(8);
        if (kind == 0) {
            game.append("not ");
            writeTest(game, size - 1);
        } else if (kind == 1) {
            game.append("[");
            writeTest(game, size - 1);
            game.append("]");
        } else if (kind == 2) {
            writeTest(game, size - 1);
            game.append(any(2) == 0 ? " and " : " or ");
            writeTest(game, size - 1);
        } else if (kind == 3) {
            game.append("won ").append(player()).append(' ');
        } else {
            String[] relations = {"<", ">", "=", "<=", ">="};
            writeSum(game, size - 1);
            game.append(relations[any(5)]);
            writeSum(game, size - 1);
        }
    }

    private void writeSum(StringBuilder game, int size) {
        int kind = size <= 0 ? any(5) : any(12);
        switch (kind) {
            case 0:
                game.append(any(3) == 0 ? any(1000000) : any(12));
                break;
            case 1:
                game.append(any(2) == 0 ? "turn " : "free ");
                break;
            case 2:
                game.append("stones ").append(player()).append(' ');
                break;
            case 3:
                game.append("bridges ").append(player()).append(' ');
                break;
            case 4:
                game.append("needs ").append(player()).append(' ');
                break;
            case 5:
                game.append("-");
                writeSum(game, size - 1);
                break;
            case 6:
                game.append("(");
                writeSum(game, size - 1);
                game.append(")");
                break;
            case 7:
                game.append(any(2) == 0 ? "min(" : "max(");
                writeSum(game, size - 1);
                game.append(",");
                writeSum(game, size - 1);
                game.append(")");
                break;
            default:
                writeSum(game, size - 1);
                game.append("+-*/".charAt(any(4)));
                writeSum(game, size - 1);
                break;
        }
    }

    private byte[] spoilt(byte[] text) {
        StringBuilder spoilt = new StringBuilder(new String(text, StandardCharsets.ISO_8859_1));
        int times = 1 + any(3);
        for (int i = 0; i < times; i++) {
            int from = any(spoilt.length() + 1);
            int to = Math.min(spoilt.length(), from + any(3));
            String instead = any(3) == 0 ? "" : " " + WORDS[any(WORDS.length)] + " ";
            spoilt.replace(from, to, any(2) == 0 ? instead : instead.trim());
        }
        return spoilt.toString().getBytes(StandardCharsets.ISO_8859_1);
    }

    private int any(int bound) {
        seed = seed * 6364136223846793005L + 1442695040888963407L;
        return bound <= 1 ? 0 : (int) ((seed >>> 33) % bound);
    }
}
