import java.lang.reflect.Modifier;
import java.lang.reflect.Method;
import java.util.Arrays;
import java.util.Set;
import java.util.TreeSet;

/** The face: the document's methods with their types and exceptions, and no others. */
public final class FaceTest {
    private static final String FACE = String.join("\n",
            "int feed(int, int, int, int, int) throws IllegalStateException",
            "int trim(int) throws IllegalArgumentException",
            "int teach()", "int errorAt()", "int columns()", "int rows()", "int plans()",
            "int stonesToTakeBack()", "int tapeBytes()", "int emptyCells()",
            "int stonesOf(int) throws IndexOutOfBoundsException",
            "boolean isEmpty(int, int) throws IndexOutOfBoundsException",
            "int ownerOf(int, int) throws IndexOutOfBoundsException, IllegalStateException",
            "boolean hasWon(int) throws IndexOutOfBoundsException",
            "boolean isOver()",
            "int playerInTurn() throws IllegalStateException",
            "int stonesBeside(int, int, int) throws IndexOutOfBoundsException",
            "int groupSize(int, int) throws IndexOutOfBoundsException, IllegalStateException",
            "int shoresOf(int, int) throws IndexOutOfBoundsException, IllegalStateException",
            "int groupsOf(int) throws IndexOutOfBoundsException",
            "int greatestGroup(int) throws IndexOutOfBoundsException",
            "boolean isBridge(int, int) throws IndexOutOfBoundsException",
            "int bridgesOf(int) throws IndexOutOfBoundsException",
            "int brokenBridgesOf(int) throws IndexOutOfBoundsException",
            "boolean isFrozen(int, int) throws IndexOutOfBoundsException",
            "int frozenCells()",
            "int stonesNeeded(int) throws IndexOutOfBoundsException, IllegalStateException",
            "int stonesNeededThrough(int, int, int) throws IndexOutOfBoundsException, IllegalStateException",
            "boolean isWinningCell(int, int, int) throws IndexOutOfBoundsException",
            "int winningCells(int) throws IndexOutOfBoundsException",
            "int layStone(int, int) throws IndexOutOfBoundsException, IllegalStateException",
            "int takeBack() throws IllegalStateException",
            "int plannedCell() throws IllegalStateException",
            "int playByPlans(int) throws IllegalArgumentException",
            "int stonesByPlans()", "int winnerByPlans()",
            "int mustPlay() throws IllegalStateException",
            "int bestCell() throws IllegalStateException",
            "double meanGroup()", "long digest()");

    public static void main(String[] args) {
        Set<String> due = new TreeSet<>(Arrays.asList(FACE.split("\n")));
        Set<String> found = new TreeSet<>();
        for (Method method : HexPond.class.getDeclaredMethods()) {
            if (Modifier.isPublic(method.getModifiers())) {
                found.add(faceOf(method));
            } else {
                Due.same(method.getName() + " is private", Modifier.isPrivate(method.getModifiers()), true);
            }
        }
        if (!due.equals(found)) {
            Due.tell("the face is\n" + String.join("\n", found) + "\ndue is\n" + String.join("\n", due));
        }
        Due.same("the class is public and final", HexPond.class.getModifiers(),
                Modifier.PUBLIC | Modifier.FINAL);
        Due.same("constructors", HexPond.class.getDeclaredConstructors().length, 1);
        Due.end("FaceTest");
    }

    private static String faceOf(Method method) {
        StringBuilder face = new StringBuilder();
        face.append(method.getReturnType()).append(' ').append(method.getName()).append('(');
        String between = "";
        for (Class<?> type : method.getParameterTypes()) {
            face.append(between).append(type);
            between = ", ";
        }
        face.append(')');
        between = " throws ";
        for (Class<?> type : method.getExceptionTypes()) {
            face.append(between).append(type.getSimpleName());
            between = ", ";
        }
        return face.toString();
    }
}
