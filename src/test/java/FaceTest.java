import java.lang.reflect.Constructor;
import java.lang.reflect.Method;
import java.lang.reflect.Modifier;
import java.util.Arrays;
import java.util.Set;
import java.util.TreeSet;
import java.util.stream.Collectors;

/** The public face: just what the document lists, with the exceptions that it names. */
public final class FaceTest {
    private static final String SLOT = "IndexOutOfBoundsException";
    private static final String WRONG = "IllegalArgumentException";
    private static final String FULL = "IllegalStateException";
    private static final String NONE = "NoSuchElementException";
    private static final String EMPTY = "UnsupportedOperationException";
    private static final String NO_FIGURE = "ArithmeticException";

    private static final String[] FACE = {
        "int type(int, char) " + SLOT + " " + WRONG + " " + FULL,
        "int typeMore(int, int, char, char, char, char, char, char) "
            + SLOT + " " + WRONG + " " + FULL,
        "int erase(int) " + SLOT,
        "int length(int) " + SLOT,
        "char signAt(int, int) " + SLOT,
        "int join(int, int, int) " + SLOT + " " + FULL,
        "int repeat(int, int, int) " + SLOT + " " + WRONG + " " + FULL,
        "int part(int, int, int, int) " + SLOT,
        "int turn(int, int, int) " + SLOT,
        "int back(int, int) " + SLOT,
        "int put(int, int, int, int) " + SLOT + " " + EMPTY + " " + FULL,
        "int first(int, int, int) " + SLOT,
        "int last(int, int, int) " + SLOT,
        "int many(int, int, boolean) " + SLOT + " " + EMPTY,
        "boolean isSame(int, int) " + SLOT,
        "int compare(int, int) " + SLOT,
        "int common(int, int) " + SLOT,
        "int commonEnd(int, int) " + SLOT,
        "int hash(int) " + SLOT,
        "int hashJoined(int, int) " + SLOT,
        "int hashRepeated(int, int) " + SLOT + " " + WRONG,
        "int periods(int) " + SLOT,
        "int periodAt(int, int) " + SLOT + " " + NONE,
        "int border(int, int) " + SLOT + " " + EMPTY,
        "int root(int, int) " + SLOT + " " + EMPTY,
        "int turnTo(int, int) " + SLOT,
        "int turnings(int) " + SLOT,
        "int leastTurn(int) " + SLOT,
        "int factors(int) " + SLOT,
        "int factorAt(int, int) " + SLOT + " " + NONE,
        "int endAt(int, int) " + SLOT + " " + NONE,
        "int rankOf(int, int) " + SLOT,
        "int unlikeParts(int) " + SLOT,
        "int twice(int, int) " + SLOT,
        "int mirrors(int) " + SLOT,
        "boolean commute(int, int) " + SLOT,
        "int commonRoot(int, int, int) " + SLOT + " " + EMPTY,
        "long ways(int, int) " + SLOT + " " + WRONG,
        "boolean isFree(int) " + WRONG,
        "float rootShare(int) " + SLOT + " " + NO_FIGURE,
        "double meanPeriod(int) " + SLOT + " " + NO_FIGURE,
        "long checksum() ",
        "boolean isTrue() ",
    };

    public static void main(String[] args) {
        Set<String> open = new TreeSet<>();
        Set<String> openNames = new TreeSet<>();
        for (Method method : Rootsong.class.getDeclaredMethods()) {
            if (!Modifier.isPrivate(method.getModifiers())) {
                open.add(told(method));
                openNames.add(method.getName());
            }
        }
        Check.due("the methods of the face", open, new TreeSet<>(Arrays.asList(FACE)));
        for (Method method : Rootsong.class.getDeclaredMethods()) {
            if (Modifier.isPrivate(method.getModifiers())) {
                Check.due("a private method with a public name, " + method.getName(),
                        openNames.contains(method.getName()), false);
            }
        }
        Check.due("fields that are not private", Arrays.stream(Rootsong.class.getDeclaredFields())
                .filter(field -> !Modifier.isPrivate(field.getModifiers())).count(), 0L);
        Constructor<?>[] constructors = Rootsong.class.getDeclaredConstructors();
        Check.due("constructors", constructors.length, 1);
        Check.due("the constructor", constructors[0].toString(), "public Rootsong()");
        Check.due("the class", Modifier.toString(Rootsong.class.getModifiers()), "public final");
        Check.end("FaceTest");
    }

    private static String told(Method method) {
        return method.getReturnType().getName() + " " + method.getName()
                + Arrays.stream(method.getParameterTypes()).map(Class::getName)
                    .collect(Collectors.joining(", ", "(", ") "))
                + Arrays.stream(method.getExceptionTypes()).map(Class::getSimpleName)
                    .collect(Collectors.joining(" "));
    }
}
