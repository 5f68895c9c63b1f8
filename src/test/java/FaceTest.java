import java.lang.reflect.Field;
import java.lang.reflect.Method;
import java.lang.reflect.Modifier;
import java.util.Arrays;
import java.util.Set;
import java.util.TreeSet;

/** The public face is that of the document, and nothing else can be seen (rule 1 of LANGUAGE.md). */
public final class FaceTest {
    private static final String[] FACE = {
        "write(int)", "wipe()", "fault()", "lay()", "number(int,int)", "person(int,int)", "law(int)",
        "tell(int,int)", "hush()", "words(int)", "say(int)", "speak(int)", "lend(int,int)", "born()",
        "dusk(boolean)", "undo()", "best(int,int,int)", "stuck()", "freed(int)", "order(int)", "deny(int,int)",
        "guard()", "value(int)", "changed()", "ways(int,int,int)", "lowest(int)", "enter(int)", "close()",
        "book(int)", "twice()", "corner(int,int)", "year(int,int,int)", "keep()", "back()", "count(int)"};

    private static final Check CHECK = new Check();

    public static void main(String[] args) {
        CHECK.that("the class is public and final", Modifier.isPublic(TakenNumbers.class.getModifiers())
                && Modifier.isFinal(TakenNumbers.class.getModifiers()));
        CHECK.due("constructors", TakenNumbers.class.getDeclaredConstructors().length, 1);
        methods();
        fields();
        insideClasses();
        CHECK.end();
    }

    private static void methods() {
        Set<String> seen = new TreeSet<>();
        Set<String> publicNames = new TreeSet<>();
        for (Method method : TakenNumbers.class.getDeclaredMethods()) {
            if (method.isSynthetic() || Modifier.isPrivate(method.getModifiers())) {
                continue;
            }
            CHECK.that(method.getName() + " is public, not static, and answers int",
                    method.getReturnType() == int.class && method.getModifiers() == Modifier.PUBLIC);
            seen.add(method.getName() + "(" + typesOf(method) + ")");
            publicNames.add(method.getName());
        }
        CHECK.that("the methods are those of the document: " + seen, seen.equals(new TreeSet<>(Arrays.asList(FACE))));
        for (Method method : TakenNumbers.class.getDeclaredMethods()) {
            CHECK.that("no private method bears the name " + method.getName(),
                    Modifier.isPublic(method.getModifiers()) || !publicNames.contains(method.getName()));
        }
    }

    private static boolean isOfFace(String name) {
        for (String call : FACE) {
            if (call.startsWith(name + "(")) {
                return true;
            }
        }
        return false;
    }

    private static String typesOf(Method method) {
        StringBuilder types = new StringBuilder();
        for (Class<?> type : method.getParameterTypes()) {
            types.append(types.length() == 0 ? "" : ",").append(type.getName());
        }
        return types.toString();
    }

    private static void fields() {
        Set<String> seen = new TreeSet<>();
        for (Field field : TakenNumbers.class.getDeclaredFields()) {
            if (!Modifier.isPrivate(field.getModifiers())) {
                seen.add(field.getName());
            }
            CHECK.that("static fields are final: " + field.getName(),
                    !Modifier.isStatic(field.getModifiers()) || Modifier.isFinal(field.getModifiers()));
        }
        CHECK.that("the constants are those of the document: " + seen,
                seen.equals(new TreeSet<>(Arrays.asList("BAD", "NO", "FULL", "NONE"))));
        CHECK.due("BAD", TakenNumbers.BAD, -1);
        CHECK.due("NO", TakenNumbers.NO, -2);
        CHECK.due("FULL", TakenNumbers.FULL, -3);
        CHECK.due("NONE", TakenNumbers.NONE, -4);
    }

    private static void insideClasses() {
        Class<?>[] inside = TakenNumbers.class.getDeclaredClasses();
        CHECK.that("some twelve classes at most", inside.length <= 12);
        for (Class<?> type : inside) {
            CHECK.that(type.getName() + " is private and static",
                    Modifier.isPrivate(type.getModifiers()) && Modifier.isStatic(type.getModifiers()));
            for (Method method : type.getDeclaredMethods()) {
                CHECK.that("no method of the face inside: " + method.getName(), !isOfFace(method.getName()));
            }
        }
    }
}
