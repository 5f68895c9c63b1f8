import java.io.IOException;
import java.lang.reflect.Array;
import java.lang.reflect.Field;
import java.lang.reflect.Modifier;
import java.nio.file.Files;
import java.nio.file.Path;
import java.util.Arrays;
import java.util.Collections;
import java.util.HashSet;
import java.util.IdentityHashMap;
import java.util.List;
import java.util.Set;
import java.util.regex.Matcher;
import java.util.regex.Pattern;

/** What of LANGUAGE.md can be seen in the source, and how much room an object takes; rule 1 is FaceTest's. */
public final class LanguageTest {
    private static final Check CHECK = new Check();
    private static final Path SOURCE = Path.of("src/main/java/TakenNumbers.java");

    /** What the class has no need of; the rules forbid most of it, and bind the rest. */
    private static final List<String> WORDS_LEFT_OUT = List.of("import", "package", "try", "catch", "throw", "throws", "finally",
            "synchronized", "assert", "instanceof", "double", "float", "equals", "hashCode", "toString", "getClass", "null",
            "protected", "volatile", "transient", "native", "var", "yield", "Object", "Override", "SuppressWarnings");

    private static final Set<String> LIBRARY = new HashSet<>(List.of("Math.max", "Math.min", "Integer.bitCount", "System.arraycopy"));

    public static void main(String[] args) throws IOException {
        String code = withoutCommentsAndTexts(Files.readString(SOURCE));
        signs(Files.readString(SOURCE));
        words(code);
        library(code);
        loops(code);
        methods(code);
        madeInConstructorsAlone(code);
        fieldsOfEachClass();
        room();
        CHECK.end();
    }

    /** Comments and what stands between quotes become blanks; the lines stay. */
    private static String withoutCommentsAndTexts(String source) {
        Matcher matcher = Pattern.compile("/\\*.*?\\*/|//[^\\n]*|\"[^\"\\n]*\"|'[^'\\n]'", Pattern.DOTALL).matcher(source);
        return matcher.replaceAll(found -> found.group().replaceAll("[^\\n]", " "));
    }

    /** Rule 4: "constants, whose signs are 1 to 127" */
    private static void signs(String source) {
        CHECK.that("all signs are of ASCII", source.chars().allMatch(sign -> sign > 0 && sign < 127));
    }

    private static void words(String code) {
        for (String word : WORDS_LEFT_OUT) {
            CHECK.that("no " + word, !Pattern.compile("\\b" + word + "\\b").matcher(code).find());
        }
        CHECK.that("no lambda", !code.contains("->"));
        CHECK.that("no method reference", !code.contains("::"));
        CHECK.that("no annotation", !code.contains("@"));
    }

    /** Rules 3 and 4: names with a capital are constants, classes of its own, or of the library that is used. */
    private static void library(String code) {
        Set<String> own = new HashSet<>();
        for (Class<?> type : TakenNumbers.class.getDeclaredClasses()) {
            own.add(type.getSimpleName());
        }
        own.addAll(List.of("TakenNumbers", "String"));
        Matcher matcher = Pattern.compile("\\b([A-Z]\\w*[a-z]\\w*)(\\.\\w+)?").matcher(code);
        while (matcher.find()) {
            boolean known = own.contains(matcher.group(1)) || LIBRARY.contains(matcher.group());
            CHECK.that(matcher.group() + " is its own, or of the library that is used", known);
        }
        Matcher texts = Pattern.compile("\\bFIRST_TEXT\\.(\\w+)").matcher(code);
        while (texts.find()) {
            CHECK.that("of a text: " + texts.group(1), List.of("length", "charAt").contains(texts.group(1)));
        }
    }

    /** Rule 9: each loop has a bound in its own line. */
    private static void loops(String code) {
        Matcher matcher = Pattern.compile("\\b(for|while) \\((.*)\\) \\{").matcher(code);
        int seen = 0;
        while (matcher.find()) {
            seen++;
            String head = matcher.group(2);
            CHECK.that("a bound: " + head, head.contains(" : ") || Pattern.compile("[<>]=? ").matcher(head).find());
        }
        int all = 0;
        Matcher any = Pattern.compile("\\b(for|while|do)\\b").matcher(code);
        while (any.find()) {
            all++;
        }
        CHECK.due("loops that were looked at", seen, all);
    }

    /** Rule 11: seven parameters at most, some sixty lines at most. */
    private static void methods(String code) {
        String[] lines = code.split("\n");
        Pattern head = Pattern.compile("^( {4}| {8})(?:[\\w\\[\\]]+ )*(\\w+)\\((.*)\\) \\{$");
        int seen = 0;
        for (int k = 0; k < lines.length; k++) {
            Matcher matcher = head.matcher(lines[k]);
            if (matcher.matches() && !List.of("for", "if", "while", "switch").contains(matcher.group(2))) {
                seen++;
                int end = k;
                while (end < lines.length && !lines[end].equals(matcher.group(1) + "}")) {
                    end++;
                }
                CHECK.that(matcher.group(2) + " is of sixty lines at most", end - k < 60);
                CHECK.that(matcher.group(2) + " takes seven at most", matcher.group(3).split(",").length <= 7);
            }
        }
        CHECK.that("methods were seen", seen > 80);
    }

    /** The room of a run is one: no call makes anything, so that it does not matter how many there are. */
    private static void madeInConstructorsAlone(String code) {
        Pattern field = Pattern.compile("^ +(private |final )+[\\w\\[\\]]+ \\w+ = new [^;]*;$");
        List<String> inConstructors = List.of("days = new Day[Math.max(1, room)];", "days[k] = new Day();");
        for (String line : code.split("\n")) {
            if (Pattern.compile("\\bnew\\b").matcher(line).find()) {
                CHECK.that("made once: " + line.trim(), field.matcher(line).matches() || inConstructors.contains(line.trim()));
            }
            CHECK.that("no copies: " + line.trim(), !line.contains(".clone(") && !line.contains("copyOf"));
        }
    }

    /** Rules 5 and 11: static fields are final, a class has some twenty others at most. */
    private static void fieldsOfEachClass() {
        for (Class<?> type : TakenNumbers.class.getDeclaredClasses()) {
            int fields = 0;
            for (Field field : type.getDeclaredFields()) {
                boolean constant = Modifier.isStatic(field.getModifiers());
                fields += constant ? 0 : 1;
                CHECK.that(type.getSimpleName() + "." + field.getName() + " is a final int", !constant
                        || Modifier.isFinal(field.getModifiers()) && field.getType() == int.class);
            }
            CHECK.that(type.getSimpleName() + " has few fields", fields <= 20);
        }
    }

    /** Some 600,000 objects, 7.3 million fields and elements: a hundredth of that is enough, also behind 512 calls. */
    private static void room() {
        TakenNumbers port = new TakenNumbers();
        long[] made = roomOf(port);
        CHECK.that("objects and arrays: " + made[0], made[0] <= 6000);
        CHECK.that("fields and elements: " + made[1], made[1] <= 73000);
        for (char letter : "n24;p99;p98;p50;p7;p7;p1;h3,2;k3,1,1;".toCharArray()) {
            port.write(letter);
        }
        port.lay();
        for (int k = 0; k < 40; k++) {
            port.speak(k % 6);
            port.born();
            port.keep();
            port.deny(2, 0);
            port.order(-1);
            port.corner(k % 6, 0);
            port.enter(1 << k % 24);
            port.book(-1);
            port.tell(k % 24 + 1, 1);
            port.dusk(k % 2 == 0);
        }
        CHECK.that("as much as before", Arrays.equals(roomOf(port), made));
    }

    private static long[] roomOf(Object object) {
        long[] counts = new long[2];
        walk(object, counts, Collections.newSetFromMap(new IdentityHashMap<>()));
        return counts;
    }

    private static void walk(Object object, long[] counts, Set<Object> seen) {
        if (object == null || !seen.add(object)) {
            return;
        }
        counts[0]++;
        if (object.getClass().isArray()) {
            counts[1] += Array.getLength(object);
            for (int k = 0; k < Array.getLength(object) && !object.getClass().getComponentType().isPrimitive(); k++) {
                walk(Array.get(object, k), counts, seen);
            }
            return;
        }
        for (Field field : object.getClass().getDeclaredFields()) {
            if (!Modifier.isStatic(field.getModifiers())) {
                counts[1]++;
                walkField(object, field, counts, seen);
            }
        }
    }

    private static void walkField(Object object, Field field, long[] counts, Set<Object> seen) {
        if (field.getType().isPrimitive()) {
            return;
        }
        try {
            field.setAccessible(true);
            walk(field.get(object), counts, seen);
        } catch (IllegalAccessException e) {
            CHECK.that("can be looked at: " + field.getName(), false);
        }
    }
}
