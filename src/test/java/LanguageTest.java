import java.io.IOException;
import java.nio.charset.StandardCharsets;
import java.nio.file.Files;
import java.nio.file.Path;
import java.util.Arrays;
import java.util.HashSet;
import java.util.List;
import java.util.Set;
import java.util.TreeSet;
import java.lang.reflect.Method;
import java.lang.reflect.Modifier;
import java.util.regex.Matcher;
import java.util.regex.Pattern;

/** Those rules of LANGUAGE.md that a look at the source and at the class can tell. */
public final class LanguageTest {
    private static final Due DUE = new Due("LanguageTest");
    private static final List<String> NEVER = List.of("->", "::", "\\btry\\b", "\\bcatch\\b", "\\bfinally\\b", "\\bassert\\b",
            "\\bsynchronized\\b", "\\bfloat\\b", "\\bdouble\\b", "\\binstanceof\\b", "while \\(true\\)", "for \\(;;", "\\bnull\\b",
            "System\\.(?!arraycopy)", "Arrays\\.(?!fill|copyOf|copyOfRange)", "Exact\\(", "\\bpackage\\b", "\\bprotected\\b",
            "Random", "Thread", "toString", "hashCode");

    public static void main(String[] args) throws IOException {
        String source = Files.readString(Path.of("src/main/java/DiceRing.java"), StandardCharsets.US_ASCII);
        words(source);
        methodsAreShort(source);
        theFace();
        namesOfTheFaceAreItsOwn();
        DUE.end();
    }

    private static void words(String source) {
        String code = source.replaceAll("(?s)/\\*.*?\\*/", "").replaceAll("//[^\n]*", "");
        for (String never : NEVER) {
            Matcher found = Pattern.compile(never).matcher(code);
            DUE.is("source has " + never, found.find(), false);
        }
        Matcher statics = Pattern.compile("\\bstatic (?!final|int |long |boolean |void )").matcher(code);
        DUE.is("a static that is not final", statics.find(), false);
        DUE.is("classes are at most twelve", code.split("\\bclass\\b").length - 1 <= 12, true);
        Set<String> imports = new TreeSet<>();
        Matcher imported = Pattern.compile("import ([\\w.]+);").matcher(code);
        while (imported.find()) {
            imports.add(imported.group(1));
        }
        DUE.is("imports", imports.equals(Set.of("java.util.Arrays", "java.util.NoSuchElementException")), true);
    }

    private static void methodsAreShort(String source) {
        int longest = 0;
        for (String part : source.split("\n    \\}\n|\n        \\}\n")) {
            longest = Math.max(longest, part.split("\n").length);
        }
        DUE.is("longest method is above 60 lines: " + longest, longest > 60, false);
    }

    private static void theFace() {
        Set<String> face = new HashSet<>();
        for (Method method : DiceRing.class.getDeclaredMethods()) {
            if (!Modifier.isPrivate(method.getModifiers()) && !method.isSynthetic()) {
                face.add(method.getName());
                DUE.is(method + " is public", Modifier.isPublic(method.getModifiers()), true);
            }
        }
        DUE.is("methods of the face", face.size(), 32);
        DUE.is("fields of the face", Arrays.stream(DiceRing.class.getDeclaredFields())
                .filter(field -> !Modifier.isPrivate(field.getModifiers())).count(), 1);
        DUE.is("the class is final", Modifier.isFinal(DiceRing.class.getModifiers()), true);
    }

    private static void namesOfTheFaceAreItsOwn() {
        Set<String> face = new HashSet<>();
        for (Method method : DiceRing.class.getMethods()) {
            face.add(method.getName());
        }
        for (Class<?> inner : DiceRing.class.getDeclaredClasses()) {
            DUE.is(inner + " is static", Modifier.isStatic(inner.getModifiers()), true);
            DUE.is(inner + " has at most twenty fields", Arrays.stream(inner.getDeclaredFields())
                    .filter(field -> !Modifier.isStatic(field.getModifiers())).count() <= 20, true);
            for (Method method : inner.getDeclaredMethods()) {
                DUE.is(method + " bears a name of the face", face.contains(method.getName()), false);
                DUE.is(method + " takes more than seven", method.getParameterCount() > 7, false);
            }
        }
    }
}
