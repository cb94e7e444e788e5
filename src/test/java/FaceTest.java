import java.io.IOException;
import java.lang.reflect.Constructor;
import java.lang.reflect.Field;
import java.lang.reflect.Method;
import java.lang.reflect.Modifier;
import java.nio.file.Files;
import java.nio.file.Path;
import java.util.Arrays;
import java.util.Set;
import java.util.TreeSet;
import java.util.regex.Matcher;
import java.util.regex.Pattern;

/** The face is the document's and no more; the source keeps to the words of LANGUAGE.md. */
public final class FaceTest {
    private static final Due DUE = new Due("FaceTest");
    private static final Path PROJECT = Path.of(System.getProperty("project", "."));

    public static void main(String[] args) throws IOException {
        constants();
        faceAsInTheDocument();
        noNameTwice();
        nestedClasses();
        wordsOfTheSource();
        DUE.end();
    }

    private static void constants() {
        DUE.is("BAD", GateSayings.BAD, -1);
        DUE.is("NO", GateSayings.NO, -2);
        DUE.is("FULL", GateSayings.FULL, -3);
        DUE.is("NONE", GateSayings.NONE, -4);
    }

    private static Set<String> promised() throws IOException {
        String document = Files.readString(PROJECT.resolve("../shared/DOC.md"));
        Matcher block = Pattern.compile("```java\n(.*?)```", Pattern.DOTALL).matcher(document);
        Set<String> face = new TreeSet<>();
        if (!block.find()) {
            return face;
        }
        Matcher method = Pattern.compile("public int (\\w+)\\((.*?)\\);").matcher(block.group(1));
        while (method.find()) {
            face.add(method.group(1) + "/" + (method.group(2).isEmpty() ? 0 : method.group(2).split(",").length));
        }
        face.addAll(Set.of("BAD", "NO", "FULL", "NONE", "new/0"));
        return face;
    }

    private static void faceAsInTheDocument() throws IOException {
        Set<String> found = new TreeSet<>();
        for (Method method : GateSayings.class.getDeclaredMethods()) {
            if (!Modifier.isPrivate(method.getModifiers()) && !method.isSynthetic()) {
                boolean plain = method.getModifiers() == Modifier.PUBLIC && method.getReturnType() == int.class
                    && Arrays.stream(method.getParameterTypes()).allMatch(type -> type == int.class);
                found.add((plain ? "" : "not plain: ") + method.getName() + "/" + method.getParameterCount());
            }
        }
        for (Constructor<?> constructor : GateSayings.class.getDeclaredConstructors()) {
            found.add("new/" + constructor.getParameterCount());
        }
        for (Field field : GateSayings.class.getDeclaredFields()) {
            if (!Modifier.isPrivate(field.getModifiers())) {
                found.add(field.getName());
            }
        }
        DUE.text("the face", found.toString(), promised().toString());
        DUE.is("its methods, constants and constructor", found.size(), 29 + 4 + 1);
        DUE.is("public and final", GateSayings.class.getModifiers(), Modifier.PUBLIC | Modifier.FINAL);
    }

    private static void noNameTwice() {
        Set<String> open = new TreeSet<>();
        for (Method method : GateSayings.class.getDeclaredMethods()) {
            if (Modifier.isPublic(method.getModifiers())) {
                open.add(method.getName());
            }
        }
        for (Method method : GateSayings.class.getDeclaredMethods()) {
            boolean hidden = Modifier.isPrivate(method.getModifiers());
            DUE.is("private bearer of " + method.getName(), hidden && open.contains(method.getName()) ? 1 : 0, 0);
        }
    }

    private static void nestedClasses() {
        Class<?>[] nested = GateSayings.class.getDeclaredClasses();
        DUE.is("at most twelve classes", nested.length < 12 ? 1 : 0, 1);
        for (Class<?> one : nested) {
            int modifiers = one.getModifiers();
            DUE.is(one.getName() + " is static", Modifier.isStatic(modifiers) ? 1 : 0, 1);
            DUE.is(one.getName() + " is hidden", modifiers & (Modifier.PUBLIC | Modifier.PROTECTED), 0);
            for (Field field : one.getDeclaredFields()) {
                boolean changes = Modifier.isStatic(field.getModifiers()) && !Modifier.isFinal(field.getModifiers());
                DUE.is(field + " is static state", changes ? 1 : 0, 0);
            }
        }
    }

    private static void wordsOfTheSource() throws IOException {
        String source = Files.readString(PROJECT.resolve("src/main/java/GateSayings.java"));
        String code = source.replaceAll("(?s)/\\*.*?\\*/", " ").replaceAll("//[^\n]*", " ")
            .replaceAll("\"[^\"\n]*\"", "\"\"").replaceAll("'\\\\?.'", "' '");
        String[] barred = {
            "\\bthrows?\\b", "\\btry\\b", "\\bcatch\\b", "\\bfinally\\b", "\\bsynchronized\\b", "\\bassert\\b", "->", "::",
            "\\bimport\\b", "\\bpackage\\b", "\\bprotected\\b", "\\bvolatile\\b", "\\btransient\\b", "\\bnative\\b",
            "\\bvar\\b", "\\bhashCode\\b", "\\btoString\\b", "\\bequals\\b", "\\bgetClass\\b", "\\bObject\\b", "@",
            "\\bstatic\\s*\\{", "\\bSystem\\.(?!arraycopy\\b)", "\\bMath\\.(?!abs\\b|max\\b|min\\b)",
            "\\bInteger\\.(?!bitCount\\b|compare\\b)", "Exact\\b", "Exception", "\\bwhile\\s*\\(\\s*true", "\\bdo\\b",
        };
        for (String word : barred) {
            Matcher found = Pattern.compile(word).matcher(code);
            DUE.is("barred: " + word, found.find() ? 1 : 0, 0);
        }
        DUE.is("signs of the source", source.chars().allMatch(sign -> sign < 127) ? 1 : 0, 1);
    }
}
