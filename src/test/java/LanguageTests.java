import java.io.IOException;
import java.lang.reflect.Constructor;
import java.lang.reflect.Field;
import java.lang.reflect.Method;
import java.lang.reflect.Modifier;
import java.nio.file.Files;
import java.nio.file.Path;
import java.util.ArrayList;
import java.util.List;
import java.util.Set;
import java.util.TreeSet;
import java.util.regex.Matcher;
import java.util.regex.Pattern;

/** The face of the class, and those rules of LANGUAGE.md that can be told from names and shapes. */
public final class LanguageTests {
    private static final Path SOURCE = Path.of("src/main/java/MeasureBook.java");
    private static final String[] FACE = {
        "MeasureBook(int)", "NONE int", "alike(int)", "cut(int)", "define()", "digit(int,int)", "digits(int)",
        "ends(int)", "fault()", "faultOf(int)", "feed(int,int,int,int,int)", "forget(int)", "name(int,int)",
        "point(int)", "power(int)", "reckon()", "sign()", "sort(int)", "told(int)", "turn()"
    };
    private static final String[] BANNED = {
        "\\bthrow\\b", "\\bthrows\\b", "\\btry\\b", "\\bcatch\\b", "\\bfinally\\b", "\\bsynchronized\\b", "\\bassert\\b",
        "->", "::", "\\bdouble\\b", "\\bfloat\\b", "Exact\\b", "\\bstatic\\s*\\{", "\\bSystem\\.(?!arraycopy)",
        "\\bThread\\b", "\\bObject\\b", "\\bhashCode\\b", "\\bequals\\b", "\\btoString\\b", "\\bBig", "^package\\b",
        "\\bwhile\\s*\\(true", "for\\s*\\(\\s*;\\s*;"
    };

    public static void main(String[] args) throws IOException {
        face();
        shapes();
        words(bare(Files.readString(SOURCE)));
        Check.end();
    }

    private static void face() {
        Set<String> seen = new TreeSet<>();
        Class<?> main = MeasureBook.class;
        for (Method method : main.getDeclaredMethods()) {
            if (!Modifier.isPrivate(method.getModifiers())) {
                seen.add(method.getName() + types(method.getParameterTypes()));
                Check.due(method + " answers int", method.getReturnType() == int.class ? 1 : 0, 1);
                Check.due(method + " is public", method.getModifiers(), Modifier.PUBLIC);
            }
        }
        for (Constructor<?> constructor : main.getDeclaredConstructors()) {
            seen.add("MeasureBook" + types(constructor.getParameterTypes()));
        }
        for (Field field : main.getDeclaredFields()) {
            if (!Modifier.isPrivate(field.getModifiers())) {
                seen.add(field.getName() + " " + field.getType());
            }
        }
        Check.due("the face " + seen, seen.equals(new TreeSet<>(List.of(FACE))) ? 1 : 0, 1);
        Check.due("the class is public and final", main.getModifiers(), Modifier.PUBLIC | Modifier.FINAL);
    }

    private static String types(Class<?>[] types) {
        List<String> names = new ArrayList<>();
        for (Class<?> type : types) {
            names.add(type.getName());
        }
        return "(" + String.join(",", names) + ")";
    }

    private static void shapes() {
        List<Class<?>> all = new ArrayList<>(List.of(MeasureBook.class.getDeclaredClasses()));
        Set<String> faceNames = new TreeSet<>();
        for (String member : FACE) {
            faceNames.add(member.replaceFirst("\\(.*", ""));
        }
        for (Class<?> inner : all) {
            Check.due(inner + " is static", Modifier.isStatic(inner.getModifiers()) ? 1 : 0, 1);
            Check.due(inner + " holds no class", inner.getDeclaredClasses().length, 0);
            for (Method method : inner.getDeclaredMethods()) {
                Check.due(method + " has a name of its own", faceNames.contains(method.getName()) ? 1 : 0, 0);
            }
        }
        all.add(MeasureBook.class);
        Check.due("twelve classes at most: " + all.size(), all.size() <= 12 ? 1 : 0, 1);
        for (Class<?> type : all) {
            int fields = 0;
            for (Field field : type.getDeclaredFields()) {
                boolean still = Modifier.isStatic(field.getModifiers());
                fields += still ? 0 : 1;
                Check.due(field + " is final if static", !still || Modifier.isFinal(field.getModifiers()) ? 1 : 0, 1);
            }
            Check.due(type + " has twenty fields at most", fields <= 20 ? 1 : 0, 1);
            for (Method method : type.getDeclaredMethods()) {
                Check.due(method + " has seven parameters at most", method.getParameterCount() <= 7 ? 1 : 0, 1);
            }
        }
    }

    /** The source without comments, texts and characters. */
    private static String bare(String source) {
        return source.replaceAll("(?s)/\\*.*?\\*/", "").replaceAll("//[^\n]*", "")
            .replaceAll("\"(?:\\\\.|[^\"\\\\])*\"", "0").replaceAll("'(?:\\\\.|[^'\\\\])'", "0");
    }

    private static void words(String source) {
        for (String banned : BANNED) {
            Matcher m = Pattern.compile(banned, Pattern.MULTILINE).matcher(source);
            Check.due("places with " + banned, m.results().count(), 0);
        }
        Matcher imports = Pattern.compile("(?m)^import (.*);").matcher(source);
        while (imports.find()) {
            Check.due("import of " + imports.group(1), imports.group(1).equals("java.util.Arrays") ? 1 : 0, 1);
        }
        int start = -1;
        String[] lines = source.split("\n");
        for (int i = 0; i < lines.length; i++) {
            if (lines[i].matches(" {4}(?: {4})?[^ }/].*\\) \\{")) {
                start = i;
            } else if (start >= 0 && lines[i].matches(" {4}(?: {4})?\\}") && i - start > 60) {
                Check.due("lines of " + lines[start].trim(), i - start, 60);
            }
        }
    }
}
