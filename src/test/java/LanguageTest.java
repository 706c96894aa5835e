import java.io.IOException;
import java.lang.reflect.Constructor;
import java.lang.reflect.Field;
import java.lang.reflect.Method;
import java.lang.reflect.Modifier;
import java.nio.file.Files;
import java.nio.file.Path;
import java.util.ArrayList;
import java.util.List;
import java.util.Set;
import java.util.TreeSet;
import java.util.regex.Matcher;
import java.util.regex.Pattern;

/** The face that the document tells, and what can be looked at of ../shared/LANGUAGE.md. */
public final class LanguageTest {
    private static final String PROGRAM = "src/main/java/WoundEggs.java";

    private static final String[] FACE = {
        "int egg(int,int,int,int)", "int of(int,int)", "int set(int,int,int)",
        "int smash(int,boolean)", "int listen(int)", "int row(int,int,int)", "int feed(int)",
        "int store()", "int told(int)", "int pass(int)", "int on(int,int)", "long often(int,long)",
        "long together(int,int)", "int busy(int,int)", "int hear(int,int,boolean)",
        "int can(int,int,int)", "long odds(int)", "long mean(int,int)", "int plan(int,int)",
        "int ends(int)", "int book(int,int)", "int looked()", "int judge(int,int)", "int image()",
        "int undo()", "int act(int,int,int)", "int trace(int)", "int taken(int,int)",
        "int count(int)", "int tape(int,int,int)", "int item(int,int,long)", "long read(int,int)",
        "int shift(int,int,int,int,int)"
    };

    private static final String[] FORBIDDEN = {
        "\\bthrow\\b", "\\bthrows\\b", "\\btry\\b", "\\bcatch\\b", "\\bfinally\\b",
        "\\bsynchronized\\b", "\\bassert\\b", "->", "::", "\\bpackage\\b", "Exact\\b",
        "\\bObject\\b", "\\bequals\\b", "\\bhashCode\\b", "\\btoString\\b", "\\bMap\\b", "\\bSet\\b",
        "\\bRandom\\b", "\\bSystem\\.(?!arraycopy\\b)", "\\bThread\\b", "\\bvar\\b", "\\bnative\\b",
        "\\bwhile *\\(true\\)", "\\bfor *\\( *;", "\"[^\"]*\" *\\+", "\\+ *\""
    };

    public static void main(String[] args) throws IOException {
        face();
        members(WoundEggs.class);
        Class<?>[] inside = WoundEggs.class.getDeclaredClasses();
        Due.isTrue("some twelve classes", inside.length < 12);
        for (Class<?> c : inside) {
            Due.isTrue(c + " is static and not public", Modifier.isStatic(c.getModifiers())
                && !Modifier.isPublic(c.getModifiers()) && !Modifier.isProtected(c.getModifiers()));
            members(c);
        }
        String source = Files.readString(Path.of(PROGRAM));
        words(source);
        lengths(source);
        Due.end();
    }

    private static String told(Method m) {
        StringBuilder made = new StringBuilder(m.getReturnType() + " " + m.getName() + "(");
        for (Class<?> type : m.getParameterTypes()) {
            made.append(made.charAt(made.length() - 1) == '(' ? "" : ",").append(type);
        }
        return made.append(')').toString();
    }

    private static void face() {
        int modifiers = WoundEggs.class.getModifiers();
        Due.isTrue("public and final", Modifier.isPublic(modifiers) && Modifier.isFinal(modifiers));
        Set<String> methods = new TreeSet<>();
        Set<String> hidden = new TreeSet<>();
        for (Method m : WoundEggs.class.getDeclaredMethods()) {
            if (Modifier.isPrivate(m.getModifiers())) {
                hidden.add(m.getName());
            } else if (!m.isSynthetic()) {
                methods.add(told(m));
                Due.isTrue(m + " is public and no static",
                    Modifier.isPublic(m.getModifiers()) && !Modifier.isStatic(m.getModifiers()));
            }
        }
        Due.isTrue("the methods are those of the face: " + methods,
            methods.equals(new TreeSet<>(List.of(FACE))));
        for (String one : FACE) {
            Due.isTrue("no private method " + one,
                !hidden.contains(one.substring(one.indexOf(' ') + 1, one.indexOf('('))));
        }
        Set<String> constants = new TreeSet<>();
        for (Field f : WoundEggs.class.getDeclaredFields()) {
            if (!Modifier.isPrivate(f.getModifiers())) {
                constants.add(f.toString());
            }
        }
        String of = "public static final ";
        Due.isTrue("the constants are those of the face: " + constants,
            constants.equals(new TreeSet<>(List.of(of + "int WoundEggs.NONE",
                of + "int WoundEggs.BAD", of + "int WoundEggs.STATE", of + "int WoundEggs.FULL",
                of + "long WoundEggs.NO"))));
        Constructor<?>[] constructors = WoundEggs.class.getDeclaredConstructors();
        Due.isTrue("one public constructor", constructors.length == 1
            && Modifier.isPublic(constructors[0].getModifiers())
            && constructors[0].getParameterCount() == 0);
    }

    private static void members(Class<?> c) {
        int fields = 0;
        for (Field f : c.getDeclaredFields()) {
            if (Modifier.isStatic(f.getModifiers())) {
                Due.isTrue(f + " is final", Modifier.isFinal(f.getModifiers()));
                Due.isTrue(f + " is of a type for constants", Set.of(int.class, long.class,
                    boolean.class, char.class, String.class, int[].class, long[].class,
                    char[].class, byte[].class).contains(f.getType()));
            } else {
                fields++;
            }
        }
        Due.isTrue(c + " has some twenty fields", fields <= 20);
        for (Method m : c.getDeclaredMethods()) {
            Due.isTrue(m + " takes at most seven", m.getParameterCount() <= 7);
        }
    }

    private static void words(String source) {
        String bare = source.replaceAll("(?s)/\\*.*?\\*/", "").replaceAll("//[^\n]*", "");
        for (String word : FORBIDDEN) {
            Matcher matcher = Pattern.compile(word).matcher(bare);
            Due.isTrue("without " + word, !matcher.find());
        }
        Matcher imports = Pattern.compile("import ([^;]*);").matcher(bare);
        while (imports.find()) {
            Due.isTrue("import " + imports.group(1), Set.of("java.util.Arrays",
                "java.util.ArrayList", "java.util.List", "java.util.Iterator")
                .contains(imports.group(1)));
        }
        Due.isTrue("signs 1 to 127 alone", source.chars().allMatch(c -> c > 0 && c < 128));
    }

    /** A method starts and ends with lines that are indented alike. */
    private static void lengths(String source) {
        List<String> lines = new ArrayList<>(source.lines().toList());
        Pattern start = Pattern.compile("^(    |        )(?! )[^=]*\\) \\{$");
        for (int i = 0; i < lines.size(); i++) {
            Matcher matcher = start.matcher(lines.get(i));
            if (matcher.find()) {
                int end = lines.subList(i, lines.size()).indexOf(matcher.group(1) + "}");
                Due.isTrue(lines.get(i).strip() + " is short", end > 0 && end <= 60);
            }
        }
    }
}
