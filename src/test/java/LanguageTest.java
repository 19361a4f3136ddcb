import java.io.IOException;
import java.lang.reflect.Field;
import java.lang.reflect.Method;
import java.lang.reflect.Modifier;
import java.nio.charset.StandardCharsets;
import java.nio.file.Files;
import java.nio.file.Paths;
import java.util.Arrays;
import java.util.HashSet;
import java.util.Set;
import java.util.regex.Matcher;
import java.util.regex.Pattern;

/** What of ../shared/LANGUAGE.md can be seen from the file's words and the class's members. */
public final class LanguageTest {
    private static final String[] RULED_OUT = {"->", "::", "\\bimport (?!java\\.util\\.(Arrays|ArrayList|List);)",
        "\\bpackage\\b", "\\bsynchronized\\b", "\\bassert\\b", "\\bfinally\\b", "\\bcatch\\s*\\(\\s*(Throwable|Exception|"
        + "RuntimeException|NullPointer|ArrayIndex|Arithmetic|ClassCast|NegativeArray|ArrayStore|IndexOutOf)",
        "\\bSystem\\.(?!arraycopy)", "\\bMath\\.\\w+Exact\\b", "\\bRandom\\b", "\\bThread\\b", "\\bprotected\\b",
        "\\bstrictfp\\b", "\\bnative\\b", "\\bvolatile\\b", "\\btransient\\b", "\\bstatic\\s*\\{", "\\bNaN\\b",
        "\\bwhile\\s*\\(true\\)", "\\bfor\\s*\\(;;\\)", "\\bhashCode\\b", "\\btoString\\b", "\" *\\+|\\+ *\""};
    /** What of the library may be named at all; of the program's own classes no static member is a library's. */
    private static final Set<String> LIBRARY = new HashSet<>(Arrays.asList("System.arraycopy", "Arrays.copyOf",
        "Arrays.copyOfRange", "Arrays.fill", "Math.max", "Math.min", "Math.abs", "Math.floorDiv", "Math.floorMod",
        "Integer.compare", "Integer.max", "Integer.min", "Integer.bitCount", "Long.compare", "Long.max", "Long.min",
        "Long.bitCount", "List.of"));
    private static final Set<String> FACE = new HashSet<>(Arrays.asList("person", "guest", "birth", "death", "back",
        "skill", "move", "house", "about", "home", "fault", "vote", "repeal", "found", "force", "may", "law", "post",
        "open", "hands", "filled", "store", "rank", "order", "due", "set", "pays", "earn", "weather", "sky", "weeks",
        "record", "worth", "lack", "plan", "image", "restore", "count", "keep", "row", "put", "element", "copy",
        "weight", "toss"));
    private static int wrong = 0;

    private static void fault(String what) {
        wrong++;
        System.out.println(what);
    }

    public static void main(String[] args) throws IOException {
        String file = args.length > 0 ? args[0] : "src/main/java/IslandOffice.java";
        String text = new String(Files.readAllBytes(Paths.get(file)), StandardCharsets.ISO_8859_1);
        words(text.replaceAll("(?s)/\\*.*?\\*/", "").replaceAll("//[^\n]*", ""));
        methodsAreShort(text);
        face();
        classes();
        System.out.println(wrong == 0 ? "the language is kept to" : wrong + " faults");
        if (wrong != 0) {
            System.exit(1);
        }
    }

    private static void words(String code) {
        for (String out : RULED_OUT) {
            Matcher m = Pattern.compile(out).matcher(code);
            if (m.find()) {
                fault("ruled out: " + m.group());
            }
        }
        Matcher named = Pattern.compile("\\b(System|Arrays|Math|Integer|Long|Short|Byte|Character|Boolean|String|Double|"
            + "Float|List|Objects|Collections)\\.\\w+").matcher(code.replaceAll("import [^;]*;", ""));
        while (named.find()) {
            if (!LIBRARY.contains(named.group())) {
                fault("not in the library that stands there: " + named.group());
            }
        }
        for (char c : code.toCharArray()) {
            if (c > 126) {
                fault("a letter above 126");
                return;
            }
        }
    }

    private static void methodsAreShort(String text) {
        String[] lines = text.split("\n", -1);
        int from = -1;
        String indent = "";
        for (int i = 0; i < lines.length; i++) {
            if (from < 0 && lines[i].matches(" {4,8}[\\w<>\\[\\] ]+\\(.*\\{") && !lines[i].contains(" class ")) {
                from = i;
                indent = lines[i].replaceAll("\\S.*", "");
            } else if (from >= 0 && lines[i].equals(indent + "}")) {
                if (i - from > 60) {
                    fault("a method of " + (i - from) + " lines from line " + (from + 1) + " on");
                }
                from = -1;
            }
        }
    }

    private static void face() {
        Set<String> found = new HashSet<>();
        for (Method m : IslandOffice.class.getDeclaredMethods()) {
            boolean open = Modifier.isPublic(m.getModifiers());
            if (open) {
                found.add(m.getName());
            }
            if (open != FACE.contains(m.getName()) || !open && !Modifier.isPrivate(m.getModifiers())) {
                fault("not of the face, or not private: " + m);
            }
            if (open && m.getReturnType() != (m.getName().equals("element") ? long.class : int.class)) {
                fault("answers another type: " + m);
            }
        }
        if (!found.equals(FACE)) {
            fault("the face is not whole: " + found);
        }
        for (Field f : IslandOffice.class.getDeclaredFields()) {
            if (!Modifier.isPrivate(f.getModifiers())) {
                fault("not private: " + f);
            }
        }
    }

    private static void classes() {
        Class<?>[] inside = IslandOffice.class.getDeclaredClasses();
        if (inside.length > 12) {
            fault(inside.length + " classes inside");
        }
        for (Class<?> c : inside) {
            if (!Modifier.isStatic(c.getModifiers()) || Modifier.isPublic(c.getModifiers())) {
                fault("not static, or public: " + c);
            }
            int fields = 0;
            for (Field f : c.getDeclaredFields()) {
                fields += Modifier.isStatic(f.getModifiers()) ? 0 : 1;
                if (Modifier.isStatic(f.getModifiers()) && !Modifier.isFinal(f.getModifiers())) {
                    fault("static, not final: " + f);
                }
            }
            if (fields > 20) {
                fault(c + " has " + fields + " fields");
            }
            for (Method m : c.getDeclaredMethods()) {
                if (FACE.contains(m.getName()) || m.getParameterCount() > 7) {
                    fault("a name of the face, or too many parameters: " + m);
                }
            }
        }
    }
}
