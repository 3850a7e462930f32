import java.io.IOException;
import java.lang.reflect.Constructor;
import java.lang.reflect.Field;
import java.lang.reflect.Method;
import java.lang.reflect.Modifier;
import java.nio.file.Files;
import java.nio.file.Path;
import java.util.ArrayList;
import java.util.Arrays;
import java.util.List;
import java.util.Map;
import java.util.Set;
import java.util.TreeMap;
import java.util.TreeSet;
import java.util.regex.Matcher;
import java.util.regex.Pattern;
import java.util.stream.Collectors;

/** The document's face, and the rules of LANGUAGE.md that can be seen by reflection or in the file. */
public final class LanguageTest {
    private static final Path SOURCE = Path.of("src/main/java/NightSounds.java");
    private static final Path DOCUMENT = Path.of("../shared/DOC.md");
    private static int wrong = 0;

    public static void main(String[] args) throws IOException {
        face();
        members();
        signs();
        library();
        methods();
        rooms();
        depth();
        System.out.println(wrong == 0 ? "the language is kept to" : wrong + " rules are broken");
        System.exit(wrong == 0 ? 0 : 1);
    }

    private static void must(boolean kept, String rule) {
        if (!kept) {
            wrong++;
            System.out.println(rule);
        }
    }

    private static List<Class<?>> classes() {
        List<Class<?>> all = new ArrayList<>(List.of(NightSounds.class));
        all.addAll(Arrays.asList(NightSounds.class.getDeclaredClasses()));
        return all;
    }

    private static String names(Class<?>[] types) {
        return Arrays.stream(types).map(Class::getSimpleName).collect(Collectors.joining(", "));
    }

    /** Rule 1: the public methods are just those that the document writes down, with what they throw. */
    private static void face() throws IOException {
        Set<String> due = new TreeSet<>();
        Matcher line = Pattern.compile("    public (int|long) (\\w+)\\(([^)]*)\\)(?: throws ([\\w, ]+))?;")
                .matcher(Files.readString(DOCUMENT));
        while (line.find()) {
            String types = line.group(3).replaceAll("(int|long) \\w+", "$1");
            due.add(line.group(1) + " " + line.group(2) + "(" + types + ") " + (line.group(4) == null ? "" : line.group(4)));
        }
        Set<String> got = new TreeSet<>();
        for (Method m : NightSounds.class.getDeclaredMethods()) {
            must(Modifier.isPublic(m.getModifiers()) || Modifier.isPrivate(m.getModifiers()), "1: " + m);
            if (Modifier.isPublic(m.getModifiers())) {
                got.add(m.getReturnType() + " " + m.getName() + "(" + names(m.getParameterTypes()) + ") "
                        + names(m.getExceptionTypes()));
            }
        }
        must(due.size() == 36, "1: the document has 36 methods, read were " + due.size());
        must(due.equals(got), "1: the face is " + got + ", due is " + due);
        Constructor<?>[] made = NightSounds.class.getDeclaredConstructors();
        must(made.length == 1 && made[0].getParameterCount() == 0 && Modifier.isPublic(made[0].getModifiers()),
                "1: one public constructor");
        must(Modifier.isFinal(NightSounds.class.getModifiers()), "1: final");
    }

    /** Rules 1, 2, 5, 11: names, what is visible, static fields, how many there are. */
    private static void members() {
        Set<String> open = Arrays.stream(NightSounds.class.getDeclaredMethods())
                .filter(m -> Modifier.isPublic(m.getModifiers())).map(Method::getName).collect(Collectors.toSet());
        must(classes().size() <= 12, "11: twelve classes");
        for (Class<?> c : classes()) {
            must(c == NightSounds.class || Modifier.isStatic(c.getModifiers()), "2: static: " + c);
            must(c == NightSounds.class || Modifier.isPrivate(c.getModifiers()), "1: private: " + c);
            for (Method m : c.getDeclaredMethods()) {
                must(Modifier.isPublic(m.getModifiers()) || !open.contains(m.getName()), "1: its name is public: " + m);
                must(m.getParameterCount() <= 7, "11: seven parameters: " + m);
            }
            int fields = 0;
            for (Field f : c.getDeclaredFields()) {
                boolean isConstant = Modifier.isStatic(f.getModifiers());
                fields += isConstant ? 0 : 1;
                must(!isConstant || Modifier.isFinal(f.getModifiers()), "5: final: " + f);
                must(Modifier.isPrivate(f.getModifiers()) || f.getName().equals("NONE"), "1: private: " + f);
            }
            must(fields <= 20, "11: twenty fields: " + c);
        }
    }

    private static String code() throws IOException {
        String code = Files.readString(SOURCE).replaceAll("(?s)/\\*.*?\\*/", "");
        return code.replaceAll("\"[^\"\n]*\"", "\"\"").replaceAll("//[^\n]*", "");
    }

    /** Rules 2, 3, 4, 6, 13: what must not stand in the file. */
    private static void signs() throws IOException {
        String code = code();
        String[] none = {
            "->", "::", "\\w+Exact\\b", "\\bfinally\\b", "\\bsynchronized\\b", "\\bassert\\b", "\\btry\\b", "\\bcatch\\b",
            "\\bvar\\b", "\\bThread\\b", "\\bRandom\\b", "\\bdouble\\b", "\\bfloat\\b", "^package\\b", "static \\{",
            "\\bSystem\\.(?!arraycopy)", "\\.(hashCode|toString|equals|format|stream|split)\\(", "\\bObject\\b",
            "\\[\\]\\[\\]\\[\\]", "\\bprotected\\b"};
        for (String sign : none) {
            must(!Pattern.compile(sign, Pattern.MULTILINE).matcher(code).find(), "stands in the file: " + sign);
        }
        Matcher thrown = Pattern.compile("throw ([^;]*);").matcher(code);
        while (thrown.find()) {
            must(thrown.group(1).matches("new (IllegalArgument|IndexOutOfBounds|NoSuchElement)Exception\\(\"\"\\)"),
                    "6: " + thrown.group());
        }
        Matcher imported = Pattern.compile("import ([^;]*);").matcher(code);
        while (imported.find()) {
            must(List.of("java.util.Arrays", "java.util.NoSuchElementException").contains(imported.group(1)),
                    "4: " + imported.group());
        }
    }

    /** Rule 4: of the library's classes only the functions that it lists, and none of their constants. */
    private static void library() throws IOException {
        Set<String> listed = Set.of("Math.max", "Math.min", "Math.abs", "Arrays.fill", "System.arraycopy");
        Matcher used = Pattern.compile("(?<![.\\w])[A-Z][a-z]\\w*\\.\\w+").matcher(
                code().replaceAll("import [^;]*;", ""));
        while (used.find()) {
            must(listed.contains(used.group()), "4: " + used.group());
        }
        for (String name : List.of("Integer", "Long", "Boolean", "Character", "StringBuilder", "List", "ArrayList")) {
            must(!Pattern.compile("\\b" + name + "\\b").matcher(code()).find(), "4: " + name);
        }
    }

    /** Rule 11: methods stay short. */
    private static void methods() throws IOException {
        int start = 0;
        String[] lines = Files.readString(SOURCE).split("\n");
        for (int i = 0; i < lines.length; i++) {
            must(lines[i].length() <= 130, "a long line: " + (i + 1));
            if (lines[i].matches(" {4,8}(public|private) .*[({,]") || lines[i].matches(" {4,8}(public|private).*\\)")) {
                start = i;
            }
            if (lines[i].matches(" {4,8}\\}")) {
                must(i - start < 60 || lines[i].matches(" {4}\\}"), "11: a long method ends at " + (i + 1));
            }
        }
    }

    /** Rule 12: all rows are made with the object; a call makes nothing but what it throws. */
    private static void rooms() throws IOException {
        Set<String> inConstructors = Set.of("airs[i] = new Air();", "images[i] = new Mind();");
        for (String line : code().split("\n")) {
            String plain = line.trim();
            boolean fine = plain.startsWith("throw new ") || plain.startsWith("private final ")
                    || plain.matches("private Land \\w+ = new Land\\(\\);") || inConstructors.contains(plain);
            must(!plain.contains("new ") || fine, "12: made by a call: " + plain);
        }
    }

    /** Each method or constructor of the file, by its class and name, with its body. */
    private static Map<String, String> bodies() throws IOException {
        Map<String, String> bodies = new TreeMap<>();
        String inside = "";
        String name = "";
        Pattern head = Pattern.compile("^ {4,8}(?:public|private) (?:static )?(?:[\\w\\[\\]]+ )?(\\w+)\\(.*");
        Pattern type = Pattern.compile("^.*\\bclass (\\w+) \\{$");
        for (String line : code().split("\n")) {
            Matcher declared = type.matcher(line);
            Matcher begun = head.matcher(line);
            if (declared.matches()) {
                inside = declared.group(1);
                name = "";
            } else if (begun.matches()) {
                name = inside + "." + begun.group(1);
                must(bodies.put(name, "") == null, "a method of that name stands there twice: " + name);
            } else if (!name.isEmpty()) {
                bodies.merge(name, line + "\n", String::concat);
            }
        }
        return bodies;
    }

    /** The class that a call's receiver is of: what stands ahead of the name tells it here. */
    private static String classOf(String receiver, String inside) {
        switch (receiver.replaceAll("^.*\\.|\\[.*", "")) {
            case "": case "this": return inside;
            case "tape": return "Tape";
            case "now": case "spare": case "trial": case "asTold": case "land": return "Land";
            case "airs": case "air": return "Air";
            case "mind": case "images": return "Mind";
            case "sounds": return "Sounds";
            case "beam": return "Ray";
            case "list": case "Math": case "Arrays": case "System": return "library";
            default:
                must(false, "of which class is " + receiver + "?");
                return "";
        }
    }

    /** Which methods a method calls; a constructor, "new X(..)", is none of them but X.X. */
    private static Set<String> calls(String inside, String body, Map<String, String> bodies) {
        Set<String> calls = new TreeSet<>();
        Matcher call = Pattern.compile("(new )?([\\w.]+(?:\\[\\w+\\])?\\.)?\\b([A-Za-z]\\w*)\\(").matcher(body);
        while (call.find()) {
            String name = call.group(3);
            boolean isSign = Set.of("if", "for", "while", "switch", "return").contains(name);
            String receiver = call.group(2) == null ? "" : call.group(2).substring(0, call.group(2).length() - 1);
            if (call.group(1) != null || isSign) {
                continue;
            }
            String where = classOf(receiver, inside);
            boolean isOuter = receiver.isEmpty() && !bodies.containsKey(where + "." + name);
            String full = (isOuter ? "NightSounds" : where) + "." + name;
            must(where.equals("library") || bodies.containsKey(full), "what is called by " + call.group() + "?");
            calls.add(full);
        }
        return calls;
    }

    private static int depthOf(String method, Map<String, String> bodies, List<String> open) {
        List<String> chain = new ArrayList<>(open);
        chain.add(method);
        if (open.contains(method) || chain.size() > 8) {
            must(false, (open.contains(method) ? "8: calls itself: " : "11: more than eight deep: ") + chain);
            return chain.size();
        }
        int deepest = chain.size();
        String inside = method.substring(0, method.indexOf('.'));
        for (String next : calls(inside, bodies.getOrDefault(method, ""), bodies)) {
            deepest = Math.max(deepest, depthOf(next, bodies, chain));
        }
        return deepest;
    }

    /** Rules 8, 11: no recursion, and calls at most eight deep, those of the library too. */
    private static void depth() throws IOException {
        Map<String, String> bodies = bodies();
        int deepest = 0;
        for (String method : bodies.keySet()) {
            deepest = Math.max(deepest, depthOf(method, bodies, List.of()));
        }
        must(deepest == 8, "the deepest chain that was read has " + deepest + " calls, NOTES.md tells one of 8");
    }
}
