import java.io.IOException;
import java.lang.reflect.Constructor;
import java.lang.reflect.Field;
import java.lang.reflect.Method;
import java.lang.reflect.Modifier;
import java.nio.charset.StandardCharsets;
import java.nio.file.Files;
import java.nio.file.Path;
import java.util.ArrayList;
import java.util.Arrays;
import java.util.HashSet;
import java.util.List;
import java.util.Map;
import java.util.Set;
import java.util.TreeMap;
import java.util.TreeSet;
import java.util.regex.Matcher;
import java.util.regex.Pattern;

/** What of LANGUAGE.md can be seen in the program's text and class files. Argument: the text's path. */
public final class PayHouseLanguage {
    private static final String[] FORBIDDEN = {
        "\\btry\\b", "\\bcatch\\b", "\\bfinally\\b", "\\bsynchronized\\b", "\\bassert\\b", "->", "::",
        "Exact\\b", "\\bSystem\\.(?!arraycopy)", "\\bpackage\\b", "\\bString\\b", "\\bThread\\b", "\\bObject\\b",
        "\\bequals\\b(?!N)", "\\bhashCode\\b", "\\btoString\\b", "\\bHashMap\\b", "\\bnative\\b", "\\bvolatile\\b",
        "\"\\s*\\+", "\\+\\s*\"", "@"
    };

    // The arrays that grow, and those that show what was written or is being read.
    private static final Set<String> REPLACED = Set.of("amounts", "keys", "differences", "output", "bytes");

    private static int wrong = 0;

    public static void main(String[] args) throws IOException {
        Path path = Path.of(args.length > 0 ? args[0] : "src/main/java/PayHouse.java");
        String text = Files.readString(path, StandardCharsets.ISO_8859_1);
        signs(text);
        String code = withoutComments(text);
        words(code);
        exceptions(code);
        lengths(text);
        new Depths(code).check();
        face(text);
        classes();
        references(new PayHouse(), "PayHouse", new HashSet<>());
        System.out.println(wrong == 0 ? "the program keeps to the language" : wrong + " faults of language");
        if (wrong != 0) {
            System.exit(1);
        }
    }

    private static void fault(String what) {
        wrong++;
        System.out.println(what);
    }

    private static String withoutComments(String text) {
        return text.replaceAll("(?s)/\\*.*?\\*/", "").replaceAll("//[^\n]*", "");
    }

    private static void signs(String text) {
        for (int i = 0; i < text.length(); i++) {
            char sign = text.charAt(i);
            if (sign != '\n' && (sign < 32 || sign > 126)) {
                fault("the sign " + (int) sign + " at " + i);
            }
        }
    }

    private static void words(String code) {
        for (String pattern : FORBIDDEN) {
            Matcher matcher = Pattern.compile(pattern).matcher(code);
            if (matcher.find()) {
                fault("the text holds " + matcher.group());
            }
        }
        Matcher imports = Pattern.compile("import ([\\w.*]+);").matcher(code);
        Set<String> allowed = Set.of("java.util.Arrays", "java.util.NoSuchElementException");
        while (imports.find()) {
            if (!allowed.contains(imports.group(1))) {
                fault("import of " + imports.group(1));
            }
        }
        Matcher library = Pattern.compile("\\b(Arrays|Math|Integer|Long)\\.(\\w+)").matcher(code);
        Set<String> calls = Set.of("Arrays.copyOf", "Arrays.fill", "Math.min", "Math.max", "Math.abs", "Math.floorDiv");
        while (library.find()) {
            if (!calls.contains(library.group())) {
                fault("the library's " + library.group());
            }
        }
    }

    private static void exceptions(String code) {
        Matcher throwing = Pattern.compile("\\bthrow\\b[^;]*;").matcher(code);
        Pattern form = Pattern.compile("throw new (IllegalStateException|IllegalArgumentException"
                + "|IndexOutOfBoundsException|NoSuchElementException)\\(\"[^\"]*\"\\);");
        while (throwing.find()) {
            if (!form.matcher(throwing.group()).matches()) {
                fault(throwing.group());
            }
        }
    }

    // Methods of the class stand 4 blanks in, those of the classes inside it 8.
    private static void lengths(String text) {
        String[] lines = text.split("\n");
        for (int i = 0; i < lines.length; i++) {
            Matcher head = Pattern.compile("( {4}| {8})\\w[^=;]*\\([^;]*\\{?").matcher(lines[i]);
            if (head.matches()) {
                String end = head.group(1) + "}";
                int last = i;
                while (last < lines.length && !lines[last].equals(end)) {
                    last++;
                }
                if (last - i > 60) {
                    fault("the method at line " + (i + 1) + " has " + (last - i) + " lines");
                }
            }
        }
    }

    /** How deep calls go that are no recursion: methods by their names, those of one recursion as one. */
    private static final class Depths {
        private static final int MOST = 8;
        private final Map<String, Set<String>> calls = new TreeMap<>();
        private final Map<String, List<String>> known = new TreeMap<>();

        Depths(String code) {
            Pattern heads = Pattern.compile("(?m)^( {4}| {8})(?!static final class|private static final class)"
                    + "(?:[\\w\\[\\]]+ )+(\\w+)\\([^;{]*\\{$");
            Map<String, StringBuilder> bodies = new TreeMap<>();
            Matcher head = heads.matcher(code);
            while (head.find()) {
                int end = code.indexOf("\n" + head.group(1) + "}", head.end());
                bodies.computeIfAbsent(head.group(2), name -> new StringBuilder()).append(code, head.end(), end);
            }
            Pattern call = Pattern.compile("(Math\\.|Arrays\\.)?\\b(\\w+)\\(");
            for (Map.Entry<String, StringBuilder> one : bodies.entrySet()) {
                Set<String> called = new TreeSet<>();
                Matcher matcher = call.matcher(one.getValue());
                while (matcher.find()) {
                    if (matcher.group(1) != null) {
                        called.add("the library");
                    } else if (bodies.containsKey(matcher.group(2))) {
                        called.add(matcher.group(2));
                    }
                }
                calls.put(one.getKey(), called);
            }
            calls.put("the library", Set.of());
        }

        void check() {
            int methods = calls.size() - 1;
            if (methods < 150) {
                fault("only " + methods + " methods were found");
            }
            for (String name : calls.keySet()) {
                List<String> path = deepest(name);
                if (path.size() > MOST) {
                    fault("calls are open at once: " + path);
                }
            }
        }

        private boolean reaches(String from, String to, Set<String> seen) {
            for (String next : calls.get(from)) {
                if (next.equals(to) || seen.add(next) && reaches(next, to, seen)) {
                    return true;
                }
            }
            return false;
        }

        private List<String> deepest(String name) {
            Set<String> together = new TreeSet<>(Set.of(name));
            for (String other : calls.keySet()) {
                if (reaches(name, other, new TreeSet<>()) && reaches(other, name, new TreeSet<>())) {
                    together.add(other);
                }
            }
            List<String> best = List.of();
            for (String one : together) {
                for (String next : calls.get(one)) {
                    if (!together.contains(next)) {
                        List<String> path = known.containsKey(next) ? known.get(next) : deepest(next);
                        known.put(next, path);
                        best = path.size() > best.size() ? path : best;
                    }
                }
            }
            List<String> all = new ArrayList<>(List.of(name));
            all.addAll(best);
            return all;
        }

    }

    // The document's declarations stand in the text word for word, in their order, and there are no others.
    private static void face(String text) throws IOException {
        String document = Files.readString(Path.of("../shared/DOC.md"), StandardCharsets.UTF_8);
        String head = "public final class PayHouse {\n";
        int from = document.indexOf(head) + head.length();
        Set<String> due = new TreeSet<>();
        String words = text.replaceAll("\\s+", " ");
        int at = words.indexOf(head.trim());
        for (String line : document.substring(from, document.indexOf("\n}", from)).split("\n")) {
            String one = line.trim();
            Matcher method = Pattern.compile("public (\\w+) (\\w+)\\((.*?)\\)(?: throws (.*))?;").matcher(one);
            if (method.matches()) {
                due.add(signature(method.group(1), method.group(2), method.group(3).replaceAll(" \\w+(,|$)", "$1"),
                        method.group(4) == null ? "" : method.group(4)));
            }
            int next = words.indexOf(one.contains("(") ? one.replace(";", " {") : one, at + 1);
            if (next < 0) {
                fault("not in the text, or not in its place: " + one);
            } else {
                at = next;
            }
        }
        if (due.size() != 51) {
            fault("the document's face has " + due.size() + " methods");
        }
        members(due);
    }

    private static String signature(String type, String name, String parameters, String exceptions) {
        String[] thrown = exceptions.split(", ");
        Arrays.sort(thrown);
        return type + " " + name + "(" + parameters + ") throws " + String.join(", ", thrown);
    }

    private static String signature(Method method) {
        List<String> parameters = new ArrayList<>();
        for (Class<?> type : method.getParameterTypes()) {
            parameters.add(type.getSimpleName());
        }
        List<String> thrown = new ArrayList<>();
        for (Class<?> type : method.getExceptionTypes()) {
            thrown.add(type.getSimpleName());
        }
        return signature(method.getReturnType().getSimpleName(), method.getName(), String.join(", ", parameters),
                String.join(", ", thrown));
    }

    private static void members(Set<String> due) {
        Set<String> got = new TreeSet<>();
        Set<String> publicNames = new TreeSet<>();
        Set<String> others = new TreeSet<>();
        for (Method method : PayHouse.class.getDeclaredMethods()) {
            if (Modifier.isPublic(method.getModifiers())) {
                got.add(signature(method));
                publicNames.add(method.getName());
            } else {
                others.add(method.getName());
                if (!Modifier.isPrivate(method.getModifiers())) {
                    fault("not private: " + method);
                }
            }
        }
        for (Class<?> inside : PayHouse.class.getDeclaredClasses()) {
            for (Method method : inside.getDeclaredMethods()) {
                others.add(method.getName());
            }
        }
        if (!got.equals(due)) {
            fault("the face is " + got);
        }
        others.retainAll(publicNames);
        if (!others.isEmpty()) {
            fault("public names are borne by others: " + others);
        }
        for (Field field : PayHouse.class.getDeclaredFields()) {
            boolean none = field.getName().equals("NONE");
            if (none != Modifier.isPublic(field.getModifiers()) || !none && !Modifier.isPrivate(field.getModifiers())) {
                fault("field " + field);
            }
        }
        if (PayHouse.NONE != -1) {
            fault("NONE is " + PayHouse.NONE);
        }
        Constructor<?>[] constructors = PayHouse.class.getDeclaredConstructors();
        if (constructors.length != 1 || !Modifier.isPublic(constructors[0].getModifiers())
                || !Modifier.isFinal(PayHouse.class.getModifiers())) {
            fault("the constructor, or a class that is not final");
        }
    }

    // A field that holds a reference holds one from the first, and is final, but for some arrays of numbers.
    private static void references(Object holder, String where, Set<Object> seen) {
        for (Field field : holder.getClass().getDeclaredFields()) {
            Class<?> type = field.getType();
            if (!type.isPrimitive() && !Modifier.isStatic(field.getModifiers())) {
                String name = where + "." + field.getName();
                Object held = held(holder, field);
                if (held == null) {
                    fault(name + " is null in a new object");
                } else if (!type.isArray() && seen.add(held)) {
                    references(held, name, seen);
                }
            }
        }
    }

    private static void finals(Class<?> one) {
        for (Field field : one.getDeclaredFields()) {
            Class<?> type = field.getType();
            boolean numbers = type.isArray() && type.getComponentType().isPrimitive();
            if (!type.isPrimitive() && !Modifier.isFinal(field.getModifiers())
                    && !(numbers && REPLACED.contains(field.getName()))) {
                fault("not final: " + field);
            }
        }
    }

    private static Object held(Object holder, Field field) {
        try {
            field.setAccessible(true);
            return field.get(holder);
        } catch (IllegalAccessException e) {
            throw new IllegalStateException(e);
        }
    }

    private static void classes() {
        List<Class<?>> all = new ArrayList<>(List.of(PayHouse.class.getDeclaredClasses()));
        all.add(PayHouse.class);
        if (all.size() > 12) {
            fault(all.size() + " classes");
        }
        for (Class<?> one : all) {
            finals(one);
            int fields = 0;
            for (Field field : one.getDeclaredFields()) {
                boolean constant = Modifier.isStatic(field.getModifiers());
                fields += constant ? 0 : 1;
                if (constant && !Modifier.isFinal(field.getModifiers())) {
                    fault("static " + field);
                }
            }
            if (fields > 20) {
                fault(one + " has " + fields + " fields");
            }
            for (Method method : one.getDeclaredMethods()) {
                if (method.getParameterCount() > 7) {
                    fault("too many parameters: " + method);
                }
            }
            if (one != PayHouse.class && !Modifier.isStatic(one.getModifiers())) {
                fault("not static: " + one);
            }
        }
    }
}
