import java.lang.reflect.Constructor;
import java.lang.reflect.Field;
import java.lang.reflect.Method;
import java.lang.reflect.Modifier;
import java.nio.file.Files;
import java.nio.file.Path;
import java.util.ArrayDeque;
import java.util.ArrayList;
import java.util.Arrays;
import java.util.Deque;
import java.util.IdentityHashMap;
import java.util.List;
import java.util.Map;
import java.util.Set;
import java.util.TreeMap;
import java.util.TreeSet;
import java.util.regex.Matcher;
import java.util.regex.Pattern;

/** The public face, and those rules of LANGUAGE.md that can be seen in the text of the class. */
public final class LanguageTest {
    private static final Due DUE = new Due();
    private static final Path SOURCE = Path.of("src/main/java/RingUntie.java");
    private static final List<String> FACE = List.of(
        "part()", "add(int,int)", "where(int,int)", "feed(long,int)", "body(int)", "act(int,int,int)",
        "hear(int,int)", "run(int,int)", "done()", "price(int,int)", "tie(int,int,int)", "allow(int,int,int)",
        "day(int)", "group(int)", "groups()", "ring(int,int,int,int)", "choice()", "chosen(int,int)", "bound()",
        "layer(int)", "worth()", "breaks(long)", "guard(int)", "guarded()", "move(int,int,int)", "split(int,int)",
        "melt(int,int)", "turn(int,int)", "face(int,int)", "pull(int)", "back()", "count(int)");

    public static void main(String[] args) throws Exception {
        methodsAreTheFace();
        fieldsAndConstructors();
        classesInside();
        wordsInTheText();
        typesOfFields();
        methodsInside();
        lengthsOfMethods();
        depthOfCalls();
        loopsHaveAnEnd();
        objectsThatAreMade();
        roomOfOneObject();
        DUE.end("LanguageTest");
    }

    private static String head(Method method) {
        StringBuilder head = new StringBuilder(method.getName()).append('(');
        for (Class<?> type : method.getParameterTypes()) {
            head.append(head.charAt(head.length() - 1) == '(' ? "" : ",").append(type.getName());
        }
        return head.append(')').toString();
    }

    private static void methodsAreTheFace() {
        Set<String> open = new TreeSet<>();
        Set<String> publicNames = new TreeSet<>();
        for (Method method : RingUntie.class.getDeclaredMethods()) {
            if (Modifier.isPublic(method.getModifiers())) {
                open.add(head(method));
                publicNames.add(method.getName());
                DUE.holds(head(method) + " answers an int", method.getReturnType() == int.class);
                DUE.holds(head(method) + " is no static one", !Modifier.isStatic(method.getModifiers()));
            } else {
                DUE.holds(head(method) + " is private", Modifier.isPrivate(method.getModifiers()));
            }
        }
        for (Method method : RingUntie.class.getDeclaredMethods()) {
            DUE.holds(head(method) + " bears no public name",
                Modifier.isPublic(method.getModifiers()) || !publicNames.contains(method.getName()));
            DUE.holds(head(method) + " takes seven at most", method.getParameterCount() <= 7);
        }
        DUE.holds("the methods are the face: " + open, open.equals(new TreeSet<>(FACE)));
    }

    private static void fieldsAndConstructors() {
        Set<String> constants = new TreeSet<>();
        for (Field field : RingUntie.class.getDeclaredFields()) {
            if (Modifier.isPublic(field.getModifiers())) {
                constants.add(field.getName());
            } else {
                DUE.holds(field.getName() + " is private", Modifier.isPrivate(field.getModifiers()));
            }
            if (Modifier.isStatic(field.getModifiers())) {
                DUE.holds(field.getName() + " is final", Modifier.isFinal(field.getModifiers()));
            }
        }
        DUE.holds("the constants", constants.equals(Set.of("NONE", "BAD", "STATE", "FULL", "GUARDED", "BIG")));
        Constructor<?>[] all = RingUntie.class.getDeclaredConstructors();
        DUE.holds("one constructor, public, of nothing", all.length == 1
            && Modifier.isPublic(all[0].getModifiers()) && all[0].getParameterCount() == 0);
        DUE.holds("the class is public and final", Modifier.isPublic(RingUntie.class.getModifiers())
            && Modifier.isFinal(RingUntie.class.getModifiers()));
    }

    private static void classesInside() {
        Class<?>[] inside = RingUntie.class.getDeclaredClasses();
        DUE.holds("twelve classes at most", inside.length < 12);
        for (Class<?> one : inside) {
            DUE.holds(one.getName() + " is static", Modifier.isStatic(one.getModifiers()));
            DUE.holds(one.getName() + " is not public", !Modifier.isPublic(one.getModifiers()));
            int fields = 0;
            for (Field field : one.getDeclaredFields()) {
                if (!Modifier.isStatic(field.getModifiers())) {
                    fields++;
                }
            }
            DUE.holds(one.getName() + " has twenty fields at most", fields <= 20);
        }
    }

    private static List<Class<?>> allClasses() {
        List<Class<?>> all = new ArrayList<>(List.of(RingUntie.class.getDeclaredClasses()));
        all.add(RingUntie.class);
        return all;
    }

    /** Rules 3, 5, 11: what fields may be, and how many a class has. */
    private static void typesOfFields() {
        Set<Class<?>> constants = Set.of(int.class, long.class, boolean.class, char.class, String.class,
            int[].class, long[].class, char[].class, byte[].class);
        for (Class<?> one : allClasses()) {
            int fields = 0;
            for (Field field : one.getDeclaredFields()) {
                String name = one.getName() + "." + field.getName();
                Class<?> type = field.getType();
                Class<?> inner = type.isArray() ? type.getComponentType() : type;
                if (Modifier.isStatic(field.getModifiers())) {
                    DUE.holds(name + " is a constant", Modifier.isFinal(field.getModifiers()) && constants.contains(type));
                } else {
                    fields++;
                    DUE.holds(name + " is of numbers or of an own class",
                        inner.isPrimitive() || inner.getName().startsWith("RingUntie$"));
                }
            }
            DUE.holds(one.getName() + " has some twenty fields at most", fields <= 20);
        }
    }

    /** Rules 1, 6, 11 for the methods of the classes inside. */
    private static void methodsInside() {
        for (Class<?> one : RingUntie.class.getDeclaredClasses()) {
            for (Method method : one.getDeclaredMethods()) {
                String name = one.getName() + "." + head(method);
                DUE.holds(name + " takes seven at most", method.getParameterCount() <= 7);
                DUE.holds(name + " bears no name of the face",
                    FACE.stream().noneMatch(f -> f.startsWith(method.getName() + "(")));
                DUE.holds(name + " is none of every object's",
                    !List.of("equals", "hashCode", "toString", "finalize").contains(method.getName()));
            }
        }
    }

    /** Rule 11: some sixty lines. A method begins at a line that ends in ") {" behind a type and a name. */
    private static void lengthsOfMethods() throws Exception {
        Pattern begin = Pattern.compile("( +)(?:[a-z]+ )*[A-Za-z\\[\\]]+ ?[a-zA-Z]*\\([^;]*\\) \\{");
        List<String> lines = Files.readAllLines(SOURCE);
        int found = 0;
        for (int i = 0; i < lines.size(); i++) {
            Matcher m = begin.matcher(lines.get(i));
            if (m.matches() && !lines.get(i).matches(" *(if|for|while|switch|else|}).*")) {
                int end = i;
                while (!lines.get(end).equals(m.group(1) + "}")) {
                    end++;
                }
                found++;
                DUE.holds("sixty lines at most from line " + (i + 1), end - i < 60);
            }
        }
        DUE.holds("methods are found: " + found, found > FACE.size());
    }

    /** The text of the class without comments, texts and signs. */
    private static String code() throws Exception {
        return Files.readString(SOURCE).replaceAll("(?s)/\\*.*?\\*/", "").replaceAll("//[^\n]*", "")
            .replaceAll("\"[^\"\n]*\"", "\"\"").replaceAll("'[^'\n]'", "' '");
    }

    private static void wordsInTheText() throws Exception {
        String text = Files.readString(SOURCE);
        String code = code();
        DUE.holds("no texts are joined by +", !Pattern.compile("\"\\s*\\+|\\+\\s*\"").matcher(code).find());
        for (String word : List.of("throw", "try", "catch", "synchronized", "assert", "import", "package", "var",
                "throws", "finally", "volatile", "native", "transient", "Object", "yield")) {
            DUE.holds("no " + word, !Pattern.compile("\\b" + word + "\\b").matcher(code).find());
        }
        for (String sign : List.of("->", "::", "@", "while (true)", "for (;;)", "Exact(")) {
            DUE.holds("no " + sign, !code.contains(sign));
        }
        Matcher used = Pattern.compile("\\b([A-Z][a-z][A-Za-z]*)\\.([A-Za-z_]+)").matcher(code);
        Set<String> known = Set.of("System.arraycopy", "Math.min", "Program.kindToldBy");
        while (used.find()) {
            DUE.holds(used.group() + " is known", known.contains(used.group()));
        }
        DUE.holds("signs 1 to 127 alone", text.chars().allMatch(c -> c >= 1 && c <= 127));
    }

    /** Which names each method calls, by its own name: methods of one name count as one. */
    private static Map<String, Set<String>> callsByName() throws Exception {
        Set<String> names = new TreeSet<>();
        for (Class<?> one : allClasses()) {
            for (Method method : one.getDeclaredMethods()) {
                names.add(method.getName());
            }
        }
        Map<String, Set<String>> calls = new TreeMap<>();
        Matcher m = Pattern.compile("(?m)^( +)(?:\\w+ )*[\\w\\[\\]]+ (\\w+)\\([^;{}]*\\) \\{\\n(?s:(.*?))^\\1\\}").matcher(code());
        while (m.find()) {
            if (names.contains(m.group(2))) {
                Set<String> called = calls.computeIfAbsent(m.group(2), k -> new TreeSet<>());
                Matcher call = Pattern.compile("\\b(\\w+)\\(").matcher(m.group(3));
                while (call.find()) {
                    if (names.contains(call.group(1))) {
                        called.add(call.group(1));
                    }
                }
            }
        }
        DUE.holds("all methods are found: " + names + " / " + calls.keySet(), calls.keySet().equals(names));
        return calls;
    }

    /** Rules 8, 11: only a run calls itself again, 30 levels at most; else calls go eight deep at most. */
    private static void depthOfCalls() throws Exception {
        Map<String, Set<String>> calls = callsByName();
        Set<String> again = new TreeSet<>();
        for (String name : calls.keySet()) {
            if (reached(calls, name).contains(name)) {
                again.add(name);
            }
        }
        DUE.holds("a run alone calls itself: " + again, again.equals(Set.of("work", "perform", "tellHearers")));
        for (String name : calls.keySet()) {
            int depth = depth(calls, again, name);
            DUE.holds(name + " goes " + depth + " deep", depth <= 8);
        }
        DUE.holds("some go deeper than three", depth(calls, again, "body") > 3);
    }

    private static Set<String> reached(Map<String, Set<String>> calls, String from) {
        Set<String> all = new TreeSet<>(calls.get(from));
        int before = 0;
        while (all.size() > before) {
            before = all.size();
            for (String name : List.copyOf(all)) {
                all.addAll(calls.get(name));
            }
        }
        return all;
    }

    private static int depth(Map<String, Set<String>> calls, Set<String> again, String name) {
        int most = 0;
        for (String called : calls.get(name)) {
            if (!again.contains(name) || !again.contains(called)) {
                most = Math.max(most, depth(calls, again, called));
            }
        }
        return most + 1;
    }

    /** Rule 9: each loop counts, up or down, and its head says how far. */
    private static void loopsHaveAnEnd() throws Exception {
        String code = code();
        Matcher all = Pattern.compile("\\b(for|while|do)\\b[^{]*\\{").matcher(code);
        Pattern counts = Pattern.compile("for \\(int (\\w+) = [^;]+; \\1 (?:<|<=|>=) [^;]+; \\1(?:\\+\\+|--)\\) \\{");
        int found = 0;
        while (all.find()) {
            found++;
            DUE.holds("a loop with an end: " + all.group(), counts.matcher(all.group()).matches());
        }
        DUE.holds("loops are found", found > 20);
    }

    /** Rule 12: what is made with the object is used again; a change may need one program more, 20 in all. */
    private static void objectsThatAreMade() throws Exception {
        List<String> others = new ArrayList<>();
        for (String line : code().split("\n")) {
            if (line.matches(".*\\bnew\\b.*") && !line.matches(" +(private )?(final )?[A-Z]?[\\w\\[\\]]+ \\w+ = new [^;]+;")) {
                others.add(line.trim());
            }
        }
        DUE.holds("made elsewhere: " + others,
            others.equals(List.of("return spare == null ? new Program() : spare;")));
    }

    /** All that an object holds behind 512 calls, which is all that it ever made but for two programs. */
    private static void roomOfOneObject() throws Exception {
        RingUntie x = new RingUntie();
        int[] atFirst = room(x);
        x.part();
        x.part();
        x.add(0, 0);
        x.guard(1);
        for (int call = 4; call < 512; call++) {
            switch (call % 4) {
                case 0: x.move(0, 0, 1); break;
                case 1: x.move(0, 0, 0); break;
                case 2: x.choice(); break;
                default: x.bound(); break;
            }
        }
        int[] atLast = room(x);
        DUE.holds("changes were kept", x.count(7) == 20);
        DUE.holds("objects at first: " + atFirst[0], atFirst[0] > 10 && atFirst[0] < 100);
        DUE.holds("objects: " + atLast[0], atLast[0] < 400);
        DUE.holds("fields and elements: " + atLast[1], atLast[1] > atFirst[1] && atLast[1] < 20000);
    }

    private static int[] room(Object root) throws Exception {
        Map<Object, Boolean> seen = new IdentityHashMap<>();
        Deque<Object> open = new ArrayDeque<>(List.of(root));
        int[] sums = new int[2];
        seen.put(root, true);
        while (!open.isEmpty()) {
            Object one = open.pop();
            List<Object> parts = new ArrayList<>();
            sums[0]++;
            if (one instanceof int[]) {
                sums[1] += ((int[]) one).length;
            } else if (one.getClass().isArray()) {
                sums[1] += ((Object[]) one).length;
                parts.addAll(Arrays.asList((Object[]) one));
            } else {
                for (Field field : one.getClass().getDeclaredFields()) {
                    if (!Modifier.isStatic(field.getModifiers())) {
                        sums[1]++;
                        field.setAccessible(true);
                        parts.add(field.getType().isPrimitive() ? null : field.get(one));
                    }
                }
            }
            for (Object part : parts) {
                if (part != null && seen.put(part, true) == null) {
                    open.push(part);
                }
            }
        }
        return sums;
    }
}
