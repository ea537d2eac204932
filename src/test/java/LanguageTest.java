import java.lang.reflect.Constructor;
import java.lang.reflect.Field;
import java.lang.reflect.Method;
import java.lang.reflect.Modifier;
import java.nio.file.Files;
import java.nio.file.Path;
import java.util.ArrayList;
import java.util.List;
import java.util.Set;
import java.util.TreeSet;
import java.util.regex.Matcher;
import java.util.regex.Pattern;

/** The public face, and those rules of LANGUAGE.md that can be seen in the text of the class. */
public final class LanguageTest {
    private static final Due DUE = new Due();
    private static final Path SOURCE = Path.of("src/main/java/RingUntie.java");
    private static final List<String> FACE = List.of(
        "part()", "add(int,int)", "where(int,int)", "feed(long,int)", "body(int)", "act(int,int,int)",
        "hear(int,int)", "run(int,int)", "done()", "price(int,int)", "tie(int,int,int)", "allow(int,int,int)",
        "day(int)", "group(int)", "groups()", "ring(int,int,int,int)", "choice()", "chosen(int,int)", "bound()",
        "layer(int)", "worth()", "breaks(long)", "guard(int)", "guarded()", "move(int,int,int)", "split(int,int)",
        "melt(int,int)", "turn(int,int)", "face(int,int)", "pull(int)", "back()", "count(int)");

    public static void main(String[] args) throws Exception {
        methodsAreTheFace();
        fieldsAndConstructors();
        classesInside();
        wordsInTheText();
        typesOfFields();
        methodsInside();
        lengthsOfMethods();
        DUE.end("LanguageTest");
    }

    private static String head(Method method) {
        StringBuilder head = new StringBuilder(method.getName()).append('(');
        for (Class<?> type : method.getParameterTypes()) {
            head.append(head.charAt(head.length() - 1) == '(' ? "" : ",").append(type.getName());
        }
        return head.append(')').toString();
    }

    private static void methodsAreTheFace() {
        Set<String> open = new TreeSet<>();
        Set<String> publicNames = new TreeSet<>();
        for (Method method : RingUntie.class.getDeclaredMethods()) {
            if (Modifier.isPublic(method.getModifiers())) {
                open.add(head(method));
                publicNames.add(method.getName());
                DUE.holds(head(method) + " answers an int", method.getReturnType() == int.class);
                DUE.holds(head(method) + " is no static one", !Modifier.isStatic(method.getModifiers()));
            } else {
                DUE.holds(head(method) + " is private", Modifier.isPrivate(method.getModifiers()));
            }
        }
        for (Method method : RingUntie.class.getDeclaredMethods()) {
            DUE.holds(head(method) + " bears no public name",
                Modifier.isPublic(method.getModifiers()) || !publicNames.contains(method.getName()));
            DUE.holds(head(method) + " takes seven at most", method.getParameterCount() <= 7);
        }
        DUE.holds("the methods are the face: " + open, open.equals(new TreeSet<>(FACE)));
    }

    private static void fieldsAndConstructors() {
        Set<String> constants = new TreeSet<>();
        for (Field field : RingUntie.class.getDeclaredFields()) {
            if (Modifier.isPublic(field.getModifiers())) {
                constants.add(field.getName());
            } else {
                DUE.holds(field.getName() + " is private", Modifier.isPrivate(field.getModifiers()));
            }
            if (Modifier.isStatic(field.getModifiers())) {
                DUE.holds(field.getName() + " is final", Modifier.isFinal(field.getModifiers()));
            }
        }
        DUE.holds("the constants", constants.equals(Set.of("NONE", "BAD", "STATE", "FULL", "GUARDED", "BIG")));
        Constructor<?>[] all = RingUntie.class.getDeclaredConstructors();
        DUE.holds("one constructor, public, of nothing", all.length == 1
            && Modifier.isPublic(all[0].getModifiers()) && all[0].getParameterCount() == 0);
        DUE.holds("the class is public and final", Modifier.isPublic(RingUntie.class.getModifiers())
            && Modifier.isFinal(RingUntie.class.getModifiers()));
    }

    private static void classesInside() {
        Class<?>[] inside = RingUntie.class.getDeclaredClasses();
        DUE.holds("twelve classes at most", inside.length < 12);
        for (Class<?> one : inside) {
            DUE.holds(one.getName() + " is static", Modifier.isStatic(one.getModifiers()));
            DUE.holds(one.getName() + " is not public", !Modifier.isPublic(one.getModifiers()));
            int fields = 0;
            for (Field field : one.getDeclaredFields()) {
                if (!Modifier.isStatic(field.getModifiers())) {
                    fields++;
                }
            }
            DUE.holds(one.getName() + " has twenty fields at most", fields <= 20);
        }
    }

    private static List<Class<?>> allClasses() {
        List<Class<?>> all = new ArrayList<>(List.of(RingUntie.class.getDeclaredClasses()));
        all.add(RingUntie.class);
        return all;
    }

    /** Rules 3, 5, 11: what fields may be, and how many a class has. */
    private static void typesOfFields() {
        Set<Class<?>> constants = Set.of(int.class, long.class, boolean.class, char.class, String.class,
            int[].class, long[].class, char[].class, byte[].class);
        for (Class<?> one : allClasses()) {
            int fields = 0;
            for (Field field : one.getDeclaredFields()) {
                String name = one.getName() + "." + field.getName();
                Class<?> type = field.getType();
                Class<?> inner = type.isArray() ? type.getComponentType() : type;
                if (Modifier.isStatic(field.getModifiers())) {
                    DUE.holds(name + " is a constant", Modifier.isFinal(field.getModifiers()) && constants.contains(type));
                } else {
                    fields++;
                    DUE.holds(name + " is of numbers or of an own class",
                        inner.isPrimitive() || inner.getName().startsWith("RingUntie$"));
                }
            }
            DUE.holds(one.getName() + " has some twenty fields at most", fields <= 20);
        }
    }

    /** Rules 1, 6, 11 for the methods of the classes inside. */
    private static void methodsInside() {
        for (Class<?> one : RingUntie.class.getDeclaredClasses()) {
            for (Method method : one.getDeclaredMethods()) {
                String name = one.getName() + "." + head(method);
                DUE.holds(name + " takes seven at most", method.getParameterCount() <= 7);
                DUE.holds(name + " bears no name of the face",
                    FACE.stream().noneMatch(f -> f.startsWith(method.getName() + "(")));
                DUE.holds(name + " is none of every object's",
                    !List.of("equals", "hashCode", "toString", "finalize").contains(method.getName()));
            }
        }
    }

    /** Rule 11: some sixty lines. A method begins at a line that ends in ") {" behind a type and a name. */
    private static void lengthsOfMethods() throws Exception {
        Pattern begin = Pattern.compile("( +)(?:[a-z]+ )*[A-Za-z\\[\\]]+ ?[a-zA-Z]*\\([^;]*\\) \\{");
        List<String> lines = Files.readAllLines(SOURCE);
        int found = 0;
        for (int i = 0; i < lines.size(); i++) {
            Matcher m = begin.matcher(lines.get(i));
            if (m.matches() && !lines.get(i).matches(" *(if|for|while|switch|else|}).*")) {
                int end = i;
                while (!lines.get(end).equals(m.group(1) + "}")) {
                    end++;
                }
                found++;
                DUE.holds("sixty lines at most from line " + (i + 1), end - i < 60);
            }
        }
        DUE.holds("methods are found: " + found, found > FACE.size());
    }

    private static void wordsInTheText() throws Exception {
        String text = Files.readString(SOURCE);
        String code = text.replaceAll("(?s)/\\*.*?\\*/", "").replaceAll("//[^\n]*", "")
            .replaceAll("\"[^\"\n]*\"", "\"\"").replaceAll("'[^'\n]'", "' '");
        DUE.holds("no texts are joined by +", !Pattern.compile("\"\\s*\\+|\\+\\s*\"").matcher(code).find());
        for (String word : List.of("throw", "try", "catch", "synchronized", "assert", "import", "package", "var",
                "throws", "finally", "volatile", "native", "transient", "Object", "yield")) {
            DUE.holds("no " + word, !Pattern.compile("\\b" + word + "\\b").matcher(code).find());
        }
        for (String sign : List.of("->", "::", "@", "while (true)", "for (;;)", "Exact(")) {
            DUE.holds("no " + sign, !code.contains(sign));
        }
        Matcher used = Pattern.compile("\\b([A-Z][a-z][A-Za-z]*)\\.([A-Za-z_]+)").matcher(code);
        Set<String> known = Set.of("System.arraycopy", "Math.min", "Program.kindToldBy");
        while (used.find()) {
            DUE.holds(used.group() + " is known", known.contains(used.group()));
        }
        DUE.holds("signs 1 to 127 alone", text.chars().allMatch(c -> c >= 1 && c <= 127));
    }
}
