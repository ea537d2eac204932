import java.lang.reflect.Constructor;
import java.lang.reflect.Field;
import java.lang.reflect.Method;
import java.lang.reflect.Modifier;
import java.nio.file.Files;
import java.nio.file.Path;
import java.util.List;
import java.util.Set;
import java.util.TreeSet;
import java.util.regex.Matcher;
import java.util.regex.Pattern;

/** The public face, and those rules of LANGUAGE.md that can be seen in the text of the class. */
public final class LanguageTest {
    private static final Due DUE = new Due();
    private static final List<String> FACE = List.of(
        "part()", "add(int,int)", "where(int,int)", "feed(long,int)", "body(int)", "act(int,int,int)",
        "hear(int,int)", "run(int,int)", "done()", "price(int,int)", "tie(int,int,int)", "allow(int,int,int)",
        "day(int)", "group(int)", "groups()", "ring(int,int,int,int)", "choice()", "chosen(int,int)", "bound()",
        "layer(int)", "worth()", "breaks(long)", "guard(int)", "guarded()", "move(int,int,int)", "split(int,int)",
        "melt(int,int)", "turn(int,int)", "face(int,int)", "pull(int)", "back()", "count(int)");

    public static void main(String[] args) throws Exception {
        methodsAreTheFace();
        fieldsAndConstructors();
        classesInside();
        wordsInTheText();
        DUE.end("LanguageTest");
    }

    private static String head(Method method) {
        StringBuilder head = new StringBuilder(method.getName()).append('(');
        for (Class<?> type : method.getParameterTypes()) {
            head.append(head.charAt(head.length() - 1) == '(' ? "" : ",").append(type.getName());
        }
        return head.append(')').toString();
    }

    private static void methodsAreTheFace() {
        Set<String> open = new TreeSet<>();
        Set<String> publicNames = new TreeSet<>();
        for (Method method : RingUntie.class.getDeclaredMethods()) {
            if (Modifier.isPublic(method.getModifiers())) {
                open.add(head(method));
                publicNames.add(method.getName());
                DUE.holds(head(method) + " answers an int", method.getReturnType() == int.class);
                DUE.holds(head(method) + " is no static one", !Modifier.isStatic(method.getModifiers()));
            } else {
                DUE.holds(head(method) + " is private", Modifier.isPrivate(method.getModifiers()));
            }
        }
        for (Method method : RingUntie.class.getDeclaredMethods()) {
            DUE.holds(head(method) + " bears no public name",
                Modifier.isPublic(method.getModifiers()) || !publicNames.contains(method.getName()));
            DUE.holds(head(method) + " takes seven at most", method.getParameterCount() <= 7);
        }
        DUE.holds("the methods are the face: " + open, open.equals(new TreeSet<>(FACE)));
    }

    private static void fieldsAndConstructors() {
        Set<String> constants = new TreeSet<>();
        for (Field field : RingUntie.class.getDeclaredFields()) {
            if (Modifier.isPublic(field.getModifiers())) {
                constants.add(field.getName());
            } else {
                DUE.holds(field.getName() + " is private", Modifier.isPrivate(field.getModifiers()));
            }
            if (Modifier.isStatic(field.getModifiers())) {
                DUE.holds(field.getName() + " is final", Modifier.isFinal(field.getModifiers()));
            }
        }
        DUE.holds("the constants", constants.equals(Set.of("NONE", "BAD", "STATE", "FULL", "GUARDED", "BIG")));
        Constructor<?>[] all = RingUntie.class.getDeclaredConstructors();
        DUE.holds("one constructor, public, of nothing", all.length == 1
            && Modifier.isPublic(all[0].getModifiers()) && all[0].getParameterCount() == 0);
        DUE.holds("the class is public and final", Modifier.isPublic(RingUntie.class.getModifiers())
            && Modifier.isFinal(RingUntie.class.getModifiers()));
    }

    private static void classesInside() {
        Class<?>[] inside = RingUntie.class.getDeclaredClasses();
        DUE.holds("twelve classes at most", inside.length < 12);
        for (Class<?> one : inside) {
            DUE.holds(one.getName() + " is static", Modifier.isStatic(one.getModifiers()));
            DUE.holds(one.getName() + " is not public", !Modifier.isPublic(one.getModifiers()));
            int fields = 0;
            for (Field field : one.getDeclaredFields()) {
                if (!Modifier.isStatic(field.getModifiers())) {
                    fields++;
                }
            }
            DUE.holds(one.getName() + " has twenty fields at most", fields <= 20);
        }
    }

    private static void wordsInTheText() throws Exception {
        String text = Files.readString(Path.of("src/main/java/RingUntie.java"));
        String code = text.replaceAll("(?s)/\\*.*?\\*/", "").replaceAll("//[^\n]*", "")
            .replaceAll("\"[^\"\n]*\"", "\"\"").replaceAll("'[^'\n]'", "' '");
        for (String word : List.of("throw", "try", "catch", "synchronized", "assert", "import", "package", "var",
                "throws", "finally", "volatile", "native", "transient", "Object", "yield")) {
            DUE.holds("no " + word, !Pattern.compile("\\b" + word + "\\b").matcher(code).find());
        }
        for (String sign : List.of("->", "::", "@", "while (true)", "for (;;)", "Exact(")) {
            DUE.holds("no " + sign, !code.contains(sign));
        }
        Matcher used = Pattern.compile("\\b([A-Z][a-z][A-Za-z]*)\\.([A-Za-z_]+)").matcher(code);
        Set<String> known = Set.of("System.arraycopy", "Math.min", "Program.kindToldBy");
        while (used.find()) {
            DUE.holds(used.group() + " is known", known.contains(used.group()));
        }
        DUE.holds("signs 1 to 127 alone", text.chars().allMatch(c -> c >= 1 && c <= 127));
    }
}
