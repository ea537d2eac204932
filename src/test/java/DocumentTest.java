import java.lang.reflect.Field;
import java.lang.reflect.Method;
import java.lang.reflect.Modifier;
import java.nio.file.Files;
import java.nio.file.Path;
import java.util.ArrayList;
import java.util.Arrays;
import java.util.List;
import java.util.Random;
import java.util.Set;
import java.util.TreeSet;
import java.util.regex.Matcher;
import java.util.regex.Pattern;

/**
 * The document from its first line on: each of its words is held by a test of its promise's number (Says),
 * or says nothing of an answer. What no other test held has its tests here.
 */
public final class DocumentTest extends Edges {
    private static final Path DOCUMENT = Path.of("../shared/DOC.md");
    private static final List<Class<?>> TESTS = List.of(EdgesProgramTest.class, EdgesTiesTest.class,
        EdgesLayersTest.class, EdgesUndoingTest.class, DocumentTest.class);
    private static final int PROMISES = 33;
    // Where the calls stand in the interface: nothing that a call answers.
    private static final String HEADLINES = "Ahead of the calls [^.]* the interface says: ---- [a-z, ]+\\.";

    public static void main(String[] args) throws Exception {
        if (Files.isReadable(DOCUMENT)) {
            eachWordIsHeld();
        } else {
            System.out.println("no document at " + DOCUMENT + ": its words are not looked at");
        }
        runAll(DocumentTest.class, 1, 1);
    }

    // ---- the words of the document

    /** Words of the document, and which of them some test holds. */
    private static final class Stretch {
        final String name;
        final String text;
        final boolean[] held;

        Stretch(String name, String text) {
            this.name = name;
            this.text = text.replaceAll("```[a-z]*", " ").replaceAll("={8} \\d ", " ").replaceAll("\\s+", " ").trim();
            held = new boolean[this.text.length()];
        }

        boolean hold(String words) {
            boolean found = false;
            for (int at = text.indexOf(words); at >= 0; at = text.indexOf(words, at + 1)) {
                if (!joins(at - 1) && !joins(at + words.length() - 1)) {
                    Arrays.fill(held, at, at + words.length(), true);
                    found = true;
                }
            }
            return found;
        }

        /** Whether a word goes on from a place to the next one. */
        private boolean joins(int at) {
            return at >= 0 && at + 1 < text.length() && Character.isLetterOrDigit(text.charAt(at))
                && Character.isLetterOrDigit(text.charAt(at + 1));
        }

        List<String> held(boolean are) {
            List<String> found = new ArrayList<>();
            StringBuilder row = new StringBuilder();
            for (int i = 0; i <= held.length; i++) {
                if (i < held.length && held[i] == are) {
                    row.append(text.charAt(i));
                } else {
                    if (row.chars().anyMatch(Character::isLetterOrDigit)) {
                        found.add(row.toString().trim());
                    }
                    row.setLength(0);
                }
            }
            return found;
        }
    }

    private static String section(String document, String title) {
        Matcher m = Pattern.compile("(?ms)^## " + title + "$(.*?)(?=^## |\\z)").matcher(document);
        holds("the document has '" + title + "'", m.find());
        return m.group(1);
    }

    private static void eachWordIsHeld() throws Exception {
        String document = Files.readString(DOCUMENT);
        Stretch terms = new Stretch("the terms",
            (section(document, "What it is") + section(document, "Terms")).replaceAll(HEADLINES, " "));
        List<Stretch> promises = new ArrayList<>();
        for (int n = 1; n <= PROMISES; n++) {
            // Ahead of what is promised stands the head of the call, which the public face has.
            promises.add(new Stretch("promise " + n,
                section(document, "Promise " + n + ": [^\n]*").replaceFirst("`[^`]*`:", " ")));
        }
        holds("no promise behind " + PROMISES, !document.contains("## Promise " + (PROMISES + 1)));
        for (Class<?> tests : TESTS) {
            for (Method test : tests.getDeclaredMethods()) {
                Says says = test.getAnnotation(Says.class);
                if (says != null) {
                    holdWords(test.getName(), says.value(), promises, terms);
                }
            }
        }
        promises.add(terms);
        for (Stretch one : promises) {
            holds(one.name + ": no test holds " + one.held(false), one.held(false).isEmpty());
        }
    }

    private static void holdWords(String test, String[] all, List<Stretch> promises, Stretch terms) {
        holds(test + " bears its promise's number", test.matches("p\\d\\d_.*"));
        Stretch own = promises.get(Integer.parseInt(test.substring(1, 3)) - 1);
        for (String words : all) {
            holds(test + ": '" + words + "' is not in the document", own.hold(words) || terms.hold(words));
        }
    }

    // ---- the public face

    static void p01_theFaceIsTheDocuments() throws Exception {
        if (!Files.isReadable(DOCUMENT)) {
            return;
        }
        String face = section(Files.readString(DOCUMENT), "The public face");
        Set<String> due = new TreeSet<>();
        Matcher calls = Pattern.compile("public int (\\w+)\\(([^)]*)\\);").matcher(face);
        while (calls.find()) {
            due.add(calls.group(1) + "(" + calls.group(2).replaceAll(" \\w+(,|$)", "$1").replace(" ", "") + ")");
        }
        Set<String> got = new TreeSet<>();
        for (Method method : RingUntie.class.getDeclaredMethods()) {
            if (!Modifier.isPrivate(method.getModifiers())) {
                String types = Arrays.toString(method.getParameterTypes()).replaceAll("[\\[\\] ]", "");
                got.add(method.getName() + "(" + types + ")");
            }
        }
        holds("calls " + got + ", due are " + due, got.equals(due));
        is("how many calls", got.size(), PROMISES - 1);
        constantsAreTheDocuments(face);
    }

    private static void constantsAreTheDocuments(String face) throws Exception {
        Matcher line = Pattern.compile("public static final int ([^;]*);").matcher(face);
        holds("constants", line.find());
        Set<String> due = new TreeSet<>(List.of(line.group(1).split(", ")));
        Set<String> got = new TreeSet<>();
        for (Field field : RingUntie.class.getDeclaredFields()) {
            if (!Modifier.isPrivate(field.getModifiers())) {
                got.add(field.getName() + " = " + field.getInt(null));
            }
        }
        holds("constants " + got + ", due are " + due, got.equals(due));
    }

    // ---- ties

    @Says("Price of a sort (0 CALL, 1 FIELD, 2 NEWS, 3 FACE):")
    static void p11_eachSortIsThePriceOfItsTies() {
        RingUntie x = Due.withParts(6);
        x.add(FIELD, 1);
        x.add(NEWS, 2);
        body(x, 0, "get 0;news 0;call 3;odd 4");
        x.hear(0, 5);
        x.face(0, 3);
        for (int sort = 0; sort < 4; sort++) {
            x.price(sort, 10 + sort);
        }
        is("a field", x.tie(0, 1, 1), 11);
        is("a news", x.tie(0, 2, 1), 12);
        is("a hearer", x.tie(5, 2, 1), 12);
        is("a call", x.tie(0, 3, 1), 10);
        is("an odd, of a face routine", x.tie(0, 6, 1), 10);
        is("a face", x.tie(4, 6, 1), 13);
    }

    @Says({
        "By how many ACTS, HEARERS, FACES p NEEDS q (what 0), PRICE of the TIE (1; 0: none).",
        "PRICE of a TIE: the number of these ACTS, HEARERS, FACES, each times the price of its sort"})
    static void p12_allSortsInOneTie() {
        RingUntie x = Due.withParts(2);
        x.add(ROUTINE, 0);
        x.add(FIELD, 1);
        x.add(NEWS, 1);
        body(x, 0, "call 1;odd 1;put 0;get 0;get 0;news 0");
        x.hear(0, 0);
        body(x, 1, "call 2");
        x.face(1, 0);
        is("the face comes to part 1", x.melt(1, 2), 2);
        int[] prices = {2, 3, 5, 7};
        for (int sort = 0; sort < 4; sort++) {
            x.price(sort, prices[sort]);
        }
        is("2 calls, 3 fields, 2 news, a face", x.tie(0, 1, 0), 8);
        is("each times its price", x.tie(0, 1, 1), 2 * 2 + 3 * 3 + 2 * 5 + 7);
        for (int sort = 0; sort < 4; sort++) {
            x.price(sort, 0);
            is("as many, whatever they cost", x.tie(0, 1, 0), 8);
        }
        is("for nothing", x.tie(0, 1, 1), 0);
    }

    // ---- the choice, beside the bound

    /** Calls by chance, one routine a part; ten acts are the most that each can have. */
    private static int[][] randomCalls(Random random, int parts, int most) {
        int[][] calls = new int[parts][parts];
        for (int p = 0; p < parts; p++) {
            for (int k = random.nextInt(most + 1); k > 0; k--) {
                int q = random.nextInt(parts);
                if (q != p) {
                    calls[p][q]++;
                }
            }
        }
        return calls;
    }

    private static RingUntie withCalls(int[][] calls) {
        RingUntie x = Due.withParts(calls.length);
        for (int p = 0; p < calls.length; p++) {
            StringBuilder text = new StringBuilder();
            for (int q = 0; q < calls.length; q++) {
                for (int k = 0; k < calls[p][q]; k++) {
                    text.append(text.length() == 0 ? "" : ";").append("call ").append(q);
                }
            }
            body(x, p, text.toString());
        }
        return x;
    }

    private static boolean hasRing(int[][] calls) {
        boolean[] gone = new boolean[calls.length];
        for (int round = 0; round < calls.length; round++) {
            for (int p = 0; p < calls.length; p++) {
                boolean needs = false;
                for (int q = 0; q < calls.length; q++) {
                    needs |= !gone[q] && calls[p][q] > 0;
                }
                gone[p] |= !needs;
            }
        }
        for (boolean is : gone) {
            if (!is) {
                return true;
            }
        }
        return false;
    }

    /** What the cheapest ties cost whose going leaves no ring: all sets of ties are tried. */
    private static int cheapest(int[][] calls, int from) {
        if (!hasRing(calls)) {
            return 0;
        }
        int best = Integer.MAX_VALUE / 2;
        for (int at = from; at < calls.length * calls.length; at++) {
            int p = at / calls.length, q = at % calls.length, n = calls[p][q];
            if (n > 0) {
                calls[p][q] = 0;
                best = Math.min(best, n + cheapest(calls, at + 1));
                calls[p][q] = n;
            }
        }
        return best;
    }

    @Says("the cheapest ties whose going leaves none,")
    static void p18_noneAreCheaper() {
        Random random = new Random(18);
        for (int round = 0; round < 60; round++) {
            int[][] calls = randomCalls(random, 2 + random.nextInt(3), 5);
            int price = random.nextInt(4);
            RingUntie x = withCalls(calls);
            x.price(0, price);
            is(Arrays.deepToString(calls), x.choice(), price * cheapest(calls, 0));
        }
    }

    @Says("the cheapest ties whose going leaves none,")
    static void p19_withoutThemNoRingIsLeft() {
        Random random = new Random(19);
        for (int round = 0; round < 60; round++) {
            int[][] calls = randomCalls(random, 2 + random.nextInt(9), 5);
            RingUntie x = withCalls(calls);
            List<Integer> chosen = new ArrayList<>();
            int cost = 0;
            for (int i = 0; x.chosen(1, i) != NONE; i++) {
                chosen.add(x.chosen(1, i));
                cost += x.tie(chosen.get(i) / 10, chosen.get(i) % 10, 1);
            }
            is("they cost as much as the choice", cost, x.choice());
            holds("there are some if there is a ring", chosen.isEmpty() != hasRing(calls));
            for (int tie : chosen) {
                x.allow(tie / 10, tie % 10, 1);
            }
            is("groups()", x.groups(), 0);
            is("choice()", x.choice(), 0);
        }
    }

    @Says("beside a bound;")
    static void p20_isNeverAboveTheChoice() {
        Random random = new Random(20);
        int below = 0;
        for (int round = 0; round < 200; round++) {
            RingUntie x = withCalls(randomCalls(random, 2 + random.nextInt(9), 10));
            int bound = x.bound(), choice = x.choice();
            holds(bound + " is not above " + choice, bound <= choice);
            holds("0 only if there is no ring", bound > 0 == x.groups() > 0);
            below += bound < choice ? 1 : 0;
        }
        holds("sometimes it is below", below > 0);
    }

    // ---- every run ends as before

    /** Routine p of part p, and 4 in part 0: acts of all sorts over parts, and no run that is big. */
    private static RingUntie fourParts() {
        RingUntie x = Due.withParts(4);
        x.add(ROUTINE, 0);
        x.add(FIELD, 3);
        x.add(FIELD, 0);
        x.add(NEWS, 2);
        body(x, 0, "call 1;odd 2;news 0;get 0;call 4");
        body(x, 1, "mul 3;put 0;odd 3");
        body(x, 2, "add 5;get 0;put 1;call 3");
        body(x, 3, "get 1;add 7");
        x.hear(0, 3);
        x.hear(0, 1);
        return x;
    }

    private static int[] ends(RingUntie x) {
        int[] ends = new int[5 * 8];
        for (int i = 0; i < ends.length; i++) {
            ends[i] = x.run(i / 8, i % 8 < 6 ? i % 8 : 9965 + i % 8);
        }
        return ends;
    }

    private static void endsAsBefore(String call, Build build, Call change) {
        RingUntie x = build.make();
        int[] before = ends(x);
        holds(call + " is taken", change.on(x) >= 0);
        holds(call + ": every run ends as before", Arrays.equals(ends(x), before));
        x.back();
        holds(call + ", back(): every run ends as before", Arrays.equals(ends(x), before));
        holds("no run is big", Arrays.stream(before).allMatch(end -> end >= 0));
    }

    @Says({"routines and fields moved,", "all so that every run ends as before;"})
    static void p26_everyRunEndsAsBefore() {
        int[] totals = {5, 2, 1};
        for (int at = 0; at < 3 * 5 * 4; at++) {
            int what = at / 20, i = at / 4 % 5, part = at % 4;
            if (i < totals[what] && fourParts().where(what, i) != part) {
                endsAsBefore("move(" + what + ", " + i + ", " + part + ")", DocumentTest::fourParts,
                    x -> x.move(what, i, part));
            }
        }
    }

    @Says({"parts split", "all so that every run ends as before;"})
    static void p27_everyRunEndsAsBefore() {
        int[][] splits = {{0, 1}, {0, 16}, {0, 17}, {1, 2}, {2, 4}, {3, 8}};
        for (int[] split : splits) {
            endsAsBefore("split" + Arrays.toString(split), DocumentTest::fourParts, x -> x.split(split[0], split[1]));
        }
    }

    @Says({"parts split and melted,", "all so that every run ends as before;"})
    static void p28_everyRunEndsAsBefore() {
        for (int at = 0; at < 16; at++) {
            int p = at / 4, q = at % 4;
            if (p != q) {
                endsAsBefore("melt(" + p + ", " + q + ")", DocumentTest::fourParts, x -> x.melt(p, q));
            }
        }
    }

    @Says({"calls turned to news,", "all so that every run ends as before;"})
    static void p29_everyRunEndsAsBefore() {
        int[][] calls = {{0, 0}, {0, 4}, {2, 3}};
        for (int[] call : calls) {
            endsAsBefore("turn" + Arrays.toString(call), DocumentTest::fourParts, x -> x.turn(call[0], call[1]));
        }
    }

    @Says({"faces put between,", "all so that every run ends as before;"})
    static void p30_everyRunEndsAsBefore() {
        int[][] calls = {{0, 0}, {0, 1}, {0, 4}, {1, 2}, {2, 3}};
        for (int[] call : calls) {
            endsAsBefore("face" + Arrays.toString(call), DocumentTest::fourParts, x -> x.face(call[0], call[1]));
        }
        RingUntie x = fourParts();
        x.face(0, 0);
        for (int a = 0; a < 8; a++) {
            is("the face routine's run is that of who it stands for", x.run(5, a), x.run(1, a));
        }
    }

    @Says("all so that every run ends as before;")
    static void p31_everyRunEndsAsBefore() {
        endsAsBefore("pull(5)", () -> {
            RingUntie x = fourParts();
            x.face(0, 1);
            body(x, 4, "odd 5;add 1;call 5");
            return x;
        }, x -> x.pull(5));
    }
}
