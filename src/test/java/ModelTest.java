import java.util.Random;

/** Random runs of calls on the class and on the model: every answer must be the same. */
public final class ModelTest {
    private static final int RUNS = Integer.getInteger("runs", 300);
    // One step may take some twenty calls; 512 are promised.
    private static final int CALLS = 490;
    private static final int CALL_SORTS = 33;
    private static final String[] WORDS = {"add", "mul", "put", "get", "call", "odd", "news"};

    private final Random random;
    private final StringBuilder log = new StringBuilder();
    private final RingUntie x = new RingUntie();
    private final Model m = new Model();
    private final int mostParts;
    private final int[] weights = new int[CALL_SORTS];
    private int sumOfWeights = 0;
    // Every third run has one routine a part, and calls alone: longer rings than chance makes else.
    private final boolean callsAlone;
    private int calls = 0;
    private boolean same = true;

    private ModelTest(long seed) {
        random = new Random(seed);
        callsAlone = seed % 3 == 1;
        mostParts = seed % 40 == 0 ? 10 : callsAlone ? 5 + random.nextInt(4) : 2 + random.nextInt(6);
        for (int i = 0; i < CALL_SORTS; i++) {
            weights[i] = 1 + random.nextInt(8);
            sumOfWeights += weights[i];
        }
    }

    public static void main(String[] args) {
        int wrong = 0;
        for (int seed = 0; seed < RUNS; seed++) {
            ModelTest test = new ModelTest(seed);
            test.play();
            if (!test.same) {
                wrong++;
                System.out.println("seed " + seed + ":\n" + test.log);
                if (wrong >= 3) {
                    break;
                }
            }
        }
        System.out.println("ModelTest: " + RUNS + " runs, " + wrong + " differ");
        if (wrong != 0) {
            System.exit(1);
        }
    }

    private void play() {
        int parts = Math.max(1, mostParts - random.nextInt(3));
        for (int i = 0; i < parts; i++) {
            addPart();
        }
        for (int i = 0; i < parts && callsAlone; i++) {
            due("add(0, " + i + ")", x.add(0, i), m.add(0, i));
        }
        int things = callsAlone ? random.nextInt(4) : random.nextInt(25);
        for (int i = 0; i < things && same; i++) {
            int what = random.nextInt(5) % 3;
            int part = near(m.count(0));
            due("add(" + what + ", " + part + ")", x.add(what, part), m.add(what, part));
        }
        for (int r = 0; r < m.count(1) && same; r++) {
            feedBody();
            due("body(" + r + ")", x.body(r), m.body(r));
        }
        while (calls < CALLS && same) {
            callAny();
        }
    }

    private void due(String call, long got, long want) {
        calls++;
        log.append(call).append(" -> ").append(got).append('\n');
        if (got != want) {
            same = false;
            log.append("  due is ").append(want).append('\n');
        }
    }

    /** Mostly a number that is there, sometimes one just outside or far away. */
    private int near(int size) {
        int chance = random.nextInt(60);
        if (chance == 0) {
            return -1;
        }
        if (chance == 1) {
            return size;
        }
        if (chance == 2) {
            return random.nextBoolean() ? Integer.MIN_VALUE : Integer.MAX_VALUE;
        }
        return size == 0 ? 0 : random.nextInt(size);
    }

    private String text() {
        StringBuilder text = new StringBuilder();
        int acts = random.nextInt(40) == 0 ? 9 + random.nextInt(3) : random.nextInt(5);
        for (int i = 0; i < acts; i++) {
            int sort = callsAlone && random.nextInt(8) > 0 ? 4 + random.nextInt(2) : random.nextInt(WORDS.length);
            int limit = sort < 2 ? 1000 : m.count(sort < 4 ? 2 : sort < 6 ? 1 : 3);
            if (limit == 0 && random.nextInt(10) > 0) {
                sort = random.nextInt(2);
                limit = 1000;
            }
            int number = limit == 0 || random.nextInt(60) == 0 ? limit % 1000 : random.nextInt(limit);
            text.append(i == 0 ? "" : ";").append(WORDS[sort]).append(' ');
            text.append(random.nextInt(8) == 0 && number < 10 ? "0" : "").append(number);
        }
        if (random.nextInt(14) == 0) {
            int at = random.nextInt(text.length() + 1);
            String odd = ";; adg7\u00ff\u0000c";
            text.insert(at, odd.charAt(random.nextInt(odd.length())));
        }
        if (random.nextInt(20) == 0) {
            text.setLength(random.nextInt(text.length() + 1));
        }
        return text.toString();
    }

    private void feedBody() {
        String text = text();
        for (int from = 0; from < text.length() && same; from += 8) {
            int to = Math.min(from + 8, text.length());
            long w = random.nextInt(4) == 0 ? random.nextInt() : 0;
            for (int i = from; i < to; i++) {
                w = w << 8 | text.charAt(i);
            }
            due("feed(" + w + "L, " + (to - from) + ")", x.feed(w, to - from), m.feed(w, to - from));
        }
    }

    private void addPart() {
        due("part()", x.part(), m.part());
    }

    private void callAny() {
        int pick = random.nextInt(sumOfWeights);
        int sort = 0;
        while (pick >= weights[sort]) {
            pick -= weights[sort];
            sort++;
        }
        if (sort < 10) {
            callProgram(sort);
        } else if (sort < 21) {
            callTies(sort);
        } else {
            callRest(sort);
        }
    }

    private void callProgram(int sort) {
        int what = near(3), i = near(m.count(1 + Math.floorMod(what, 3))), r = near(m.count(1)), a = near(10);
        int n = near(m.count(3)), part = near(m.count(0)), start = near(9973), act = near(3);
        switch (sort) {
            case 0:
                if (m.count(0) < mostParts || random.nextInt(30) == 0) {
                    addPart();
                }
                break;
            case 1: due("add(" + what + ", " + part + ")", x.add(what, part), m.add(what, part)); break;
            case 2: due("where(" + what + ", " + i + ")", x.where(what, i), m.where(what, i)); break;
            case 3:
                long w = random.nextLong();
                int bytes = near(9);
                if (random.nextInt(4) == 0) {
                    due("feed(" + w + "L, " + bytes + ")", x.feed(w, bytes), m.feed(w, bytes));
                }
                break;
            case 4: case 5:
                feedBody();
                due("body(" + r + ")", x.body(r), m.body(r));
                break;
            case 6: due("act(" + r + ", " + a + ", " + what % 2 + ")", x.act(r, a, what % 2), m.act(r, a, what % 2)); break;
            case 7: due("hear(" + n + ", " + r + ")", x.hear(n, r), m.hear(n, r)); break;
            case 8: due("run(" + r + ", " + start + ")", x.run(r, start), m.run(r, start)); break;
            default:
                due("done()", x.done(), m.done());
                due("act(" + r + ", " + act + ", 1)", x.act(r, act, 1), m.act(r, act, 1));
                break;
        }
    }

    private void callTies(int sort) {
        int parts = m.count(0), p = near(parts), q = near(parts), what = near(2), i = near(parts);
        int s = near(4), price = random.nextInt(5) == 0 ? near(100) : random.nextInt(4), d = m.count(8) + near(6);
        switch (sort) {
            case 10: due("price(" + s + ", " + price + ")", x.price(s, price), m.price(s, price)); break;
            case 11: due("tie(" + p + ", " + q + ", " + what + ")", x.tie(p, q, what), m.tie(p, q, what)); break;
            case 12: due("allow(" + p + ", " + q + ", " + d + ")", x.allow(p, q, d), m.allow(p, q, d)); break;
            case 13:
                d = random.nextInt(3) == 0 ? near(1000) % 1001 : m.count(8) + near(3);
                if (d < m.count(8) + 4 || random.nextInt(40) == 0) {
                    due("day(" + d + ")", x.day(d), m.day(d));
                }
                break;
            case 14: due("group(" + p + ")", x.group(p), m.group(p)); break;
            case 15: due("groups()", x.groups(), m.groups()); break;
            case 16: case 17:
                due("ring(" + p + ", " + q + ", 0, 0)", x.ring(p, q, 0, 0), m.ring(p, q, 0, 0));
                due("ring(" + p + ", " + q + ", " + what + ", " + i + ")", x.ring(p, q, what, i), m.ring(p, q, what, i));
                break;
            case 18: due("choice()", x.choice(), m.choice()); break;
            case 19: due("chosen(" + what + ", " + i + ")", x.chosen(what, i), m.chosen(what, i)); break;
            default: due("bound()", x.bound(), m.bound()); break;
        }
    }

    private void callRest(int sort) {
        int parts = m.count(0), p = near(parts), q = near(parts), what = near(3), is = near(2), c = near(10);
        int r = near(m.count(1)), i = near(m.count(1 + Math.floorMod(what, 3))), a = near(3), set = set(p);
        long layers = random.nextLong() % (long) Math.pow(10, near(parts + 2) == -1 ? 18 : random.nextInt(parts + 2));
        switch (sort) {
            case 21: due("layer(" + p + ")", x.layer(p), m.layer(p)); break;
            case 22: due("worth()", x.worth(), m.worth()); break;
            case 23:
                layers = random.nextInt(20) == 0 ? layers : Math.abs(layers);
                due("breaks(" + layers + "L)", x.breaks(layers), m.breaks(layers));
                break;
            case 24:
                due("guard(" + is + ")", x.guard(is), m.guard(is));
                due("guarded()", x.guarded(), m.guarded());
                break;
            case 25: due("move(" + what + ", " + i + ", " + p + ")", x.move(what, i, p), m.move(what, i, p)); break;
            case 26: due("split(" + p + ", " + set + ")", x.split(p, set), m.split(p, set)); break;
            case 27:
                if (parts > 2 && random.nextBoolean()) {
                    due("melt(" + p + ", " + q + ")", x.melt(p, q), m.melt(p, q));
                    due("guarded()", x.guarded(), m.guarded());
                }
                break;
            case 28: due("turn(" + r + ", " + a + ")", x.turn(r, a), m.turn(r, a)); break;
            case 29: due("face(" + r + ", " + a + ")", x.face(r, a), m.face(r, a)); break;
            case 30:
                for (int f = 0; f < m.count(1) && random.nextInt(4) > 0; f++) {
                    due("pull(" + f + ")", x.pull(f), m.pull(f));
                }
                break;
            case 31:
                if (random.nextInt(3) == 0) {
                    due("back()", x.back(), m.back());
                }
                break;
            default: due("count(" + c + ")", x.count(c), m.count(c)); break;
        }
    }

    private int set(int part) {
        int set = 0;
        for (int r = 0; r < m.count(1); r++) {
            boolean fits = m.where(0, r) == part && m.act(r, 0, 0) != 4;
            if (fits && random.nextBoolean() || random.nextInt(80) == 0) {
                set |= 1 << r;
            }
        }
        return random.nextInt(40) == 0 ? set | 1 << random.nextInt(32) : set;
    }
}
