/** Promises 26 to 33: moves, splits, melts, turns, faces, pulls, what is taken back, counts. */
public final class UndoingTest {
    private static final Due DUE = new Due();
    private static final int NONE = RingUntie.NONE, BAD = RingUntie.BAD, STATE = RingUntie.STATE;
    private static final int FULL = RingUntie.FULL, GUARDED = RingUntie.GUARDED, BIG = RingUntie.BIG;

    public static void main(String[] args) {
        promise26();
        promise27();
        promise28();
        promise28Allowed();
        promise29();
        promise30();
        promise31();
        promise32();
        promise32Allowed();
        promise32Kept();
        promise33();
        runsEndAsBefore();
        farNumbers();
        DUE.end("UndoingTest");
    }

    /** Routine p of part p; 0 calls 1, runs 2 if odd, and tells news 0 (of 2), which 3 hears. */
    private static RingUntie program() {
        RingUntie x = Due.withParts(4);
        x.add(1, 3);
        x.add(2, 2);
        Due.body(x, 0, "call 1;odd 2;news 0;get 0");
        Due.body(x, 1, "mul 3;put 0");
        Due.body(x, 2, "add 5;get 0");
        Due.body(x, 3, "add 7");
        x.hear(0, 3);
        return x;
    }

    private static void promise26() {
        RingUntie x = program();
        DUE.is("26 routine", x.move(0, 1, 3), 1);
        DUE.is("26 where", x.where(0, 1), 3);
        DUE.is("26 field", x.move(1, 0, 0), 3);
        DUE.is("26 where", x.where(1, 0), 0);
        DUE.is("26 news", x.move(2, 0, 1), 2);
        DUE.is("26 where", x.where(2, 0), 1);
        DUE.is("26 a tie goes with it", x.tie(3, 1, 0), 1);
        DUE.is("26 it lies there", x.move(2, 0, 1), STATE);
        DUE.is("26 what 3", x.move(3, 0, 0), NONE);
        DUE.is("26 what -1", x.move(-1, 0, 0), NONE);
        DUE.is("26 routine 4", x.move(0, 4, 0), NONE);
        DUE.is("26 field 1", x.move(1, 1, 0), NONE);
        DUE.is("26 news -1", x.move(2, -1, 0), NONE);
        DUE.is("26 part 4", x.move(0, 0, 4), NONE);
        DUE.is("26 part -1", x.move(0, 0, -1), NONE);
        int face = x.face(0, 0);
        DUE.is("26 a face routine", x.move(0, face, 0), STATE);
        DUE.is("26 a field of that number is none", x.move(1, face, 0), NONE);
        RingUntie y = Due.withParts(3);
        Due.body(y, 0, "call 1");
        Due.body(y, 1, "call 2");
        y.guard(1);
        DUE.is("26 guarded", y.move(0, 2, 0), GUARDED);
        DUE.is("26 it lies where it lay", y.where(0, 2), 2);
        DUE.is("26 guarded()", y.guarded(), 1);
        DUE.is("26 not guarded", y.move(0, 2, 1), 2);
    }

    private static void promise27() {
        RingUntie x = program();
        x.add(0, 0);
        x.add(0, 0);
        int face = x.face(0, 0);
        DUE.is("27 the face routine", face, 6);
        DUE.is("27 part 5", x.split(5, 1), NONE);
        DUE.is("27 part -1", x.split(-1, 1), NONE);
        DUE.is("27 NONE ahead of BAD", x.split(5, 0), NONE);
        DUE.is("27 none", x.split(0, 0), BAD);
        DUE.is("27 one that is not there", x.split(0, 1 | 1 << 7), BAD);
        DUE.is("27 the highest bit", x.split(0, 1 | Integer.MIN_VALUE), BAD);
        DUE.is("27 all bits", x.split(0, -1), BAD);
        DUE.is("27 a face routine", x.split(4, 1 << 6), BAD);
        DUE.is("27 BAD ahead of STATE", x.split(0, 2 | 1 << 7), BAD);
        DUE.is("27 one of another part", x.split(0, 1 | 2), STATE);
        DUE.is("27 two of three", x.split(0, 1 | 1 << 5), 5);
        DUE.is("27 where(0, 0)", x.where(0, 0), 5);
        DUE.is("27 where(0, 4)", x.where(0, 4), 0);
        DUE.is("27 where(0, 5)", x.where(0, 5), 5);
        DUE.is("27 its ties", x.tie(5, 2, 0), 2);
        DUE.is("27 all of a part", x.split(0, 1 << 4), 6);
        for (int p = 7; p < 10; p++) {
            x.part();
        }
        DUE.is("27 full", x.split(5, 1), FULL);
        DUE.is("27 STATE ahead of FULL", x.split(4, 1), STATE);
    }

    private static void promise28() {
        RingUntie x = program();
        DUE.is("28 melt(0, 4)", x.melt(0, 4), NONE);
        DUE.is("28 melt(4, 4)", x.melt(4, 4), NONE);
        DUE.is("28 melt(-1, 0)", x.melt(-1, 0), NONE);
        DUE.is("28 melt(1, 1)", x.melt(1, 1), BAD);
        DUE.is("28 2 into 0", x.melt(0, 2), 3);
        int[] homes = {0, 1, 0, 2};
        for (int r = 0; r < 4; r++) {
            DUE.is("28 where(0, " + r + ")", x.where(0, r), homes[r]);
        }
        DUE.is("28 the field", x.where(1, 0), 2);
        DUE.is("28 the news", x.where(2, 0), 0);
        DUE.is("28 0 into 2", x.melt(2, 0), 2);
        int[] then = {1, 0, 1, 1};
        for (int r = 0; r < 4; r++) {
            DUE.is("28 where(0, " + r + ") then", x.where(0, r), then[r]);
        }
        DUE.is("28 the last", x.melt(0, 1), 1);
        DUE.is("28 no ties", x.count(4), 0);
        DUE.is("28 a new part", x.part(), 1);
        DUE.is("28 its place is empty", x.tie(0, 1, 0), 0);
    }

    private static void promise28Allowed() {
        RingUntie x = Due.withParts(4);
        for (int p = 0; p < 4; p++) {
            for (int q = 0; q < 4; q++) {
                if (p != q) {
                    x.allow(p, q, 100 + 10 * p + q);
                }
            }
        }
        x.melt(3, 1);
        int[] old = {0, 2, 3};
        for (int p = 0; p < 3; p++) {
            for (int q = 0; q < 3; q++) {
                if (p != q) {
                    DUE.is("28 allowed " + p + ", " + q, x.allow(p, q, 7), 100 + 10 * old[p] + old[q]);
                }
            }
        }
        x.part();
        for (int p = 0; p < 3; p++) {
            DUE.is("28 to a new part", x.allow(p, 3, 0), 0);
            DUE.is("28 from a new part", x.allow(3, p, 0), 0);
        }
        x.back();
        x.back();
        DUE.is("28 taken back", x.allow(1, 3, 0), 113);
    }

    private static void promise29() {
        RingUntie x = program();
        DUE.is("29 act 4", x.turn(0, 4), NONE);
        DUE.is("29 act -1", x.turn(0, -1), NONE);
        DUE.is("29 routine 4", x.turn(4, 0), NONE);
        DUE.is("29 an odd", x.turn(0, 1), STATE);
        DUE.is("29 a news", x.turn(0, 2), STATE);
        DUE.is("29 a get", x.turn(0, 3), STATE);
        DUE.is("29 an add", x.turn(3, 0), STATE);
        DUE.is("29 a call", x.turn(0, 0), 1);
        DUE.is("29 it is news", x.act(0, 0, 0), 6);
        DUE.is("29 of the new one", x.act(0, 0, 1), 1);
        DUE.is("29 it lies with what was called", x.where(2, 1), 1);
        DUE.is("29 which hears it", x.hear(1, 1), STATE);
        DUE.is("29 another one does not", x.hear(1, 2), 2);
        DUE.is("29 a tie by news", x.tie(0, 1, 0), 1);
        x.price(2, 5);
        DUE.is("29 its price", x.tie(0, 1, 1), 5);
        RingUntie y = Due.withParts(2);
        Due.body(y, 0, "call 1;call 1");
        int face = y.face(0, 0);
        DUE.is("29 an act of a face routine", y.turn(face, 0), STATE);
        DUE.is("29 it has no second", y.turn(face, 1), NONE);
        DUE.is("29 a call of a face routine", y.turn(0, 0), STATE);
        for (int n = 0; n < 8; n++) {
            y.add(2, 0);
        }
        DUE.is("29 STATE ahead of FULL", y.turn(0, 0), STATE);
        DUE.is("29 full", y.turn(0, 1), FULL);
    }

    private static void promise30() {
        RingUntie x = program();
        DUE.is("30 act 4", x.face(0, 4), NONE);
        DUE.is("30 act -1", x.face(0, -1), NONE);
        DUE.is("30 routine -1", x.face(-1, 0), NONE);
        DUE.is("30 a news", x.face(0, 2), STATE);
        DUE.is("30 a get", x.face(0, 3), STATE);
        DUE.is("30 a put", x.face(1, 1), STATE);
        DUE.is("30 a call", x.face(0, 0), 4);
        DUE.is("30 a new part", x.where(0, 4), 4);
        DUE.is("30 count(0)", x.count(0), 5);
        DUE.is("30 still a call", x.act(0, 0, 0), 4);
        DUE.is("30 of the face routine", x.act(0, 0, 1), 4);
        DUE.is("30 whose body calls", x.act(4, 0, 0), 4);
        DUE.is("30 what was called", x.act(4, 0, 1), 1);
        DUE.is("30 and no more", x.act(4, 1, 0), NONE);
        DUE.is("30 an odd", x.face(0, 1), 5);
        DUE.is("30 still an odd", x.act(0, 1, 0), 5);
        DUE.is("30 of the second one", x.act(0, 1, 1), 5);
        DUE.is("30 its body is a call", x.act(5, 0, 0), 4);
        DUE.is("30 a face of a face", x.face(0, 0), STATE);
        DUE.is("30 an act of a face routine", x.face(4, 0), STATE);
        DUE.is("30 count(6)", x.count(6), 2);
        DUE.is("30 the faces' ties", x.tie(2, 5, 0), 1);
        RingUntie y = Due.withParts(10);
        Due.body(y, 0, "call 1;add 1");
        DUE.is("30 no more parts", y.face(0, 0), FULL);
        DUE.is("30 STATE ahead of FULL", y.face(0, 1), STATE);
        y.melt(8, 9);
        for (int r = 10; r < 20; r++) {
            y.add(0, 0);
        }
        DUE.is("30 no more routines", y.face(0, 0), FULL);
    }

    private static void promise31() {
        RingUntie x = program();
        int face = x.face(0, 0);
        Due.body(x, 3, "odd 4;call 4;add 4;call 1");
        x.price(3, 9);
        DUE.is("31 routine 0", x.pull(0), STATE);
        DUE.is("31 routine 5", x.pull(5), NONE);
        DUE.is("31 routine -1", x.pull(-1), NONE);
        DUE.is("31 three acts", x.pull(face), 3);
        DUE.is("31 the call", x.act(0, 0, 1), 1);
        DUE.is("31 the odd", x.act(3, 0, 1), 1);
        DUE.is("31 still an odd", x.act(3, 0, 0), 5);
        DUE.is("31 a number that is none", x.act(3, 2, 1), 4);
        DUE.is("31 it stays where it is", x.where(0, face), 4);
        DUE.is("31 with no body", x.act(face, 0, 0), NONE);
        DUE.is("31 and is no face", x.count(6), 0);
        DUE.is("31 nor a tie", x.tie(1, 4, 0), 0);
        DUE.is("31 once only", x.pull(face), STATE);
        DUE.is("31 it may get a body", Due.body(x, face, "add 1"), 1);
        DUE.is("31 and move", x.move(0, face, 0), 4);
        RingUntie y = Due.withParts(2);
        Due.body(y, 0, "call 1");
        y.face(0, 0);
        Due.body(y, 1, "call 0");
        y.guard(1);
        DUE.is("31 guarded", y.pull(2), GUARDED);
        DUE.is("31 guarded()", y.guarded(), 1);
        DUE.is("31 still a face", y.count(6), 1);
        Due.body(y, 0, "");
        DUE.is("31 no act", y.pull(2), 0);
    }

    private static void promise32() {
        RingUntie x = program();
        int kept = x.count(7);
        DUE.is("32 changes", kept, 15);
        x.move(0, 0, 1);
        x.split(1, 1);
        x.melt(0, 2);
        x.turn(0, 0);
        x.hear(1, 0);
        DUE.is("32 news taken back", x.back(), 19);
        DUE.is("32 its hearer", x.hear(1, 0), 2);
        x.back();
        DUE.is("32 turn taken back", x.back(), 18);
        DUE.is("32 a call again", x.act(0, 0, 0), 4);
        DUE.is("32 no news", x.count(3), 1);
        DUE.is("32 melt taken back", x.back(), 17);
        DUE.is("32 parts", x.count(0), 5);
        DUE.is("32 where(2, 0)", x.where(2, 0), 2);
        DUE.is("32 split taken back", x.back(), 16);
        DUE.is("32 where(0, 0)", x.where(0, 0), 1);
        DUE.is("32 move taken back", x.back(), 15);
        DUE.is("32 where(0, 0)", x.where(0, 0), 0);
        x.face(0, 0);
        x.pull(4);
        DUE.is("32 pull taken back", x.back(), 16);
        DUE.is("32 a face again", x.count(6), 1);
        DUE.is("32 face taken back", x.back(), 15);
        DUE.is("32 routines", x.count(1), 4);
        DUE.is("32 hear taken back", x.back(), 14);
        DUE.is("32 it is none", x.hear(0, 3), 1);
        for (int i = 14; i >= 0; i--) {
            DUE.is("32 back()", x.back(), i);
        }
        DUE.is("32 nothing is there", x.count(0) + x.count(1) + x.count(2) + x.count(3) + x.count(5), 0);
        DUE.is("32 none is kept", x.back(), STATE);
    }

    private static void promise32Allowed() {
        RingUntie x = Due.withParts(2);
        x.allow(0, 1, 5);
        x.add(0, 0);
        x.allow(0, 1, 6);
        x.price(0, 3);
        x.day(2);
        x.guard(1);
        Due.feed(x, "add");
        x.back();
        DUE.is("32 allowed as it was", x.allow(0, 1, 5), 5);
        x.back();
        DUE.is("32 and not told ahead of that", x.allow(0, 1, 8), 0);
        x.back();
        DUE.is("32 one part", x.allow(0, 1, 0), NONE);
        DUE.is("32 parts", x.part(), 1);
        DUE.is("32 nothing is left of it", x.allow(0, 1, 0), 0);
        DUE.is("32 prices stay", x.price(0, 1), 3);
        DUE.is("32 the day stays", x.count(8), 2);
        DUE.is("32 the guard stays", x.guard(0), 1);
        DUE.is("32 the tape stays", x.count(9), 3);
    }

    private static void promise32Kept() {
        RingUntie x = new RingUntie();
        x.part();
        for (int i = 0; i < 45; i++) {
            Due.body(x, i == 0 ? x.add(0, 0) : 0, "add " + i);
            x.run(0, 1);
            x.price(0, i);
            x.allow(0, 1, 1);
            DUE.is("32 the latest 20", x.count(7), Math.min(i + 3, 20));
        }
        x.move(0, 0, 0);
        x.face(0, 0);
        x.body(7);
        DUE.is("32 refused ones are none", x.count(7), 20);
        for (int i = 43; i >= 24; i--) {
            DUE.is("32 kept then", x.back(), i - 24);
            DUE.is("32 the body", x.act(0, 0, 1), i);
        }
        DUE.is("32 no more", x.back(), STATE);
        DUE.is("32 the oldest that is known", x.act(0, 0, 1), 24);
        x.part();
        DUE.is("32 kept anew", x.count(7), 1);
        DUE.is("32 taken back", x.back(), 0);
    }

    private static void promise33() {
        RingUntie x = program();
        x.face(0, 0);
        x.day(9);
        Due.feed(x, "news");
        // Ties: 0 needs 2, 3, 4; 1 and 2 need 3; 1 needs 4; 3 needs 2.
        int[] due = {5, 5, 1, 1, 7, 10, 1, 16, 9, 4};
        for (int what = 0; what < 10; what++) {
            DUE.is("33 count(" + what + ")", x.count(what), due[what]);
        }
        DUE.is("33 count(10)", x.count(10), NONE);
        DUE.is("33 count(-1)", x.count(-1), NONE);
        x.allow(0, 2, 10);
        DUE.is("33 allowed ties are none", x.count(4), 6);
    }

    /** Moves, splits, melts, turns, faces and pulls leave every run's end as it was. */
    private static void runsEndAsBefore() {
        RingUntie x = program();
        int[] ends = new int[20];
        for (int a = 0; a < 20; a++) {
            ends[a] = x.run(0, a);
        }
        for (int step = 0; step < 8; step++) {
            switch (step) {
                case 0: x.move(0, 1, 2); break;
                case 1: x.split(2, 2); break;
                case 2: x.face(0, 0); break;
                case 3: x.face(0, 1); break;
                case 4: x.melt(0, 3); break;
                case 5: x.pull(4); break;
                case 6: x.turn(0, 0); break;
                default: x.pull(5); break;
            }
            for (int a = 0; a < 20; a++) {
                DUE.is("26 to 31 run(0, " + a + ") behind step " + step, x.run(0, a), ends[a]);
            }
        }
        DUE.is("26 to 31 all were changes", x.count(7), 20);
        DUE.is("26 to 31 no run was big", x.run(0, 0) == BIG ? 1 : 0, 0);
    }

    /** No number at all makes the machine throw. */
    private static void farNumbers() {
        int[] far = {Integer.MIN_VALUE, -10, -1, 0, 1, 2, 9, 10, 20, 31, 32, 33, 1000, Integer.MAX_VALUE};
        for (int a : far) {
            for (int b : far) {
                RingUntie x = program();
                x.face(0, 0);
                x.guard(1);
                x.part();
                x.add(a, b);
                x.where(a, b);
                x.feed(a, b);
                x.body(a);
                x.act(a, b, 0);
                x.act(0, a, b);
                x.hear(a, b);
                x.run(a, b);
                x.price(a, b);
                x.tie(a, b, 0);
                x.tie(0, a, b);
                x.allow(a, b, 1);
                x.allow(0, a, b);
                x.group(a);
                x.ring(a, b, 0, 0);
                x.ring(0, 1, a, b);
                x.chosen(a, b);
                x.layer(a);
                x.breaks((long) a * b);
                x.guard(a);
                x.move(a, b, 0);
                x.move(0, a, b);
                x.split(a, b);
                x.melt(a, b);
                x.turn(a, b);
                x.face(a, b);
                x.pull(a);
                x.count(a);
                x.day(a);
                DUE.holds("changes are kept", x.back() >= 0);
            }
        }
    }
}
