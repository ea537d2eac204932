/** Promises 21 to 25: layers, what they break, the guard. */
public final class LayersTest {
    private static final Due DUE = new Due();
    private static final int NONE = RingUntie.NONE, BAD = RingUntie.BAD, STATE = RingUntie.STATE;
    private static final int GUARDED = RingUntie.GUARDED;

    public static void main(String[] args) {
        promise21();
        promise22();
        promise23();
        promise24();
        promise25();
        guardOfNewParts();
        guardOfMelts();
        guardAndDays();
        DUE.end("LayersTest");
    }

    private static RingUntie diamond() {
        RingUntie x = Due.withParts(5);
        Due.body(x, 0, "call 1;call 2");
        Due.body(x, 1, "call 3");
        Due.body(x, 2, "call 1");
        return x;
    }

    private static void promise21() {
        RingUntie x = diamond();
        int[] layers = {3, 1, 2, 0, 0};
        for (int p = 0; p < 5; p++) {
            DUE.is("21 layer(" + p + ")", x.layer(p), layers[p]);
        }
        DUE.is("21 layer(5)", x.layer(5), NONE);
        DUE.is("21 layer(-1)", x.layer(-1), NONE);
        x.add(0, 4);
        Due.body(x, 4, "call 5;call 4");
        DUE.is("21 calls of its own part", x.layer(4), 0);
        Due.body(x, 3, "call 1");
        DUE.is("21 of the group", x.layer(1), STATE);
        DUE.is("21 of another one", x.layer(4), STATE);
        DUE.is("21 NONE ahead of STATE", x.layer(5), NONE);
        x.allow(3, 1, 1);
        DUE.is("21 allowed", x.layer(0), 3);
        chains();
    }

    /** Each part needs the next one; then each the one ahead of it. */
    private static void chains() {
        RingUntie up = Due.withParts(10);
        RingUntie down = Due.withParts(10);
        for (int p = 0; p < 9; p++) {
            Due.body(up, p, "call " + (p + 1));
            Due.body(down, p + 1, "call " + p);
        }
        for (int p = 0; p < 10; p++) {
            DUE.is("21 the next one", up.layer(p), 9 - p);
            DUE.is("21 the one ahead", down.layer(p), p);
        }
        DUE.is("23 the next one", up.breaks(123456789L), 0);
        DUE.is("23 the one ahead", down.breaks(9876543210L), 0);
        DUE.is("23 the next one, all", up.breaks(9876543210L), 9);
        DUE.is("23 the one ahead, all", down.breaks(123456789L), 9);
        DUE.is("23 one that needs part 0", down.breaks(9876543200L), 1);
    }

    private static void promise22() {
        RingUntie x = diamond();
        // 4 is free with each of the others, and no other pair is.
        DUE.is("22 worth()", x.worth(), 4);
        Due.body(x, 2, "");
        DUE.is("22 2 with 1, 3, 4", x.worth(), 6);
        x.allow(0, 2, 1);
        DUE.is("22 2 with 0 too", x.worth(), 7);
        DUE.is("22 all free", Due.withParts(10).worth(), 45);
        DUE.is("22 one", Due.withParts(1).worth(), 0);
        RingUntie y = Due.withParts(3);
        Due.body(y, 0, "call 1");
        Due.body(y, 1, "call 0");
        DUE.is("22 a ring", y.worth(), 2);
    }

    private static void promise23() {
        RingUntie x = diamond();
        DUE.is("23 as they are", x.breaks(213), 0);
        DUE.is("23 all alike", x.breaks(0), 4);
        DUE.is("23 2 with 1 alike", x.breaks(223), 1);
        DUE.is("23 1 with 3 alike", x.breaks(203), 1);
        DUE.is("23 upside down", x.breaks(3120), 4);
        DUE.is("23 five digits", x.breaks(99999), 4);
        DUE.is("23 six digits", x.breaks(100000), BAD);
        DUE.is("23 the most", x.breaks(Long.MAX_VALUE), BAD);
        DUE.is("23 below 0", x.breaks(-1), BAD);
        DUE.is("23 the least", x.breaks(Long.MIN_VALUE), BAD);
        x.allow(0, 1, 1);
        DUE.is("23 allowed", x.breaks(0), 3);
        DUE.is("23 ten digits", Due.withParts(10).breaks(9999999999L), 0);
        DUE.is("23 eleven digits", Due.withParts(10).breaks(10000000000L), BAD);
    }

    private static void promise24() {
        RingUntie x = Due.withParts(2);
        DUE.is("24 guard(1)", x.guard(1), 0);
        DUE.is("24 guard(1) again", x.guard(1), 1);
        DUE.is("24 guard(2)", x.guard(2), BAD);
        DUE.is("24 guard(-1)", x.guard(-1), BAD);
        Due.body(x, 0, "call 1");
        DUE.is("24 on", Due.body(x, 1, "call 0"), GUARDED);
        DUE.is("24 guard(0)", x.guard(0), 1);
        DUE.is("24 off", Due.body(x, 1, "call 0"), 1);
        DUE.is("24 guard(0) again", x.guard(0), 0);
        x.guard(1);
        DUE.is("24 a ring that is there already", Due.body(x, 1, "call 0;call 0"), 2);
    }

    private static void promise25() {
        RingUntie x = Due.withParts(4);
        Due.body(x, 0, "call 1");
        Due.body(x, 1, "call 2");
        x.guard(1);
        DUE.is("25 at first", x.guarded(), NONE);
        DUE.is("25 a ring of three", Due.body(x, 2, "call 0"), GUARDED);
        DUE.is("25 the first was there, but not of one group", x.guarded(), 1);
        DUE.is("25 a ring of two", Due.body(x, 2, "call 1"), GUARDED);
        DUE.is("25 1, 2 is ahead of 2, 1", x.guarded(), 12);
        Due.body(x, 2, "call 3");
        DUE.is("25 it stays", x.guarded(), 12);
        x.guard(0);
        Due.body(x, 1, "call 2;call 0");
        x.guard(1);
        // 0, 1 is of one group already: 1, 2 is the first that was not.
        DUE.is("25 a group grows", Due.body(x, 2, "call 0"), GUARDED);
        DUE.is("25 the first new one", x.guarded(), 12);
        x.guard(0);
        x.back();
        DUE.is("25 also behind back()", x.guarded(), 12);
        RingUntie y = Due.withParts(3);
        Due.body(y, 0, "call 2");
        Due.body(y, 2, "call 0;call 1");
        y.guard(1);
        DUE.is("25 part 1 comes to the ring", Due.body(y, 1, "call 0"), GUARDED);
        DUE.is("25 0, 2 was of it", y.guarded(), 10);
    }

    /** A new part was not there ahead, so rings with it alone are no matter of the guard. */
    private static void guardOfNewParts() {
        RingUntie x = Due.withParts(2);
        x.add(0, 0);
        Due.body(x, 0, "call 2");
        Due.body(x, 2, "call 0");
        x.guard(1);
        DUE.is("27 a ring with the new part", x.split(0, 4), 2);
        DUE.is("27 is one", x.groups(), 1);
        x.back();
        Due.body(x, 0, "call 1;call 2");
        x.guard(0);
        Due.body(x, 1, "call 2");
        x.allow(1, 0, 5);
        x.guard(1);
        // What was 1, 0 and allowed is 1, 2 behind the split; and 2, 0 is there.
        DUE.is("27 two old parts over the new one", x.split(0, 4), GUARDED);
        DUE.is("25 its first tie", x.guarded(), 1);
        DUE.is("27 nothing changed", x.count(0), 2);
    }

    private static void guardOfMelts() {
        RingUntie x = Due.withParts(4);
        Due.body(x, 3, "call 2");
        Due.body(x, 2, "call 0");
        x.guard(1);
        // 0 comes into 3, so 3 and 2 make a ring, as 2 and 1 then.
        DUE.is("28 a melt that makes a ring", x.melt(3, 0), GUARDED);
        DUE.is("25 as they would be numbered", x.guarded(), 12);
        DUE.is("28 nothing changed", x.count(0), 4);
        DUE.is("28 where(0, 0)", x.where(0, 0), 0);
        DUE.is("28 the two that melt are no pair", x.melt(2, 3), 3);
        RingUntie y = Due.withParts(4);
        Due.body(y, 1, "call 2");
        Due.body(y, 2, "call 1");
        Due.body(y, 3, "call 1");
        y.guard(1);
        DUE.is("28 numbers that change make no ring", y.melt(0, 3), 3);
        DUE.is("28 the ring stays", y.group(2), 1);
        DUE.is("28 a part behind the one that goes", y.melt(2, 0), 2);
        DUE.is("28 the ring stays", y.group(1), 0);
    }

    private static void guardAndDays() {
        RingUntie x = Due.withParts(2);
        Due.body(x, 0, "call 1");
        x.allow(1, 0, 3);
        x.guard(1);
        DUE.is("24 an allowed tie makes no ring", Due.body(x, 1, "call 0"), 1);
        x.day(3);
        DUE.is("16 a day may make one", x.groups(), 1);
        DUE.is("24 then it is there", Due.body(x, 1, "call 0;add 1"), 2);
        x.allow(1, 0, 4);
        DUE.is("24 allowed again", Due.body(x, 1, "call 0"), 1);
    }
}
