/** Promises 11 to 20: ties, groups, rings, the choice and the bound. */
public final class TiesTest {
    private static final Due DUE = new Due();
    private static final int NONE = RingUntie.NONE, BAD = RingUntie.BAD;

    public static void main(String[] args) {
        promise11();
        promise12();
        promise12Faces();
        promise13();
        promise14();
        promise15and16();
        promise17();
        promise18and19();
        promise19Orders();
        promise20();
        promise20Order();
        pricesOfNothing();
        tenParts();
        DUE.end("TiesTest");
    }

    /** Ties by calls: each pair pq, with its number of calls behind it. */
    private static RingUntie web(int parts, int... pairsAndCalls) {
        RingUntie x = Due.withParts(parts);
        String[] texts = new String[parts];
        for (int i = 0; i < pairsAndCalls.length; i += 2) {
            int p = pairsAndCalls[i] / 10, q = pairsAndCalls[i] % 10;
            for (int k = 0; k < pairsAndCalls[i + 1]; k++) {
                texts[p] = (texts[p] == null ? "" : texts[p] + ";") + "call " + q;
            }
        }
        for (int p = 0; p < parts; p++) {
            if (texts[p] != null) {
                Due.body(x, p, texts[p]);
            }
        }
        return x;
    }

    private static void promise11() {
        RingUntie x = new RingUntie();
        for (int sort = 0; sort < 4; sort++) {
            DUE.is("11 at first", x.price(sort, 99), 1);
            DUE.is("11 then", x.price(sort, 0), 99);
            DUE.is("11 100", x.price(sort, 100), BAD);
            DUE.is("11 -1", x.price(sort, -1), BAD);
            DUE.is("11 refused ones change nothing", x.price(sort, 5), 0);
        }
        DUE.is("11 price(4, 0)", x.price(4, 0), NONE);
        DUE.is("11 price(-1, 0)", x.price(-1, 0), NONE);
        DUE.is("11 NONE ahead of BAD", x.price(4, 100), NONE);
        DUE.is("11 no change", x.count(7), 0);
    }

    private static void promise12() {
        RingUntie x = Due.withParts(2);
        x.add(1, 1);
        x.add(2, 1);
        x.add(1, 0);
        Due.body(x, 0, "call 1;odd 1;put 0;get 0;get 0;news 0;add 1;mul 1;put 1;call 0");
        DUE.is("12 acts", x.tie(0, 1, 0), 6);
        DUE.is("12 the other way", x.tie(1, 0, 0), 0);
        DUE.is("12 price 0: none", x.tie(1, 0, 1), 0);
        x.hear(0, 0);
        DUE.is("12 a hearer more", x.tie(0, 1, 0), 7);
        DUE.is("12 a hearer of the news' part is no tie", x.hear(0, 1), 2);
        DUE.is("12 still", x.tie(0, 1, 0), 7);
        DUE.is("12 price at first", x.tie(0, 1, 1), 7);
        x.price(0, 50);
        DUE.is("12 calls", x.tie(0, 1, 1), 2 * 50 + 3 + 2);
        x.price(1, 7);
        DUE.is("12 fields", x.tie(0, 1, 1), 2 * 50 + 3 * 7 + 2);
        x.price(2, 9);
        DUE.is("12 news", x.tie(0, 1, 1), 2 * 50 + 3 * 7 + 2 * 9);
        x.price(3, 99);
        DUE.is("12 no faces", x.tie(0, 1, 1), 2 * 50 + 3 * 7 + 2 * 9);
        DUE.is("12 count(4)", x.count(4), 1);
        for (int what = 0; what < 2; what++) {
            DUE.is("12 tie(0, 0)", x.tie(0, 0, what), NONE);
            DUE.is("12 tie(0, 2)", x.tie(0, 2, what), NONE);
            DUE.is("12 tie(2, 0)", x.tie(2, 0, what), NONE);
            DUE.is("12 tie(-1, 0)", x.tie(-1, 0, what), NONE);
        }
        DUE.is("12 what 2", x.tie(0, 1, 2), NONE);
        DUE.is("12 what -1", x.tie(0, 1, -1), NONE);
    }

    private static void promise12Faces() {
        RingUntie x = web(2, 01, 1);
        x.price(3, 10);
        DUE.is("12 face", x.face(0, 0), 2);
        DUE.is("12 r's part needs the face", x.tie(0, 2, 0), 1);
        DUE.is("12 by a call", x.tie(0, 2, 1), 1);
        DUE.is("12 s's part needs the face", x.tie(1, 2, 0), 1);
        DUE.is("12 by a face", x.tie(1, 2, 1), 10);
        DUE.is("12 not s's part", x.tie(0, 1, 0), 0);
        DUE.is("12 nor the face s's part", x.tie(2, 1, 0), 0);
        x.melt(1, 2);
        DUE.is("12 a face with s in one part", x.count(4), 1);
        DUE.is("12 a call", x.tie(0, 1, 1), 1);
    }

    private static void promise13() {
        RingUntie x = web(3, 01, 1, 10, 2);
        DUE.is("13 at first", x.allow(1, 0, 5), 0);
        DUE.is("13 counts for nothing", x.tie(1, 0, 0), 0);
        DUE.is("13 nor its price", x.tie(1, 0, 1), 0);
        DUE.is("13 nor among all", x.count(4), 1);
        DUE.is("13 groups()", x.groups(), 0);
        DUE.is("13 layer(0)", x.layer(0), 1);
        DUE.is("13 choice()", x.choice(), 0);
        DUE.is("13 bound()", x.bound(), 0);
        DUE.is("13 ring", x.ring(0, 1, 0, 0), NONE);
        x.day(4);
        DUE.is("13 the day ahead", x.groups(), 0);
        x.day(5);
        DUE.is("13 it is over", x.groups(), 1);
        DUE.is("13 it counts", x.tie(1, 0, 0), 2);
        DUE.is("13 as it was told", x.allow(1, 0, 5), 5);
        DUE.is("13 over at once", x.tie(1, 0, 0), 2);
        DUE.is("13 the other way", x.allow(0, 1, 999), 0);
        DUE.is("13 none yet", x.allow(2, 0, 6), 0);
        Due.body(x, 2, "call 0");
        DUE.is("13 a tie that was none", x.tie(2, 0, 0), 0);
        DUE.is("13 allow(0, 1, 1000)", x.allow(0, 1, 1000), BAD);
        DUE.is("13 allow(0, 1, -1)", x.allow(0, 1, -1), BAD);
        DUE.is("13 refused ones change nothing", x.allow(0, 1, 0), 999);
        DUE.is("13 allow(0, 0, 1)", x.allow(0, 0, 1), NONE);
        DUE.is("13 allow(0, 3, 1)", x.allow(0, 3, 1), NONE);
        DUE.is("13 allow(-1, 0, 1)", x.allow(-1, 0, 1), NONE);
        DUE.is("13 NONE ahead of BAD", x.allow(3, 0, 1000), NONE);
    }

    private static void promise14() {
        RingUntie x = new RingUntie();
        DUE.is("14 day(0)", x.day(0), 0);
        DUE.is("14 day(7)", x.day(7), 0);
        DUE.is("14 day(7) again", x.day(7), 7);
        DUE.is("14 day(6)", x.day(6), BAD);
        DUE.is("14 day(-1)", x.day(-1), BAD);
        DUE.is("14 day(1000)", x.day(1000), BAD);
        DUE.is("14 count(8)", x.count(8), 7);
        DUE.is("14 day(999)", x.day(999), 7);
        DUE.is("14 day(998)", x.day(998), BAD);
        DUE.is("14 count(8)", x.count(8), 999);
    }

    private static void promise15and16() {
        RingUntie x = web(7, 13, 1, 35, 1, 51, 1, 24, 1, 42, 1, 45, 1, 06, 1);
        int[] least = {0, 1, 2, 1, 2, 1, 6};
        for (int p = 0; p < 7; p++) {
            DUE.is("15 group(" + p + ")", x.group(p), least[p]);
        }
        DUE.is("15 group(7)", x.group(7), NONE);
        DUE.is("15 group(-1)", x.group(-1), NONE);
        DUE.is("16 groups()", x.groups(), 2);
        x.price(0, 0);
        DUE.is("16 a price of 0 unties none", x.groups(), 2);
        Due.body(x, 1, "call 4");
        DUE.is("16 groups()", x.groups(), 1);
        DUE.is("15 group(3)", x.group(3), 3);
        DUE.is("15 group(5)", x.group(5), 1);
    }

    private static void promise17() {
        RingUntie x = web(6, 20, 1, 04, 1, 03, 1, 35, 1, 45, 1, 52, 1, 31, 1, 05, 1);
        int[] direct = {2, 0, 5};
        DUE.is("17 size", x.ring(2, 0, 0, 0), 3);
        DUE.is("17 what 0 has no i", x.ring(2, 0, 0, 9), 3);
        for (int i = 0; i < 3; i++) {
            DUE.is("17 part " + i, x.ring(2, 0, 1, i), direct[i]);
        }
        DUE.is("17 part 3", x.ring(2, 0, 1, 3), NONE);
        DUE.is("17 part -1", x.ring(2, 0, 1, -1), NONE);
        DUE.is("17 what 2", x.ring(2, 0, 2, 0), NONE);
        DUE.is("17 what -1", x.ring(2, 0, -1, 0), NONE);
        x.allow(0, 5, 9);
        int[] around = {2, 0, 3, 5};
        DUE.is("17 of two ways", x.ring(2, 0, 0, 0), 4);
        for (int i = 0; i < 4; i++) {
            DUE.is("17 the lesser part " + i, x.ring(2, 0, 1, i), around[i]);
        }
        int[] from = {4, 5, 2, 0};
        for (int i = 0; i < 4; i++) {
            DUE.is("17 from p on " + i, x.ring(4, 5, 1, i), from[i]);
        }
        DUE.is("17 not of one group", x.ring(3, 1, 0, 0), NONE);
        DUE.is("17 no tie", x.ring(0, 2, 0, 0), NONE);
        DUE.is("17 an allowed one", x.ring(0, 5, 0, 0), NONE);
        DUE.is("17 p is q", x.ring(0, 0, 0, 0), NONE);
        DUE.is("17 no part", x.ring(0, 6, 0, 0), NONE);
        DUE.is("17 no part", x.ring(-1, 0, 0, 0), NONE);
    }

    private static void order(String name, RingUntie x, int... parts) {
        for (int i = 0; i < parts.length; i++) {
            DUE.is(name + " place " + i, x.chosen(0, i), parts[i]);
        }
        DUE.is(name + " end", x.chosen(0, parts.length), NONE);
    }

    private static void ties(String name, RingUntie x, int... ties) {
        for (int i = 0; i < ties.length; i++) {
            DUE.is(name + " tie " + i, x.chosen(1, i), ties[i]);
        }
        DUE.is(name + " end of ties", x.chosen(1, ties.length), NONE);
    }

    private static void promise18and19() {
        RingUntie x = web(3, 01, 3, 12, 2, 20, 4);
        DUE.is("18 the cheapest of a ring", x.choice(), 2);
        order("19", x, 2, 0, 1);
        ties("19", x, 12);
        x.allow(2, 0, 1);
        DUE.is("18 an allowed one", x.choice(), 0);
        order("19 an allowed one", x, 0, 1, 2);
        ties("19 an allowed one", x);
        x.day(1);
        DUE.is("18 over", x.choice(), 2);
        x.price(0, 9);
        DUE.is("18 dearer", x.choice(), 18);
        x.back();
        DUE.is("18 undone", x.choice(), 0);
        DUE.is("19 what 2", x.chosen(2, 0), NONE);
        DUE.is("19 what -1", x.chosen(-1, 0), NONE);
        DUE.is("19 i -1", x.chosen(0, -1), NONE);
        DUE.is("19 tie -1", x.chosen(1, -1), NONE);
    }

    private static void promise19Orders() {
        order("19 no ties", web(3), 0, 1, 2);
        order("19 need comes first", web(3, 20, 1), 1, 2, 0);
        RingUntie two = web(2, 01, 1, 10, 1);
        order("19 of two the lesser", two, 0, 1);
        ties("19 of two the lesser", two, 10);
        RingUntie x = web(4, 01, 1, 10, 2, 23, 1, 32, 1, 31, 1);
        DUE.is("18 two rings", x.choice(), 2);
        order("19 two rings", x, 2, 3, 1, 0);
        ties("19 two rings", x, 01, 32);
    }

    private static void promise20() {
        RingUntie x = web(3, 01, 3, 12, 2, 20, 4);
        DUE.is("20 one ring", x.bound(), 2);
        DUE.is("20 again", x.bound(), 2);
        x.price(0, 10);
        DUE.is("20 dearer", x.bound(), 20);
        RingUntie y = web(4, 01, 1, 10, 1, 12, 1, 21, 1, 23, 1, 32, 1, 30, 1, 03, 1);
        DUE.is("20 four pairs", y.bound(), 4);
        DUE.is("20 beside the choice", y.choice(), 4);
        DUE.is("20 none", web(3, 01, 1, 12, 1, 02, 1).bound(), 0);
        RingUntie all = web(3, 01, 1, 02, 1, 10, 1, 12, 1, 20, 1, 21, 1);
        DUE.is("20 all of three", all.bound(), 3);
    }

    /** The first of the shortest rings is taken, not the dearest: so the bound may stay below the choice. */
    private static void promise20Order() {
        RingUntie x = web(4, 01, 1, 12, 1, 20, 1, 13, 1, 30, 1, 32, 1, 23, 1);
        // 2, 3 goes first; then 0, 1, 2 takes the tie 0, 1 that 0, 1, 3 has too.
        DUE.is("20 a tie of two rings", x.bound(), 2);
        RingUntie y = web(5, 01, 2, 12, 1, 20, 1, 13, 1, 34, 1, 40, 1);
        DUE.is("20 the longer one next", y.bound(), 2);
        DUE.is("20 the choice", y.choice(), 2);
        // Here the last of the shortest rings ahead of the first one would make 7 of it.
        RingUntie z = web(5, 02, 3, 03, 2, 12, 2, 23, 2, 24, 3, 30, 3, 31, 2, 32, 1, 40, 3);
        DUE.is("20 the first of several", z.bound(), 6);
        DUE.is("20 the first tie is the least", web(3, 01, 1, 12, 2, 20, 4).bound(), 1);
    }

    private static void pricesOfNothing() {
        RingUntie x = web(2, 01, 1, 10, 2);
        x.price(0, 0);
        DUE.is("12 a price of 0", x.tie(0, 1, 1), 0);
        DUE.is("12 is a tie", x.tie(0, 1, 0), 1);
        DUE.is("18 costs nothing", x.choice(), 0);
        ties("19 but is chosen", x, 10);
        DUE.is("20 bounds nothing", x.bound(), 0);
        DUE.is("17 and is a ring", x.ring(0, 1, 0, 0), 2);
    }

    private static void tenParts() {
        RingUntie x = web(10, 98, 1, 87, 1, 76, 1, 65, 1, 54, 1, 43, 1, 32, 1, 21, 1, 10, 1, 9, 2);
        DUE.is("17 ten", x.ring(0, 9, 0, 0), 10);
        DUE.is("17 the last of ten", x.ring(0, 9, 1, 9), 1);
        DUE.is("18 ten", x.choice(), 1);
        order("19 ten", x, 0, 9, 8, 7, 6, 5, 4, 3, 2, 1);
        ties("19 ten", x, 10);
        DUE.is("20 ten", x.bound(), 1);
        DUE.is("22 ten", x.worth(), 0);
    }
}
