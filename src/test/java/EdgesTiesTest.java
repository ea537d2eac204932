/** The boundary cases of promises 11 to 20: ties, groups, rings, the choice and the bound. */
public final class EdgesTiesTest extends Edges {
    public static void main(String[] args) throws Exception {
        runAll(EdgesTiesTest.class, 11, 20);
    }

    // ---- 11 price

    @Says("1 each at first).")
    static void p11_oneEachAtFirst() {
        for (int sort = 0; sort < 4; sort++) {
            is("price(" + sort + ", 7)", new RingUntie().price(sort, 7), 1);
        }
    }

    @Says({"what it was.", "BAD.", "(told for CALL, FIELD, NEWS, FACE, 0 .. 99;", "BAD a number is not as told;"})
    static void p11_from0To99() {
        for (int sort = 0; sort < 4; sort++) {
            int s = sort;
            RingUntie x = new RingUntie();
            is("0 is taken", x.price(s, 0), 1);
            is("it was 0; 99 is taken", x.price(s, 99), 0);
            is("it was 99", x.price(s, 1), 99);
            for (int p : new int[] {LEAST, -1, 100, 101, MOST}) {
                refused("price(" + s + ", " + p + ")", BAD, Edges::busy, y -> y.price(s, p));
            }
        }
    }

    @Says("NONE;")
    static void p11_noSuchSort() {
        for (int sort : new int[] {LEAST, -1, 4, 5, MOST}) {
            refused("price(" + sort + ", 5)", NONE, Edges::busy, x -> x.price(sort, 5));
            refused("price(" + sort + ", -1): which is told", NONE, Edges::busy, x -> x.price(sort, -1));
            refused("price(" + sort + ", 100): which is told", NONE, Edges::busy, x -> x.price(sort, 100));
        }
    }

    static void p11_eachSortHasItsOwn() {
        for (int sort = 0; sort < 4; sort++) {
            RingUntie x = new RingUntie();
            x.price(sort, 50);
            for (int other = 0; other < 4; other++) {
                is("price of " + other, x.price(other, 1), other == sort ? 50 : 1);
            }
        }
    }

    static void p11_isNoChange() {
        RingUntie x = busy();
        int kept = x.count(7);
        x.price(0, 42);
        is("count(7)", x.count(7), kept);
        x.back();
        is("it stays behind back()", x.price(0, 1), 42);
    }

    // ---- 12 tie

    @Says("NONE (p is q, too).")
    static void p12_noSuchPair() {
        for (int p : new int[] {LEAST, -1, 4, 10, MOST}) {
            for (int what = 0; what < 2; what++) {
                int w = what;
                refused("tie(" + p + ", 0)", NONE, Edges::busy, x -> x.tie(p, 0, w));
                refused("tie(0, " + p + ")", NONE, Edges::busy, x -> x.tie(0, p, w));
                refused("tie(" + p + ", " + p + ")", NONE, Edges::busy, x -> x.tie(p, p, w));
            }
        }
        for (int p = 0; p < 4; p++) {
            is("p is q, what 0", busy().tie(p, p, 0), NONE);
            is("p is q, what 1", busy().tie(p, p, 1), NONE);
        }
        is("the last pair of ten", parts(10).tie(9, 8, 0), 0);
        is("a part beyond", parts(10).tie(9, 10, 0), NONE);
    }

    @Says("NONE (p is q, too).")
    static void p12_noSuchWhat() {
        for (int what : new int[] {LEAST, -1, 2, MOST}) {
            refused("tie(0, 1, " + what + ")", NONE, Edges::busy, x -> x.tie(0, 1, what));
        }
    }

    @Says({
        "PART p NEEDS PART q,",
        "by each ACT call, odd of its ROUTINES that tells of a ROUTINE of q (CALL),",
        "by each put, get that tells of a FIELD of q (FIELD),",
        "by each news that tells of a NEWS of q, and by each HEARER of p of a NEWS of q (NEWS);",
        "0: none).",
        "ties with their prices,"})
    static void p12_eachSortByItself() {
        String[] texts = {"call 1", "odd 1", "put 0", "get 0", "news 0"};
        int[] sorts = {0, 0, 1, 1, 2};
        for (int i = 0; i < texts.length; i++) {
            RingUntie x = twoParts();
            is("none yet", x.tie(0, 1, 0), 0);
            is("nor a price", x.tie(0, 1, 1), 0);
            body(x, 0, texts[i]);
            is(texts[i], x.tie(0, 1, 0), 1);
            x.price(sorts[i], 99);
            is(texts[i] + ", its price", x.tie(0, 1, 1), 99);
            is(texts[i] + ", the other way", x.tie(1, 0, 0), 0);
            is(texts[i] + ", its price the other way", x.tie(1, 0, 1), 0);
        }
        RingUntie x = twoParts();
        x.hear(0, 0);
        is("a hearer", x.tie(0, 1, 0), 1);
        x.price(2, 98);
        is("its price", x.tie(0, 1, 1), 98);
        is("the other way", x.tie(1, 0, 0), 0);
        body(x, 0, "add 1;mul 1;add 0;mul 0");
        is("add and mul tell of nothing", x.tie(0, 1, 0), 1);
    }

    /** Part 1 has routine 1, field 0 and news 0; part 0 has routine 0. */
    private static RingUntie twoParts() {
        RingUntie x = Due.withParts(2);
        x.add(FIELD, 1);
        x.add(NEWS, 1);
        return x;
    }

    @Says("TIES: PART p NEEDS PART q, unlike,")
    static void p12_onePartIsNoTie() {
        RingUntie x = things(2, 1, 1);
        x.part();
        body(x, 0, "call 1;odd 1;put 0;get 0;news 0;call 0");
        x.hear(0, 1);
        is("count(4)", x.count(4), 0);
        is("tie(0, 1, 0)", x.tie(0, 1, 0), 0);
        is("tie(1, 0, 0)", x.tie(1, 0, 0), 0);
    }

    @Says({
        "by a FACE: see 4.",
        "by it the FACE does not NEED the PART of s, but that of s NEEDS the FACE (FACE), if they are unlike;",
        "r's PART NEEDS the FACE as ever (CALL)."})
    static void p12_facesOnBothSides() {
        RingUntie x = web(2, 01);
        x.price(3, 50);
        x.face(0, 0);
        is("s's part needs the face", x.tie(1, 2, 0), 1);
        is("by the price of a face", x.tie(1, 2, 1), 50);
        is("the face needs nothing", x.tie(2, 1, 0) + x.tie(2, 0, 0), 0);
        is("r's part needs the face", x.tie(0, 2, 0), 1);
        is("by the price of a call", x.tie(0, 2, 1), 1);
        is("r's part needs s's no more", x.tie(0, 1, 0), 0);
        x.melt(2, 1);
        is("s in the face: one tie is left", x.count(4), 1);
        is("it is r's", x.tie(0, 1, 0), 1);
    }

    static void p12_aFaceOfAnActWithinAPart() {
        RingUntie x = things(2, 0, 0);
        body(x, 0, "call 1");
        x.price(0, 3);
        x.price(3, 20);
        x.face(0, 0);
        is("a call and a face", x.tie(0, 1, 0), 2);
        is("their prices", x.tie(0, 1, 1), 23);
    }

    static void p12_aFaceOfItself() {
        RingUntie x = things(1, 0, 0);
        body(x, 0, "add 1;odd 0");
        is("face", x.face(0, 1), 1);
        is("both", x.tie(0, 1, 0), 2);
        is("the face needs nothing", x.tie(1, 0, 0), 0);
    }

    static void p12_theMostOfOneTie() {
        RingUntie x = parts(2);
        for (int r = 0; r < 20; r++) {
            x.add(ROUTINE, r == 19 ? 1 : 0);
        }
        for (int n = 0; n < 8; n++) {
            x.add(NEWS, 1);
            for (int h = 0; h < 6; h++) {
                x.hear(n, h);
            }
        }
        for (int r = 0; r < 19; r++) {
            body(x, r, times(10, "odd 19"));
        }
        is("acts and hearers", x.tie(0, 1, 0), 190 + 48);
        for (int sort = 0; sort < 4; sort++) {
            x.price(sort, 99);
        }
        is("at 99 each", x.tie(0, 1, 1), 238 * 99);
        is("the choice leaves it", x.choice(), 0);
        body(x, 19, times(9, "call 0"));
        is("or the other one", x.choice(), 9 * 99);
        is("the bound", x.bound(), 9 * 99);
    }

    static void p12_aPriceOf0IsATieStill() {
        RingUntie x = web(2, 01, 10);
        x.price(0, 0);
        is("how many", x.tie(0, 1, 0), 1);
        is("its price", x.tie(0, 1, 1), 0);
        is("count(4)", x.count(4), 2);
        is("groups()", x.groups(), 1);
        is("breaks", x.breaks(0), 2);
        is("layer", x.layer(0), STATE);
        is("worth", x.worth(), 0);
    }

    static void p12_allowedCountsForNothing() {
        RingUntie x = web(2, 01);
        x.allow(0, 1, 1);
        is("how many", x.tie(0, 1, 0), 0);
        is("its price", x.tie(0, 1, 1), 0);
        x.day(1);
        is("how many then", x.tie(0, 1, 0), 1);
        is("its price then", x.tie(0, 1, 1), 1);
    }

    static void p12_aQuestionChangesNothing() {
        refused("tie(0, 1, 0)", 2, Edges::busy, x -> x.tie(0, 1, 0));
    }

    // ---- 13 allow

    @Says({"what was told before (0 at first;", "till a day (0 .. 999;", "BAD."})
    static void p13_daysFrom0To999() {
        for (int day : new int[] {LEAST, -1, 1000, 1001, MOST}) {
            refused("allow(0, 1, " + day + ")", BAD, Edges::busy, x -> x.allow(0, 1, day));
        }
        RingUntie x = parts(2);
        is("0 at first, and 0 is taken", x.allow(0, 1, 0), 0);
        is("999 is taken", x.allow(0, 1, 999), 0);
        is("it was 999", x.allow(0, 1, 1), 999);
        is("it was 1", x.allow(0, 1, 0), 1);
        is("it was 0", x.allow(0, 1, 0), 0);
    }

    @Says("NONE (p is q, too);")
    static void p13_noSuchPair() {
        for (int p : new int[] {LEAST, -1, 4, 10, MOST}) {
            for (int day : new int[] {-1, 0, 5, 1000}) {
                refused("allow(" + p + ", 0, " + day + ")", NONE, Edges::busy, x -> x.allow(p, 0, day));
                refused("allow(0, " + p + ", " + day + ")", NONE, Edges::busy, x -> x.allow(0, p, day));
            }
        }
        for (int day : new int[] {-1, 0, 5, 1000}) {
            refused("p is q", NONE, Edges::busy, x -> x.allow(1, 1, day));
        }
        is("the last pair of ten", parts(10).allow(9, 8, 5), 0);
        is("a part beyond", parts(10).allow(8, 10, 5), NONE);
    }

    @Says("(0 at first;")
    static void p13_each0AtFirst() {
        RingUntie x = parts(10);
        for (int p = 0; p < 10; p++) {
            for (int q = 0; q < 10; q++) {
                is("allow(" + p + ", " + q + ")", x.allow(p, q, 100 + 10 * p + q), p == q ? NONE : 0);
            }
        }
        for (int p = 0; p < 10; p++) {
            for (int q = 0; q < 10; q++) {
                is("as told", x.allow(p, q, 1), p == q ? NONE : 100 + 10 * p + q);
            }
        }
    }

    @Says({"it is over as soon as DAY is that):", "as it was told, also if that is over)."})
    static void p13_overAsSoonAsDayIsThat() {
        for (int till : new int[] {1, 2, 500, 998, 999}) {
            RingUntie x = web(2, 01);
            x.allow(0, 1, till);
            x.day(till - 1);
            is("the day ahead of " + till, x.tie(0, 1, 0), 0);
            x.day(till);
            is("on " + till, x.tie(0, 1, 0), 1);
            is("as it was told, also if that is over", x.allow(0, 1, till), till);
            is("over at once", x.tie(0, 1, 0), 1);
            if (till < 999) {
                x.allow(0, 1, till + 1);
                is("a day more", x.tie(0, 1, 0), 0);
            }
        }
    }

    static void p13_onTheLastDayNothingIsAllowed() {
        RingUntie x = web(2, 01);
        x.day(999);
        is("allow till 999", x.allow(0, 1, 999), 0);
        is("it is over", x.tie(0, 1, 0), 1);
    }

    @Says("A TIE (also one that is none yet) is ALLOWED")
    static void p13_aTieThatIsNoneYet() {
        RingUntie x = Due.withParts(2);
        x.allow(0, 1, 3);
        body(x, 0, "call 1");
        is("it is allowed", x.tie(0, 1, 0), 0);
        is("nor counted", x.count(4), 0);
        x.day(3);
        is("then not", x.count(4), 1);
    }

    static void p13_oneWayAlone() {
        RingUntie x = web(2, 01, 10);
        x.allow(0, 1, 3);
        is("0, 1", x.tie(0, 1, 0), 0);
        is("1, 0", x.tie(1, 0, 0), 1);
        is("told of 1, 0", x.allow(1, 0, 0), 0);
    }

    /** All that sections 2 and 3 say of ties, the day ahead and on the day. */
    @Says("(A TIE that is ALLOWED counts for nothing here, in 2 and 3, till its DAY is over.)")
    static void p13_countsForNothingTillThen() {
        int[] days = {4, 5};
        int[][] due = {
            // groups, group(1), ring, choice, bound, chosen(1, 0), layer(0), worth, breaks, count(4)
            {0, 1, NONE, 0, 0, NONE, 1, 2, 1, 1},
            {1, 0, 2, 1, 1, 10, STATE, 2, 2, 2}};
        for (int k = 0; k < 2; k++) {
            RingUntie x = web(3, 01, 10);
            x.allow(1, 0, 5);
            x.day(days[k]);
            int[] got = {x.groups(), x.group(1), x.ring(0, 1, 0, 0), x.choice(), x.bound(), x.chosen(1, 0),
                x.layer(0), x.worth(), x.breaks(0), x.count(4)};
            for (int i = 0; i < got.length; i++) {
                is("day " + days[k] + ", answer " + i, got[i], due[k][i]);
            }
        }
        RingUntie x = web(2, 01);
        x.allow(0, 1, 5);
        is("worth of an allowed tie", x.worth(), 1);
        x.day(5);
        is("worth then", x.worth(), 0);
    }

    static void p13_isNoChangeButIsTakenBackWithOne() {
        RingUntie x = web(2, 01);
        int kept = x.count(7);
        x.allow(0, 1, 5);
        is("count(7)", x.count(7), kept);
        x.guard(1);
        body(x, 1, "call 1");
        x.allow(0, 1, 7);
        x.back();
        is("as it was ahead of the change", x.allow(0, 1, 5), 5);
        x.back();
        is("and of the one ahead", x.allow(0, 1, 0), 0);
    }

    static void p13_theGuardIsNoMatter() {
        RingUntie x = web(2, 01, 10);
        x.allow(0, 1, 5);
        x.guard(1);
        is("a ring comes back", x.allow(0, 1, 0), 5);
        is("it is there", x.groups(), 1);
        is("nothing was guarded", x.guarded(), NONE);
    }

    // ---- 14 day

    @Says("DAY becomes d, not less than it was: what it was.")
    static void p14_notLessThanItWas() {
        for (int d : new int[] {LEAST, -1, 0, 1, 1000, 1001, MOST}) {
            refused("day(" + d + ")", BAD, Edges::busy, x -> x.day(d));
        }
        RingUntie x = busy();
        is("the same", x.day(2), 2);
        is("one more", x.day(3), 2);
        is("one less", x.day(2), BAD);
        is("count(8)", x.count(8), 3);
    }

    @Says("BAD (0 .. 999).")
    static void p14_from0To999() {
        RingUntie x = new RingUntie();
        is("-1", x.day(-1), BAD);
        is("0", x.day(0), 0);
        is("1000", x.day(1000), BAD);
        is("999", x.day(999), 0);
        is("999 again", x.day(999), 999);
        is("998", x.day(998), BAD);
        is("1000", x.day(1000), BAD);
        is("0", x.day(0), BAD);
        is("count(8)", x.count(8), 999);
    }

    static void p14_isNoChange() {
        RingUntie x = busy();
        int kept = x.count(7);
        x.day(9);
        is("count(7)", x.count(7), kept);
        x.back();
        is("it stays behind back()", x.count(8), 9);
    }

    static void p14_theGuardIsNoMatter() {
        RingUntie x = web(2, 01, 10);
        x.allow(0, 1, 5);
        x.guard(1);
        is("day(5)", x.day(5), 0);
        is("a ring is there", x.groups(), 1);
    }

    // ---- 15 group

    @Says("NONE.")
    static void p15_noSuchPart() {
        for (int p : new int[] {LEAST, -1, 4, 10, MOST}) {
            refused("group(" + p + ")", NONE, Edges::busy, x -> x.group(p));
        }
        is("the last", parts(10).group(9), 9);
        is("beyond", parts(10).group(10), NONE);
    }

    @Says("GROUPS: two PARTS are of one, if they are the same, or there are ways by TIES from each to the other "
        + "one.")
    static void p15_oneWayIsNoGroup() {
        RingUntie x = web(3, 01, 12, 02);
        for (int p = 0; p < 3; p++) {
            is("group(" + p + ")", x.group(p), p);
        }
        body(x, 2, "call 0");
        for (int p = 0; p < 3; p++) {
            is("with a way back", x.group(p), 0);
        }
    }

    static void p15_tenInOne() {
        RingUntie x = web(10, 12, 23, 34, 45, 56, 67, 78, 89, 90, 01);
        for (int p = 0; p < 10; p++) {
            is("group(" + p + ")", x.group(p), 0);
        }
        x.allow(9, 0, 1);
        for (int p = 0; p < 10; p++) {
            is("one tie less", x.group(p), p);
        }
    }

    @Says("The least PART of the GROUP of a PART.")
    static void p15_theLeastIsNotAlways0() {
        RingUntie x = web(10, 98, 89, 97, 79, 10, 12);
        int[] due = {0, 1, 2, 3, 4, 5, 6, 7, 7, 7};
        for (int p = 0; p < 10; p++) {
            is("group(" + p + ")", x.group(p), due[p]);
        }
    }

    static void p15_aQuestionChangesNothing() {
        refused("group(2)", 1, Edges::busy, x -> x.group(2));
        refused("groups()", 1, Edges::busy, RingUntie::groups);
    }

    // ---- 16 groups

    @Says({"How many GROUPS have two PARTS or more.", "Parts of a program that need one another in rings:"})
    static void p16_noneOneAndFive() {
        is("no part", new RingUntie().groups(), 0);
        is("one part", things(1, 0, 0).groups(), 0);
        is("one that calls itself", web(1, 00).groups(), 0);
        is("ten parts", parts(10).groups(), 0);
        is("two in one", web(2, 01, 10).groups(), 1);
        is("ten in one", web(10, 12, 23, 34, 45, 56, 67, 78, 89, 90, 01).groups(), 1);
        is("five", web(10, 01, 10, 23, 32, 45, 54, 67, 76, 89, 98).groups(), 5);
        is("five, with ties between", web(10, 01, 10, 23, 32, 45, 54, 67, 76, 89, 98, 12, 34, 56, 78).groups(), 5);
        is("four, with one way back", web(10, 01, 10, 23, 32, 45, 54, 67, 76, 89, 98, 12, 31).groups(), 4);
        is("two of two and three", web(7, 01, 10, 23, 34, 42, 56).groups(), 2);
    }

    // ---- 17 ring

    @Says("not of one GROUP, i.")
    static void p17_noSuchPartWhatI() {
        for (int p : new int[] {LEAST, -1, 4, 10, MOST}) {
            refused("ring(" + p + ", 1, 0, 0)", NONE, Edges::busy, x -> x.ring(p, 1, 0, 0));
            refused("ring(1, " + p + ", 0, 0)", NONE, Edges::busy, x -> x.ring(1, p, 0, 0));
            refused("ring(" + p + ", " + p + ", 0, 0)", NONE, Edges::busy, x -> x.ring(p, p, 0, 0));
        }
        for (int what : new int[] {LEAST, -1, 2, MOST}) {
            refused("ring(1, 2, " + what + ", 0)", NONE, Edges::busy, x -> x.ring(1, 2, what, 0));
        }
        for (int i : new int[] {LEAST, -1, 2, 10, MOST}) {
            refused("ring(1, 2, 1, " + i + ")", NONE, Edges::busy, x -> x.ring(1, 2, 1, i));
        }
        refused("the size", 2, Edges::busy, x -> x.ring(1, 2, 0, 0));
        refused("the first", 1, Edges::busy, x -> x.ring(1, 2, 1, 0));
        refused("the last", 2, Edges::busy, x -> x.ring(1, 2, 1, 1));
    }

    @Says({"NONE: no TIE, not of one GROUP,", "A RING is told by a TIE p, q of one GROUP:"})
    static void p17_noTieOrNotOfOneGroup() {
        RingUntie x = web(4, 01, 12, 20, 13);
        is("a tie of the group", x.ring(0, 1, 0, 0), 3);
        is("no tie, of one group", x.ring(1, 0, 0, 0), NONE);
        is("no tie, of one group", x.ring(0, 2, 0, 0), NONE);
        is("a tie out of the group", x.ring(1, 3, 0, 0), NONE);
        is("its first part", x.ring(1, 3, 1, 0), NONE);
        is("no tie at all", x.ring(3, 1, 0, 0), NONE);
        for (int p = 0; p < 4; p++) {
            is("p is q", x.ring(p, p, 0, 0), NONE);
        }
    }

    private static void row(String name, RingUntie x, int p, int q, int... due) {
        is(name + ": size", x.ring(p, q, 0, 0), due.length);
        for (int i = 0; i < due.length; i++) {
            is(name + ": part " + i, x.ring(p, q, 1, i), due[i]);
        }
        is(name + ": behind the last", x.ring(p, q, 1, due.length), NONE);
        is(name + ": ahead of the first", x.ring(p, q, 1, -1), NONE);
    }

    @Says({
        "How many PARTS the LEAST RING of a TIE has (what 0), PART i of it, from p on (what 1).",
        "groups and least rings,"})
    static void p17_fromTwoPartsToTen() {
        row("two", web(2, 01, 10), 0, 1, 0, 1);
        row("two, from the other one", web(2, 01, 10), 1, 0, 1, 0);
        RingUntie ten = web(10, 12, 23, 34, 45, 56, 67, 78, 89, 90, 01);
        row("ten", ten, 0, 1, 0, 1, 2, 3, 4, 5, 6, 7, 8, 9);
        row("ten, from 9 on", ten, 9, 0, 9, 0, 1, 2, 3, 4, 5, 6, 7, 8);
        row("ten, from 5 on", ten, 5, 6, 5, 6, 7, 8, 9, 0, 1, 2, 3, 4);
    }

    @Says({
        "the LEAST RING: p, q, and the fewest PARTS by which one comes from q back to p,",
        "of several such rows the one with the lesser PART at the first place at which they differ."})
    static void p17_theFewestThenTheLesser() {
        // From 1 back to 0: over 2 and 5, over 3 and 4, or over 6, 7 and 8.
        RingUntie x = web(9, 01, 13, 34, 40, 12, 25, 50, 16, 67, 78, 80);
        row("the lesser one next", x, 0, 1, 0, 1, 2, 5);
        x.allow(2, 5, 1);
        row("the other one", x, 0, 1, 0, 1, 3, 4);
        x.allow(3, 4, 1);
        row("the longer one", x, 0, 1, 0, 1, 6, 7, 8);
        // The first place at which they differ is told by its part, not by what comes behind it.
        RingUntie y = web(6, 01, 12, 13, 25, 34, 50, 40);
        row("2, 5 ahead of 3, 4", y, 0, 1, 0, 1, 2, 5);
        RingUntie z = web(6, 01, 12, 23, 24, 30, 40);
        row("the last place", z, 0, 1, 0, 1, 2, 3);
        // From 5 to 4, then over 3 or 0, where a part less than p is the least.
        RingUntie w = web(6, 54, 43, 40, 35, 05);
        row("0 ahead of 3", w, 5, 4, 5, 4, 0);
    }

    // ---- 18 choice

    static void p18_nothingToUntie() {
        is("no part", new RingUntie().choice(), 0);
        is("one part", things(1, 0, 0).choice(), 0);
        is("one that calls itself", web(1, 00).choice(), 0);
        is("no ring", web(3, 01, 12, 02).choice(), 0);
        is("ten parts", parts(10).choice(), 0);
    }

    static void p18_allTiesOfTenParts() {
        int[] calls = new int[90];
        int k = 0;
        for (int p = 0; p < 10; p++) {
            for (int q = 0; q < 10; q++) {
                if (p != q) {
                    calls[k++] = 10 * p + q;
                }
            }
        }
        RingUntie x = web(10, calls);
        is("count(4)", x.count(4), 90);
        is("choice()", x.choice(), 45);
        is("bound()", x.bound(), 45);
        for (int i = 0; i < 10; i++) {
            is("order", x.chosen(0, i), i);
        }
        is("the first tie", x.chosen(1, 0), 10);
        is("the last tie", x.chosen(1, 44), 98);
        is("none behind it", x.chosen(1, 45), NONE);
        x.price(0, 99);
        is("dear ones", x.choice(), 45 * 99);
        x.price(0, 0);
        is("for nothing", x.choice(), 0);
        is("chosen still", x.chosen(1, 44), 98);
    }

    @Says({
        "What CHOSEN TIES cost together.",
        "CHOICE: an order of all PARTS such that PRICES of TIES which go from a PART to one that is ahead of "
            + "it are together least,"})
    static void p18_theLeastTogether() {
        is("one of a ring", web(3, 01, 01, 12, 20, 20).choice(), 1);
        is("one that two rings share", web(4, 01, 12, 20, 13, 30).choice(), 1);
        RingUntie x = web(4, 01, 12, 20, 13, 30);
        is("it is 0, 1", x.chosen(1, 0), 1);
        is("alone", x.chosen(1, 1), NONE);
        RingUntie y = web(4, 01, 01, 01, 12, 20, 13, 30);
        is("two cheap ones", y.choice(), 2);
    }

    /** Nothing of an answer may be left for the next one, with fewer parts or other ties. */
    static void p18_askedAgainBehindAChange() {
        RingUntie x = web(3, 01, 12, 20, 20, 21);
        is("three parts", x.choice(), 1);
        is("melt", x.melt(0, 1), 2);
        is("two parts", x.choice(), 1);
        is("back()", x.back() >= 0 ? 1 : 0, 1);
        is("three parts", x.choice(), 1);
        body(x, 2, "");
        is("no ring", x.choice(), 0);
        x.melt(0, 2);
        x.melt(0, 1);
        is("one part", x.choice(), 0);
        RingUntie y = web(10, 90, 98, 97, 9);
        is("ten parts", y.choice(), 1);
        y.melt(8, 9);
        is("nine parts", y.choice(), 1);
        y.melt(0, 8);
        is("eight parts", y.choice(), 0);
        y.back();
        y.back();
        is("ten parts again", y.choice(), 1);
        y.price(0, 5);
        is("dearer", y.choice(), 5);
        y.allow(0, 9, 1);
        is("allowed", y.choice(), 0);
        y.day(1);
        is("over", y.choice(), 5);
    }

    static void p18_aQuestionChangesNothing() {
        refused("choice()", 3, Edges::busy, RingUntie::choice);
        refused("bound()", 3, () -> web(3, 01, 10, 02, 20, 12, 21), RingUntie::bound);
        refused("chosen(0, 1)", 2, Edges::busy, x -> x.chosen(0, 1));
    }

    // ---- 19 chosen

    @Says("NONE.")
    static void p19_noSuchWhatOrI() {
        for (int what : new int[] {LEAST, -1, 2, MOST}) {
            refused("chosen(" + what + ", 0)", NONE, Edges::busy, x -> x.chosen(what, 0));
        }
        for (int i : new int[] {LEAST, -1, 4, 10, MOST}) {
            refused("chosen(0, " + i + ")", NONE, Edges::busy, x -> x.chosen(0, i));
        }
        for (int i : new int[] {LEAST, -1, 1, 10, MOST}) {
            refused("chosen(1, " + i + ")", NONE, Edges::busy, x -> x.chosen(1, i));
        }
        is("the last place", busy().chosen(0, 3), 3);
        is("no part", new RingUntie().chosen(0, 0), NONE);
        is("the tenth of ten", parts(10).chosen(0, 9), 9);
        is("beyond ten", parts(10).chosen(0, 10), NONE);
    }

    private static void order(String name, RingUntie x, int... due) {
        for (int i = 0; i < due.length; i++) {
            is(name + ": place " + i, x.chosen(0, i), due[i]);
        }
        is(name + ": behind the last", x.chosen(0, due.length), NONE);
    }

    private static void ties(String name, RingUntie x, int... due) {
        for (int i = 0; i < due.length; i++) {
            is(name + ": tie " + i, x.chosen(1, i), due[i]);
        }
        is(name + ": behind the last tie", x.chosen(1, due.length), NONE);
    }

    static void p19_noTieIsChosenWithoutARing() {
        RingUntie x = web(3, 20, 21, 10);
        order("no ring", x, 2, 1, 0);
        ties("no ring", x);
    }

    @Says({
        "The i-th PART of the order (what 0);",
        "of several the order with the lesser PART at the first place at which they differ;"})
    static void p19_theLesserAtTheFirstPlace() {
        order("no ties", parts(3), 0, 1, 2);
        order("one part", parts(1), 0);
        order("2 needs 0", web(3, 20), 1, 2, 0);
        RingUntie ring = web(3, 01, 12, 20);
        order("a ring", ring, 0, 1, 2);
        ties("a ring", ring, 20);
        RingUntie other = web(3, 02, 21, 10);
        order("a ring the other way", other, 0, 2, 1);
        ties("a ring the other way", other, 10);
    }

    @Says({"the i-th of CHOSEN TIES (by p, then q), as 10 p + q (what 1).", "CHOSEN are these TIES."})
    static void p19_tiesByPThenQ() {
        RingUntie x = web(4, 01, 10, 02, 20, 12, 21, 03, 30);
        order("pairs", x, 0, 1, 2, 3);
        ties("pairs", x, 10, 20, 21, 30);
        RingUntie y = web(10, 98, 98, 89);
        order("8, 9", y, 0, 1, 2, 3, 4, 5, 6, 7, 9, 8);
        ties("8, 9", y, 89);
        RingUntie z = web(2, 01, 10, 10);
        order("0, 1", z, 1, 0);
        ties("0, 1 is told as 1", z, 1);
    }

    static void p19_newPricesMakeANewOrder() {
        RingUntie x = twoParts();
        body(x, 0, "call 1;call 1");
        body(x, 1, "call 0");
        ties("calls", x, 10);
        x.add(FIELD, 0);
        body(x, 1, "get 1");
        ties("a field", x, 10);
        x.price(1, 3);
        ties("dearer than two calls", x, 1);
        x.price(1, 2);
        ties("as dear as they are", x, 10);
    }

    // ---- 20 bound

    static void p20_nothingToTakeOff() {
        is("no part", new RingUntie().bound(), 0);
        is("one part", web(1, 00).bound(), 0);
        is("no ring", web(3, 01, 12, 02).bound(), 0);
        RingUntie x = web(2, 01, 10);
        x.price(0, 0);
        is("a ring for nothing", x.bound(), 0);
    }

    @Says({
        "BOUND.",
        "the least PRICE of a TIE in this RING is taken off all its TIES' PRICES, and added to BOUND",
        "(a TIE whose PRICE is 0 is none any more);"})
    static void p20_theLeastIsTakenOffAll() {
        is("one and two", web(2, 01, 10, 10).bound(), 1);
        is("two and two", web(2, 01, 01, 10, 10).bound(), 2);
        is("ten", web(10, 12, 23, 34, 45, 56, 67, 78, 89, 90, 01).bound(), 1);
        is("a ring behind the shorter one", web(3, 01, 01, 10, 12, 20).bound(), 2);
        is("the shorter one leaves none", web(3, 01, 10, 12, 20).bound(), 1);
    }

    /** Of two rings of one length the one of the first tie is taken: what is left depends on it. */
    @Says("BOUND: again and again: of all TIES (by p, then q) of one GROUP the one with the shortest LEAST "
        + "RING, the first of several;")
    static void p20_theFirstOfTheShortest() {
        // 0, 1, 2 is taken first; then 0, 1, 3 has nothing of 0, 1 left.
        is("one of two", web(4, 01, 12, 20, 13, 30).bound(), 1);
        // 0, 1 with its two rings of two: each is taken for itself.
        is("a star", web(4, 01, 10, 02, 20, 03, 30).bound(), 3);
        // A shorter one among later parts goes ahead of a longer one among the first.
        is("2, 3 first", web(4, 01, 12, 23, 32, 30).bound(), 1);
        is("and 2, 3 twice", web(4, 01, 12, 23, 23, 32, 30).bound(), 2);
        // 0, 1 has a ring of three, 0, 2 one of two, which is taken; 1, 2 is left.
        is("0, 2 ahead of 0, 1, 2", web(3, 01, 02, 12, 20, 21).bound(), 2);
        // 0, 1 and 0, 2 are taken; with 0, 2, 1 ahead of them neither would be left.
        is("0, 1 and 0, 2 ahead of 0, 2, 1", web(3, 01, 02, 10, 20, 21).bound(), 2);
        // 0, 3, 2 is taken and 1, 4, 2 is left; with 1, 4, 2 first the other two would fall with it.
        is("0, 3, 2 first", web(5, 03, 04, 14, 20, 21, 21, 32, 32, 42).bound(), 2);
        // 0, 4, 2 is taken, and 1, 4, 3 is left; of 1, 4, 2 none would be.
        is("0, 4, 2 first", web(5, 03, 04, 14, 20, 21, 31, 42, 43).bound(), 2);
        // 0, 3, 2 is taken, and 1, 2, 4 is left; of 0, 3, 2, 4 and the like none would be.
        is("0, 3, 2 first, then 1, 2, 4", web(5, 03, 03, 12, 20, 24, 32, 41, 43).bound(), 2);
    }

    @Says("till no GROUP of two is left.")
    static void p20_tiesThatAreOfNoRing() {
        is("to 0, beside a ring", web(4, 20, 13, 31).bound(), 1);
        is("from 0, beside a ring", web(4, 02, 13, 31).bound(), 1);
        is("from one ring to the other", web(4, 01, 10, 23, 32, 12, 02).bound(), 2);
        is("back", web(4, 01, 10, 23, 32, 21, 20).bound(), 2);
    }

    static void p20_allowedTiesAreNone() {
        RingUntie x = web(3, 01, 10, 12, 21);
        is("both", x.bound(), 2);
        x.allow(2, 1, 1);
        is("one", x.bound(), 1);
        x.day(1);
        is("both again", x.bound(), 2);
    }

    static void p20_neverAboveTheChoice() {
        RingUntie x = web(4, 01, 02, 03, 10, 12, 13, 20, 21, 23, 30, 31, 32);
        is("choice()", x.choice(), 6);
        is("bound()", x.bound(), 6);
        RingUntie y = web(5, 01, 12, 23, 34, 40, 02, 24, 41, 13, 30);
        holds("below or as much", y.bound() <= y.choice());
    }
}
