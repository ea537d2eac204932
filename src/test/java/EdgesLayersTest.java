/** The boundary cases of promises 21 to 25: layers, what they break, the guard. */
public final class EdgesLayersTest extends Edges {
    public static void main(String[] args) throws Exception {
        runAll(EdgesLayersTest.class, 21, 25);
    }

    // ---- 21 layer

    @Says("NONE;")
    static void p21_noSuchPart() {
        Build flat = () -> web(3, 01, 12);
        for (int p : new int[] {LEAST, -1, 3, 10, MOST}) {
            refused("layer(" + p + ")", NONE, flat, x -> x.layer(p));
        }
        for (int p : new int[] {LEAST, -1, 4, 10, MOST}) {
            refused("layer(" + p + "), some group has two: which is told", NONE, Edges::busy, x -> x.layer(p));
        }
        is("the last", flat.make().layer(2), 0);
        is("the tenth", parts(10).layer(9), 0);
        is("an eleventh", parts(10).layer(10), NONE);
    }

    @Says({"STATE: some GROUP has two.", "LAYER of a PART (if no GROUP has two):"})
    static void p21_someGroupHasTwo() {
        for (int p = 0; p < 4; p++) {
            int part = p;
            refused("layer(" + p + ")", STATE, Edges::busy, x -> x.layer(part));
        }
        RingUntie x = web(4, 01, 23, 32);
        is("one far from the ring", x.layer(0), STATE);
        body(x, 3, "");
        is("no ring", x.layer(0), 1);
        is("no ring", x.layer(2), 1);
    }

    @Says({"LAYER.", "0, if it NEEDS none;"})
    static void p21_from0To9() {
        RingUntie x = web(10, 98, 87, 76, 65, 54, 43, 32, 21, 10);
        for (int p = 0; p < 10; p++) {
            is("layer(" + p + ")", x.layer(p), p);
        }
        RingUntie y = web(10, 01, 12, 23, 34, 45, 56, 67, 78, 89);
        for (int p = 0; p < 10; p++) {
            is("layer(" + p + ")", y.layer(p), 9 - p);
        }
        body(y, 9, "call 9");
        is("its own part", y.layer(9), 0);
        body(y, 9, "call 0");
        is("a ring of ten", y.layer(9), STATE);
    }

    @Says("else 1 more than the greatest of those that it NEEDS.")
    static void p21_theGreatestOfThoseItNeeds() {
        RingUntie x = web(6, 01, 05, 12, 15, 25, 34);
        int[] due = {3, 2, 1, 1, 0, 0};
        for (int p = 0; p < 6; p++) {
            is("layer(" + p + ")", x.layer(p), due[p]);
        }
        x.allow(2, 5, 1);
        is("one tie less", x.layer(0), 2);
        is("it needs none", x.layer(2), 0);
        x.day(1);
        is("over", x.layer(0), 3);
    }

    static void p21_oneAlone() {
        is("one part", parts(1).layer(0), 0);
        is("that calls itself", web(1, 00).layer(0), 0);
    }

    // ---- 22 worth

    @Says({
        "WORTH.",
        "BUILT AHEAD of a PART are all PARTS to which ways lead from it;",
        "WORTH: how many pairs of PARTS there are of which neither is BUILT AHEAD of the other one."})
    static void p22_fromNoneToAll() {
        is("no part", new RingUntie().worth(), 0);
        for (int parts = 1; parts <= 10; parts++) {
            is(parts + " parts", parts(parts).worth(), parts * (parts - 1) / 2);
        }
        is("two with a tie", web(2, 01).worth(), 0);
        is("two with a tie back", web(2, 10).worth(), 0);
        is("a ring of two", web(2, 01, 10).worth(), 0);
        is("a chain of ten", web(10, 01, 12, 23, 34, 45, 56, 67, 78, 89).worth(), 0);
        is("a chain of nine, and one", web(10, 01, 12, 23, 34, 45, 56, 67, 78).worth(), 9);
        is("a star", web(4, 01, 02, 03).worth(), 3);
        is("the other way", web(4, 10, 20, 30).worth(), 3);
        is("two rings", web(4, 01, 10, 23, 32).worth(), 4);
        is("two rings and a way", web(4, 01, 10, 23, 32, 12).worth(), 0);
    }

    static void p22_aQuestionChangesNothing() {
        refused("worth()", 0, Edges::busy, RingUntie::worth);
    }

    // ---- 23 breaks

    @Says("BAD: below 0,")
    static void p23_belowNought() {
        for (long layers : new long[] {Long.MIN_VALUE, -10000000000L, -10, -1}) {
            refused("breaks(" + layers + ")", BAD, Edges::busy, x -> x.breaks(layers));
            refused("with ten parts", BAD, () -> parts(10), x -> x.breaks(layers));
            refused("with none", BAD, RingUntie::new, x -> x.breaks(layers));
        }
    }

    @Says("a digit of no PART.")
    static void p23_aDigitOfNoPart() {
        long most = 0;
        for (int parts = 0; parts <= 10; parts++) {
            is(parts + " digits", parts(parts).breaks(most), 0);
            int n = parts;
            long beyond = most + 1;
            for (long layers : new long[] {beyond, 9 * beyond, beyond * 10, Long.MAX_VALUE}) {
                refused(layers + " of " + n + " parts", BAD, () -> parts(n), x -> x.breaks(layers));
            }
            most = 10 * most + 9;
        }
        is("4294967296 of ten", parts(10).breaks(4294967296L), 0);
        is("4294967296 of nine", parts(9).breaks(4294967296L), BAD);
    }

    @Says({
        "BREAKS of told layers (a digit 0 .. 9 for each PART): TIES p, q with p's digit not above q's.",
        "layers, what they break,"})
    static void p23_notAboveIsBroken() {
        for (int d = 0; d < 10; d++) {
            for (int e = 0; e < 10; e++) {
                is("0 needs 1: " + d + ", " + e, web(2, 01).breaks(10 * e + d), d > e ? 0 : 1);
                is("1 needs 0: " + d + ", " + e, web(2, 10).breaks(10 * e + d), e > d ? 0 : 1);
            }
        }
        is("a ring is always broken", web(2, 01, 10).breaks(10), 1);
        is("twice if they are alike", web(2, 01, 10).breaks(11), 2);
    }

    @Says("(digits, PART 0's the lowest).")
    static void p23_partNoughtsDigitIsTheLowest() {
        RingUntie x = web(10, 98, 87, 76, 65, 54, 43, 32, 21, 10);
        is("all as they should be", x.breaks(9876543210L), 0);
        is("all wrong", x.breaks(123456789L), 9);
        is("all alike", x.breaks(5555555555L), 9);
        is("the last alone", x.breaks(9000000000L), 8);
        is("0, 1 alike", x.breaks(9876543211L), 1);
        is("noughts ahead are digits too", x.breaks(0), 9);
    }

    @Says("How many TIES BREAK told layers")
    static void p23_aTieOfManyActsIsOne() {
        RingUntie x = web(2, 01, 01, 01);
        is("three calls", x.breaks(0), 1);
        x.price(0, 99);
        is("dear ones", x.breaks(0), 1);
        x.allow(0, 1, 1);
        is("allowed", x.breaks(0), 0);
        x.day(1);
        is("over", x.breaks(0), 1);
    }

    static void p23_aQuestionChangesNothing() {
        refused("breaks(0)", 6, Edges::busy, x -> x.breaks(0));
    }

    // ---- 24 guard

    @Says("The GUARD is on (1), off (0): what it was. BAD.")
    static void p24_onAndOffAlone() {
        for (int is : new int[] {LEAST, -1, 2, 3, MOST}) {
            refused("guard(" + is + "), off", BAD, Edges::busy, x -> x.guard(is));
            refused("guard(" + is + "), on", BAD, () -> {
                RingUntie x = busy();
                x.guard(1);
                return x;
            }, x -> x.guard(is));
        }
        RingUntie x = new RingUntie();
        is("off at first", x.guard(1), 0);
        is("on", x.guard(1), 1);
        is("on still", x.guard(0), 1);
        is("off", x.guard(0), 0);
        is("off still", x.guard(1), 0);
    }

    static void p24_isNoChange() {
        RingUntie x = busy();
        int kept = x.count(7);
        x.guard(1);
        is("count(7)", x.count(7), kept);
        x.back();
        is("it stays behind back()", x.guard(0), 1);
    }

    /** A change of each kind that joins two parts, and an object ahead of it. */
    private static RingUntie aheadOfRing(int kind) {
        RingUntie x;
        switch (kind) {
            case 0: case 2: x = web(3, 01); break;
            case 1:
                x = web(3, 01);
                x.add(NEWS, 0);
                break;
            case 3: case 4:
                x = web(3, 01);
                x.add(kind - 2, 2);
                body(x, 1, kind == 3 ? "get 0" : "news 0");
                break;
            case 5: x = web(3, 12, 20); break;
            case 6:
                // What is 1, 0 and allowed becomes 3, 0, which is not; and 1 needs 3 then.
                x = web(3, 10);
                x.add(ROUTINE, 1);
                body(x, 0, "call 3");
                body(x, 3, "call 1");
                x.allow(1, 0, 9);
                break;
            default:
                x = web(3, 01, 10);
                x.face(1, 0);
                break;
        }
        if (kind == 2) {
            x.add(ROUTINE, 2);
            body(x, 1, "call 3");
        }
        x.guard(1);
        return x;
    }

    private static int makeRing(RingUntie x, int kind) {
        switch (kind) {
            case 0: return body(x, 1, "call 0");
            case 1: return x.hear(0, 1);
            case 2: return x.move(ROUTINE, 3, 0);
            case 3: return x.move(FIELD, 0, 0);
            case 4: return x.move(NEWS, 0, 0);
            case 5: return x.melt(1, 0);
            case 6: return x.split(1, 2);
            default: return x.pull(3);
        }
    }

    @Says({
        "With the GUARD on, a change (body, hear, move, split, melt,",
        "pull)",
        "behind which two PARTS would be of one GROUP that are not so ahead of it",
        "is refused: GUARDED,",
        "changes that make a ring refused and told,"})
    static void p24_eachChangeOnAndOff() {
        String[] names = {"body", "hear", "move of a routine", "move of a field", "move of a news", "melt", "split",
            "pull"};
        int[] taken = {1, 1, 2, 2, 2, 2, 3, 1};
        for (int kind = 0; kind < names.length; kind++) {
            int k = kind;
            RingUntie off = aheadOfRing(k);
            off.guard(0);
            int groups = off.groups();
            is(names[k] + ", off", makeRing(off, k), taken[k]);
            is(names[k] + ", a group comes to be", off.groups(), groups + 1);
            Call call = x -> makeRing(x, k);
            if (k == 0) {
                guardedBody(names[k], 1, () -> aheadOfRing(k), call);
            } else {
                guarded(names[k], 1, () -> aheadOfRing(k), call);
            }
        }
    }

    static void p24_partAndAddAreNotGuarded() {
        RingUntie x = web(2, 01, 10);
        x.guard(1);
        is("part()", x.part(), 2);
        for (int what = 0; what < 3; what++) {
            is("add", x.add(what, 2), what == 0 ? 2 : 0);
        }
        is("back()", x.back() >= 0 ? 1 : 0, 1);
    }

    @Says("turn, face,")
    static void p24_turnsAndFacesAreTaken() {
        RingUntie x = web(2, 01, 10);
        x.guard(1);
        is("turn", x.turn(0, 0), 0);
        is("face", x.face(1, 0), 2);
        is("guarded()", x.guarded(), NONE);
    }

    static void p24_aRingThatIsThereIsNoMatter() {
        RingUntie x = web(3, 01, 10);
        x.guard(1);
        is("more of the same tie", body(x, 0, "call 1;call 1"), 2);
        is("a tie out of the group", body(x, 1, "call 0;call 2"), 2);
        is("a tie within it", body(x, 0, "call 1;odd 1;call 2"), 3);
        is("guarded()", x.guarded(), NONE);
        is("it grows", body(x, 2, "call 0"), GUARDED);
        is("another way back", body(x, 2, "call 1"), GUARDED);
        is("it goes", body(x, 1, ""), 0);
        is("it comes again", body(x, 1, "call 0"), GUARDED);
    }

    /** A ring beside it, of the lesser or of the greater parts, refuses no change of any kind. */
    static void p24_aRingBesideTheChangeIsNoMatter() {
        for (int low = 0; low < 5; low += 4) {
            // Parts a, b make the ring; what is changed lies in c, d and beyond.
            int a = low, b = low + 1, c = 4 - low, d = 5 - low;
            Build build = () -> {
                RingUntie x = web(6, 10 * a + b, 10 * b + a, 10 * c + d, 10 * c + d);
                x.add(FIELD, c);
                x.add(NEWS, d);
                x.guard(1);
                return x;
            };
            is("body", body(build.make(), d, "call " + d), 1);
            is("hear", build.make().hear(0, c), 1);
            is("move of a routine", build.make().move(ROUTINE, d, 2), d);
            is("move of a field", build.make().move(FIELD, 0, 2), c);
            is("move of a news", build.make().move(NEWS, 0, 3), d);
            is("split", build.make().split(c, 1 << c), 6);
            is("melt", build.make().melt(c, d), 5);
            is("melt of others", build.make().melt(3, 2), 5);
            is("turn", build.make().turn(c, 0), 1);
            RingUntie x = build.make();
            is("face", x.face(c, 0), 6);
            is("pull", x.pull(6), 1);
            is("groups()", x.groups(), 1);
            is("guarded()", x.guarded(), NONE);
        }
    }

    /** One group of four where there were two of two: the pairs between them are new. */
    static void p24_twoGroupsBecomeOne() {
        RingUntie x = web(4, 01, 10, 23, 32, 12);
        x.guard(1);
        is("the way back", body(x, 3, "call 2;call 0"), GUARDED);
        is("guarded()", x.guarded(), 12);
        is("no way back", body(x, 3, "call 2;call 3"), 2);
    }

    static void p24_aGroupThatFallsApartIsNoMatter() {
        RingUntie x = web(3, 01, 12, 20);
        x.guard(1);
        is("a shorter ring is left", body(x, 1, "call 0"), 1);
        is("group(2)", x.group(2), 2);
    }

    static void p24_allowedTiesMakeNoRing() {
        RingUntie x = web(2, 01);
        x.guard(1);
        x.allow(1, 0, 2);
        is("allowed", body(x, 1, "call 0"), 1);
        x.day(1);
        is("the day ahead", body(x, 1, "call 0;add 1"), 2);
        body(x, 1, "");
        x.day(2);
        is("the day", body(x, 1, "call 0"), GUARDED);
        x.allow(0, 1, 3);
        is("the other tie allowed", body(x, 1, "call 0"), 1);
    }

    @Says("(both being there)")
    static void p24_newPartsWereNotThere() {
        RingUntie x = parts(1);
        x.add(ROUTINE, 0);
        x.add(ROUTINE, 0);
        body(x, 0, "call 1");
        body(x, 1, "call 0");
        x.guard(1);
        is("a ring with the new part", x.split(0, 2), 1);
        is("it is there", x.groups(), 1);
        is("guarded()", x.guarded(), NONE);
    }

    @Says("(both being there)")
    static void p24_aMeltedPartIsNotThere() {
        RingUntie x = web(3, 01, 12);
        x.guard(1);
        is("two that need one another in a row", x.melt(1, 2), 2);
        RingUntie y = web(3, 01, 12);
        y.guard(1);
        is("the last into the first", y.melt(0, 2), GUARDED);
        is("guarded()", y.guarded(), 1);
        is("the first into the last", y.melt(2, 0), GUARDED);
        is("as they would be numbered", y.guarded(), 1);
        RingUntie z = web(3, 01, 10);
        z.guard(1);
        is("a ring melts to one part", z.melt(0, 1), 2);
        is("groups()", z.groups(), 0);
    }

    /** The group of a part that goes is not that of the one it goes into. */
    static void p24_aMeltIntoAGroup() {
        RingUntie x = web(4, 12, 21);
        x.guard(1);
        is("one of the ring into one outside", x.melt(0, 1), GUARDED);
        is("guarded()", x.guarded(), 1);
        is("one outside into the ring", x.melt(1, 0), 3);
        is("the ring is there", x.groups(), 1);
        is("the other one outside", x.melt(0, 2), 2);
    }

    // ---- 25 guarded

    @Says("NONE: none was.")
    static void p25_noneWas() {
        is("at first", new RingUntie().guarded(), NONE);
        RingUntie x = web(2, 01);
        x.guard(1);
        body(x, 1, "add 1");
        body(x, 1, "call 9");
        body(x, 1, "x");
        x.move(ROUTINE, 0, 0);
        x.melt(0, 0);
        is("refused for something else", x.guarded(), NONE);
        x.guard(0);
        body(x, 1, "call 0");
        is("taken, as it is off", x.guarded(), NONE);
    }

    @Says("The TIE that was told as a change was GUARDED, of the latest such one,")
    static void p25_theLatestOne() {
        RingUntie x = web(4, 01, 12, 23);
        x.guard(1);
        body(x, 3, "call 2");
        is("2, 3", x.guarded(), 23);
        body(x, 2, "call 1");
        is("1, 2", x.guarded(), 12);
        body(x, 3, "call 0");
        is("0, 1", x.guarded(), 1);
        is("asked again", x.guarded(), 1);
    }

    static void p25_stays() {
        RingUntie x = web(3, 01, 12);
        x.guard(1);
        body(x, 2, "call 1");
        is("told", x.guarded(), 12);
        body(x, 2, "add 1");
        is("behind a change that was taken", x.guarded(), 12);
        body(x, 2, "call 9");
        x.move(ROUTINE, 0, 0);
        is("behind other refusals", x.guarded(), 12);
        x.guard(0);
        body(x, 2, "call 0");
        is("behind a ring that was taken", x.guarded(), 12);
        x.back();
        x.back();
        is("behind back()", x.guarded(), 12);
        x.part();
        x.melt(0, 1);
        is("behind a melt that changes numbers", x.guarded(), 12);
    }

    @Says("as 10 p + q.")
    static void p25_from1To98() {
        RingUntie x = web(10, 89);
        x.guard(1);
        is("a ring of 8 and 9", body(x, 9, "call 8"), GUARDED);
        is("8, 9 is told", x.guarded(), 89);
        RingUntie y = web(10, 01);
        y.guard(1);
        is("a ring of 0 and 1", body(y, 1, "call 0"), GUARDED);
        is("0, 1 is told", y.guarded(), 1);
        // 8, 9 is there and of one group by 7; with 9 in it the new ties are 9, 8 alone.
        RingUntie z = web(10, 98, 87, 79);
        z.guard(1);
        is("of one group already", body(z, 8, "call 7;call 9"), 2);
    }

    @Says({"and of the TIES p, q that there would be, of one GROUP, the first one", "or not of one GROUP, is told."})
    static void p25_theFirstByPThenQ() {
        // 3 calls 1: of one group are 1, 2, 3 then; 2, 3 and 3, 2 were so ahead.
        RingUntie x = web(4, 12, 23, 32);
        x.guard(1);
        is("grows", body(x, 3, "call 2;call 1"), GUARDED);
        is("1, 2 was a tie, but not of one group", x.guarded(), 12);
        // With 1, 2 a group, 0 comes to it by 2, 0: the first is 0, 1 again.
        RingUntie y = web(3, 01, 12, 21);
        y.guard(1);
        is("grows at the other end", body(y, 2, "call 1;call 0"), GUARDED);
        is("0, 1", y.guarded(), 1);
        // 0, 1 are a group; 1 has ties to 0 (old) and to 2, and 2 comes back.
        RingUntie z = web(3, 01, 10, 12);
        z.guard(1);
        is("grows by 2", body(z, 2, "call 0"), GUARDED);
        is("1, 2: 0, 1 and 1, 0 were of one", z.guarded(), 12);
        // 0 has two ties, and the lesser q is told.
        RingUntie w = web(3, 02, 01);
        w.guard(1);
        is("a ring of all", body(w, 2, "call 0"), GUARDED);
        is("0, 2: 0, 1 would not be of one", w.guarded(), 2);
        // 0, 2 and 2, 0 were of one; 1 comes in by 2, 1 and goes to 0 itself.
        RingUntie u = web(3, 02, 20, 21);
        u.guard(1);
        is("1 comes in", body(u, 1, "call 0"), GUARDED);
        is("1, 0", u.guarded(), 10);
        RingUntie v = web(3, 02, 01, 12);
        v.guard(1);
        is("a ring of all", body(v, 2, "call 0"), GUARDED);
        is("0, 1 ahead of 0, 2", v.guarded(), 1);
    }

    /** A tie that comes to be may be told, also one of two parts that were of one group already. */
    @Says("that was none ahead of it,")
    static void p25_aTieThatWasNone() {
        RingUntie x = web(4, 12, 20, 01, 30);
        x.guard(1);
        // 0, 1, 2 are a group; 0 gets a tie to 2, which is new, and one to 3, by which 3 comes in.
        is("two new ties", body(x, 0, "call 1;call 2;call 3"), GUARDED);
        is("0, 2 was none, ahead of 0, 3", x.guarded(), 2);
    }

    @Says("(by p, then q, as they would be numbered)")
    static void p25_asTheyWouldBeNumbered() {
        RingUntie x = web(5, 24, 43);
        x.guard(1);
        is("3 into 2", x.melt(2, 3), GUARDED);
        is("4 would be 3", x.guarded(), 23);
        is("2 into 3", x.melt(3, 2), GUARDED);
        is("3 would be 2", x.guarded(), 23);
        is("numbers are as they were", x.where(ROUTINE, 4), 4);
        // What was 2, 3 of one group is 1, 2 then, so not new.
        RingUntie y = web(5, 23, 32, 24, 40);
        y.guard(1);
        is("0 into 2", y.melt(2, 0), GUARDED);
        is("2 is 1, 4 is 3", y.guarded(), 13);
    }

    static void p25_ofANewPart() {
        RingUntie x = web(2, 01);
        x.add(ROUTINE, 1);
        body(x, 1, "call 2;call 0");
        body(x, 2, "call 1");
        x.allow(1, 0, 9);
        x.guard(1);
        is("split", x.split(1, 2), GUARDED);
        is("0, 2 with 2 the new one", x.guarded(), 2);
        is("it is not there", x.count(0), 2);
    }
}
