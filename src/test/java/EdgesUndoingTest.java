/** The boundary cases of promises 26 to 33: moves, splits, melts, turns, faces, pulls, back, counts. */
public final class EdgesUndoingTest extends Edges {
    public static void main(String[] args) throws Exception {
        runAll(EdgesUndoingTest.class, 26, 33);
    }

    // ---- 26 move

    @Says("NONE;")
    static void p26_noSuchWhatNumberPart() {
        for (int what : new int[] {LEAST, -1, 3, MOST}) {
            refused("move(" + what + ", 0, 1)", NONE, Edges::busy, x -> x.move(what, 0, 1));
        }
        int[] totals = {5, 1, 1};
        for (int what = 0; what < 3; what++) {
            int w = what;
            for (int i : new int[] {LEAST, -1, totals[what], 20, MOST}) {
                refused("move(" + w + ", " + i + ", 0)", NONE, Edges::busy, x -> x.move(w, i, 0));
            }
            for (int part : new int[] {LEAST, -1, 4, 10, MOST}) {
                refused("move(" + w + ", 0, " + part + ")", NONE, Edges::busy, x -> x.move(w, 0, part));
            }
        }
    }

    @Says({
        "MOVE of a ROUTINE, FIELD, NEWS (what as in add()): where it lay.",
        "MOVE: a ROUTINE, FIELD, NEWS goes to another PART."})
    static void p26_theLastOfEach() {
        RingUntie x = parts(10);
        int[] most = {20, 10, 8};
        for (int what = 0; what < 3; what++) {
            for (int i = 0; i < most[what]; i++) {
                x.add(what, 0);
            }
            is("to the last part", x.move(what, most[what] - 1, 9), 0);
            is("it lies there", x.where(what, most[what] - 1), 9);
            is("the one ahead of it does not", x.where(what, most[what] - 2), 0);
            is("and back", x.move(what, most[what] - 1, 0), 9);
            is("a part beyond", x.move(what, 0, 10), NONE);
            is("one beyond", x.move(what, most[what], 1), NONE);
        }
    }

    @Says("STATE: it lies there;")
    static void p26_itLiesThere() {
        refused("routine", STATE, Edges::busy, x -> x.move(ROUTINE, 1, 1));
        refused("field", STATE, Edges::busy, x -> x.move(FIELD, 0, 2));
        refused("news", STATE, Edges::busy, x -> x.move(NEWS, 0, 1));
        RingUntie x = busy();
        is("elsewhere", x.move(NEWS, 0, 0), 1);
        is("there again", x.move(NEWS, 0, 0), STATE);
        is("and back", x.move(NEWS, 0, 1), 0);
    }

    @Says("a FACE ROUTINE;")
    static void p26_aFaceRoutineStays() {
        for (int part = 0; part < 4; part++) {
            int p = part;
            refused("to part " + p, STATE, Edges::busy, x -> x.move(ROUTINE, 4, p));
        }
        RingUntie x = busy();
        is("who it stands for may go", x.move(ROUTINE, 3, 3), 0);
        is("into the face: no tie by it", x.tie(0, 3, 0), 0);
        x.back();
        x.pull(4);
        is("a pulled one may go", x.move(ROUTINE, 4, 0), 3);
        RingUntie y = things(3, 3, 3);
        y.part();
        body(y, 0, "call 1");
        is("a face routine", y.face(0, 0), 3);
        y.add(FIELD, 0);
        y.add(NEWS, 0);
        is("a field of its number may go", y.move(FIELD, 3, 1), 0);
        is("a news of its number may go", y.move(NEWS, 3, 1), 0);
    }

    static void p26_whichIsTold() {
        refused("a face routine, no part", NONE, Edges::busy, x -> x.move(ROUTINE, 4, 4));
        refused("no routine, a part that is there", NONE, Edges::busy, x -> x.move(ROUTINE, 5, 3));
        Build ring = () -> {
            RingUntie x = web(2, 01, 10);
            x.face(1, 0);
            body(x, 0, "call 1;call 2");
            x.guard(1);
            return x;
        };
        refused("a face routine, guarded else", STATE, ring, x -> x.move(ROUTINE, 2, 1));
        refused("it lies there, on guard", STATE, ring, x -> x.move(ROUTINE, 0, 0));
    }

    @Says("GUARDED.")
    static void p26_guardedOnBothSides() {
        Build chain = () -> {
            RingUntie x = web(3, 01, 12);
            x.guard(1);
            return x;
        };
        guarded("2 to 0", 1, chain, x -> x.move(ROUTINE, 2, 0));
        guarded("0 to 2", 12, chain, x -> x.move(ROUTINE, 0, 2));
        is("2 to 1", chain.make().move(ROUTINE, 2, 1), 2);
        is("1 to 0", chain.make().move(ROUTINE, 1, 0), 1);
        is("1 to 2", chain.make().move(ROUTINE, 1, 2), 1);
    }

    /** The part of s needs the face, wherever s goes; the face's part may need others by what was added. */
    static void p26_guardedByAFace() {
        Build build = () -> {
            RingUntie x = web(2, 01);
            x.face(0, 0);
            x.part();
            x.add(ROUTINE, 2);
            x.add(ROUTINE, 3);
            body(x, 3, "call 4");
            x.guard(1);
            return x;
        };
        guarded("s to what the face's part needs", 23, build, x -> x.move(ROUTINE, 1, 3));
        is("s to the face's part", build.make().move(ROUTINE, 1, 2), 1);
        is("s to r's part", build.make().move(ROUTINE, 1, 0), 1);
    }

    static void p26_tiesGoWithIt() {
        RingUntie x = busy();
        is("routine 1 to 0", x.move(ROUTINE, 1, 0), 1);
        is("its put", x.tie(0, 2, 0), 3);
        is("what calls it", x.tie(2, 0, 0), 0);
        x.day(9);
        is("what calls it, not allowed any more", x.tie(2, 0, 0), 1);
        is("the hearer of its old part's news", x.tie(2, 1, 0), 1);
    }

    @Says("and all that is told in 4,")
    static void p26_takenBack() {
        takenBack("routine", 1, Edges::busy, x -> x.move(ROUTINE, 1, 2));
        takenBack("field", 2, Edges::busy, x -> x.move(FIELD, 0, 3));
        takenBack("news", 1, Edges::busy, x -> x.move(NEWS, 0, 0));
    }

    // ---- 27 split

    @Says("NONE;")
    static void p27_noSuchPart() {
        for (int part : new int[] {LEAST, -1, 4, 10, MOST}) {
            refused("split(" + part + ", 1)", NONE, Edges::busy, x -> x.split(part, 1));
        }
    }

    @Says("none;")
    static void p27_noneInTheSet() {
        for (int part = 0; part < 4; part++) {
            int p = part;
            refused("split(" + p + ", 0)", BAD, Edges::busy, x -> x.split(p, 0));
        }
    }

    @Says("BAD: the set (bits) has one that is not there,")
    static void p27_oneThatIsNotThere() {
        for (int bit = 5; bit < 32; bit++) {
            int set = 1 << bit;
            refused("bit " + bit, BAD, Edges::busy, x -> x.split(0, set));
            is("bit " + bit + " and one that is there", busy().split(0, set | 1), BAD);
        }
        refused("all bits", BAD, Edges::busy, x -> x.split(0, -1));
        for (int bit = 0; bit < 32; bit++) {
            RingUntie x = things(20, 0, 0);
            is("bit " + bit + " of 20", x.split(0, 1 << bit), bit < 20 ? 1 : BAD);
        }
        is("all 20", things(20, 0, 0).split(0, (1 << 20) - 1), 1);
        is("all 20 of 19", things(19, 0, 0).split(0, (1 << 20) - 1), BAD);
        is("all 19 of 19", things(19, 0, 0).split(0, (1 << 19) - 1), 1);
    }

    @Says("a FACE ROUTINE,")
    static void p27_aFaceRoutine() {
        refused("alone, of its part", BAD, Edges::busy, x -> x.split(3, 1 << 4));
        refused("with another one", BAD, Edges::busy, x -> x.split(0, 1 << 4 | 1));
        RingUntie x = busy();
        x.pull(4);
        is("a pulled one", x.split(3, 1 << 4), 4);
    }

    @Says("STATE: one is not of the PART;")
    static void p27_oneThatIsNotOfThePart() {
        refused("alone", STATE, Edges::busy, x -> x.split(0, 2));
        refused("with one that is", STATE, Edges::busy, x -> x.split(0, 1 | 4));
        refused("the last of them", STATE, Edges::busy, x -> x.split(2, 4 | 8));
        is("all of the part", busy().split(0, 1 | 8), 4);
        is("one of them", busy().split(0, 8), 4);
    }

    @Says({"SPLIT: the number of the new PART.", "FULL;"})
    static void p27_tenPartsAtMost() {
        RingUntie nine = Due.withParts(9);
        is("the tenth", nine.split(8, 1 << 8), 9);
        is("an eleventh", nine.split(9, 1 << 8), FULL);
        refused("an eleventh", FULL, () -> Due.withParts(10), x -> x.split(9, 1 << 9));
    }

    @Says({"GUARDED.", "They change nothing."})
    static void p27_whichIsTold() {
        Build full = () -> {
            RingUntie x = Due.withParts(9);
            body(x, 0, "call 1");
            x.face(0, 0);
            return x;
        };
        refused("no part, no set", NONE, full, x -> x.split(10, 0));
        refused("no part, not there", NONE, full, x -> x.split(10, 1 << 10));
        refused("no part, full", NONE, full, x -> x.split(-1, 1));
        refused("no set, full", BAD, full, x -> x.split(0, 0));
        refused("not there, not of it, full", BAD, full, x -> x.split(0, 1 << 10 | 2));
        refused("a face routine, not of it, full", BAD, full, x -> x.split(0, 1 << 9));
        refused("not of it, full", STATE, full, x -> x.split(0, 2));
        refused("full", FULL, full, x -> x.split(0, 1));
        Build ring = () -> {
            RingUntie x = guardedSplit();
            for (int p = 2; p < 10; p++) {
                x.part();
            }
            return x;
        };
        refused("full, guarded else", FULL, ring, x -> x.split(1, 2));
        refused("not there, guarded else", BAD, EdgesUndoingTest::guardedSplit, x -> x.split(1, 2 | 8));
        refused("not of it, guarded else", STATE, EdgesUndoingTest::guardedSplit, x -> x.split(1, 2 | 1));
        guarded("guarded", 1, EdgesUndoingTest::guardedSplit, x -> x.split(1, 2));
    }

    /** What is 1, 0 and allowed would be 2, 0, which is not; and 1 needs 2 then. */
    private static RingUntie guardedSplit() {
        RingUntie x = web(2, 10);
        x.add(ROUTINE, 1);
        body(x, 0, "call 2");
        body(x, 2, "call 1");
        x.allow(1, 0, 9);
        x.guard(1);
        return x;
    }

    @Says("SPLIT: ROUTINES of a PART, of a set, go to a new one.")
    static void p27_routinesAloneGo() {
        RingUntie x = things(3, 2, 2);
        body(x, 0, "put 1;news 1;call 1");
        x.hear(1, 0);
        is("split", x.split(0, 1), 1);
        is("the routine", x.where(ROUTINE, 0), 1);
        is("another one", x.where(ROUTINE, 1), 0);
        is("a field", x.where(FIELD, 1), 0);
        is("a news", x.where(NEWS, 1), 0);
        is("ties to what stays", x.tie(1, 0, 0), 4);
        is("none back", x.tie(0, 1, 0), 0);
        is("nothing is allowed", x.allow(0, 1, 0) + x.allow(1, 0, 0), 0);
    }

    static void p27_ofTheNewPartNothingIsAllowed() {
        RingUntie x = web(2, 01);
        x.allow(0, 1, 9);
        is("split", x.split(0, 1), 2);
        is("it stays with the old one", x.allow(0, 1, 9), 9);
        is("the new one's tie counts", x.tie(2, 1, 0), 1);
    }

    @Says("and all that is told in 4,")
    static void p27_takenBack() {
        takenBack("one of two", 4, Edges::busy, x -> x.split(0, 1));
        takenBack("both", 4, Edges::busy, x -> x.split(0, 9));
        takenBack("the tenth part", 9, () -> {
            RingUntie x = parts(9);
            x.add(ROUTINE, 8);
            return x;
        }, x -> x.split(8, 1));
    }

    // ---- 28 melt

    @Says("NONE;")
    static void p28_noSuchPart() {
        for (int p : new int[] {LEAST, -1, 4, 10, MOST}) {
            refused("melt(" + p + ", 0)", NONE, Edges::busy, x -> x.melt(p, 0));
            refused("melt(0, " + p + ")", NONE, Edges::busy, x -> x.melt(0, p));
            refused("melt(" + p + ", " + p + "): which is told", NONE, Edges::busy, x -> x.melt(p, p));
        }
    }

    @Says("BAD: they are one;")
    static void p28_theyAreOne() {
        for (int part = 0; part < 4; part++) {
            int p = part;
            refused("melt(" + p + ", " + p + ")", BAD, Edges::busy, x -> x.melt(p, p));
        }
        refused("the only one", BAD, () -> things(1, 1, 1), x -> x.melt(0, 0));
        refused("on guard", BAD, () -> {
            RingUntie x = web(2, 01);
            x.guard(1);
            return x;
        }, x -> x.melt(0, 0));
    }

    @Says("MELT of q into p: how many PARTS there are.")
    static void p28_fromTenToOne() {
        RingUntie x = Due.withParts(10);
        for (int parts = 9; parts >= 1; parts--) {
            is("melt", x.melt(parts % 2 == 0 ? 0 : parts, parts % 2 == 0 ? parts : 0), parts);
        }
        for (int r = 0; r < 10; r++) {
            is("where", x.where(ROUTINE, r), 0);
        }
        is("no more", x.melt(0, 1), NONE);
    }

    @Says("MELT: all that lies in a PART q comes to p, PARTS behind q have a number less then")
    static void p28_eachPairOfFour() {
        for (int p = 0; p < 4; p++) {
            for (int q = 0; q < 4; q++) {
                if (p == q) {
                    continue;
                }
                RingUntie x = Due.withParts(4);
                for (int part = 0; part < 4; part++) {
                    x.add(FIELD, part);
                    x.add(NEWS, part);
                }
                is("melt(" + p + ", " + q + ")", x.melt(p, q), 3);
                for (int i = 0; i < 4; i++) {
                    int stays = i == q ? p : i, due = stays > q ? stays - 1 : stays;
                    for (int what = 0; what < 3; what++) {
                        is("melt(" + p + ", " + q + "), where(" + what + ", " + i + ")", x.where(what, i), due);
                    }
                }
                is("a part less", x.group(3), NONE);
            }
        }
    }

    static void p28_allThatThereCanBe() {
        int[] most = {20, 10, 8};
        for (int q = 0; q < 10; q++) {
            RingUntie x = parts(10);
            for (int what = 0; what < 3; what++) {
                for (int i = 0; i < most[what]; i++) {
                    x.add(what, 9 - i % 10);
                }
            }
            int p = 9 - q;
            is("melt(" + p + ", " + q + ")", x.melt(p, q), 9);
            for (int what = 0; what < 3; what++) {
                for (int i = 0; i < most[what]; i++) {
                    int home = 9 - i % 10 == q ? p : 9 - i % 10;
                    is("where(" + what + ", " + i + ")", x.where(what, i), home > q ? home - 1 : home);
                }
            }
        }
    }

    @Says("(what is ALLOWED goes with them; what was of q is not any more).")
    static void p28_whatIsAllowedGoesWithThem() {
        for (int p = 0; p < 4; p++) {
            for (int q = 0; q < 4; q++) {
                if (p != q) {
                    meltAllowed(p, q);
                }
            }
        }
    }

    private static void meltAllowed(int p, int q) {
        RingUntie x = parts(4);
        for (int a = 0; a < 4; a++) {
            for (int b = 0; b < 4; b++) {
                x.allow(a, b, 100 + 10 * a + b);
            }
        }
        x.melt(p, q);
        for (int a = 0; a < 3; a++) {
            for (int b = 0; b < 3; b++) {
                int a0 = a < q ? a : a + 1, b0 = b < q ? b : b + 1;
                is("melt(" + p + ", " + q + "), allowed " + a + ", " + b, x.allow(a, b, 100 + 10 * a0 + b0),
                    a == b ? NONE : 100 + 10 * a0 + b0);
            }
        }
        is("the part that is gone", x.allow(0, 3, 1), NONE);
        is("a new one", x.part(), 3);
        for (int a = 0; a < 3; a++) {
            is("what was of the old one is not any more", x.allow(a, 3, 0), 0);
            is("nor from it", x.allow(3, a, 0), 0);
        }
        x.back();
        x.back();
        is("taken back", x.allow(q, p, 0), 100 + 10 * q + p);
    }

    static void p28_ofTenParts() {
        RingUntie x = parts(10);
        x.allow(9, 8, 98);
        x.allow(8, 9, 89);
        x.allow(0, 9, 9);
        is("the first goes", x.melt(9, 0), 9);
        is("9, 8 is 8, 7", x.allow(8, 7, 0), 98);
        is("8, 9 is 7, 8", x.allow(7, 8, 0), 89);
        is("0, 9 is gone", x.allow(0, 8, 0), 0);
        is("a tenth", x.part(), 9);
        is("of it nothing is told", x.allow(9, 8, 0) + x.allow(8, 9, 0) + x.allow(0, 9, 0), 0);
    }

    static void p28_allowedTiesOfQBecomeTiesOfP() {
        RingUntie x = web(3, 02, 12);
        x.allow(1, 2, 9);
        is("0, 2 alone", x.count(4), 1);
        is("1 into 0", x.melt(0, 1), 2);
        is("two calls, none allowed", x.tie(0, 1, 0), 2);
        RingUntie y = web(3, 02, 12);
        y.allow(1, 2, 9);
        is("0 into 1", y.melt(1, 0), 2);
        is("1, 2 was allowed, and is as 0, 1", y.tie(0, 1, 0), 0);
    }

    @Says("GUARDED.")
    static void p28_guardedOnBothSides() {
        Build chain = () -> {
            RingUntie x = web(4, 01, 12);
            x.guard(1);
            return x;
        };
        guarded("2 into 0", 1, chain, x -> x.melt(0, 2));
        guarded("0 into 2", 1, chain, x -> x.melt(2, 0));
        is("1 into 0", chain.make().melt(0, 1), 3);
        is("2 into 1", chain.make().melt(1, 2), 3);
        is("3 into 0", chain.make().melt(0, 3), 3);
        guarded("with what is allowed", 1, () -> {
            RingUntie x = chain.make();
            x.allow(3, 2, 5);
            x.allow(0, 3, 6);
            return x;
        }, x -> x.melt(0, 2));
    }

    static void p28_guardedByWhatIsNotAllowedAnyMore() {
        Build build = () -> {
            RingUntie x = web(3, 12, 20);
            x.allow(1, 2, 9);
            x.guard(1);
            return x;
        };
        guarded("1 into 0: what was allowed of 1 is not any more", 1, build, x -> x.melt(0, 1));
        is("0 into 1: it is allowed still", build.make().melt(1, 0), 2);
        guarded("1 into 0 on the day", 1, () -> {
            RingUntie x = build.make();
            x.day(9);
            return x;
        }, x -> x.melt(0, 1));
    }

    static void p28_facesMeltToo() {
        RingUntie x = busy();
        is("the face into 1", x.melt(1, 3), 3);
        is("its routine", x.where(ROUTINE, 4), 1);
        is("it is a face routine still", x.count(6), 1);
        is("0 needs 1 by call, news and face", x.tie(0, 1, 0), 3);
        is("it can be pulled", x.pull(4), 1);
        is("then 1 needs 0", x.tie(1, 0, 0), 1);
    }

    @Says("and all that is told in 4,")
    static void p28_takenBack() {
        takenBack("the last into the first", 3, Edges::busy, x -> x.melt(0, 3));
        takenBack("the first into the last", 3, Edges::busy, x -> x.melt(3, 0));
        takenBack("of two", 1, () -> web(2, 01), x -> x.melt(1, 0));
    }

    // ---- 29 turn

    @Says("NONE;")
    static void p29_noSuchRoutineOrAct() {
        for (int r : new int[] {LEAST, -1, 5, 20, MOST}) {
            refused("turn(" + r + ", 0)", NONE, Edges::busy, x -> x.turn(r, 0));
        }
        for (int i : new int[] {LEAST, -1, 4, 10, MOST}) {
            refused("turn(0, " + i + ")", NONE, Edges::busy, x -> x.turn(0, i));
        }
        refused("of no body", NONE, Edges::busy, x -> x.turn(3, 0));
        RingUntie x = things(2, 0, 0);
        body(x, 0, times(9, "add 1") + ";call 1");
        is("the tenth act", x.turn(0, 9), 0);
        is("an eleventh", x.turn(0, 10), NONE);
    }

    @Says("no call,")
    static void p29_callsAlone() {
        String[] texts = {"add 0", "mul 0", "put 0", "get 0", "call 0", "odd 0", "news 0"};
        for (int i = 0; i < 7; i++) {
            String text = texts[i];
            Build build = () -> {
                RingUntie x = things(2, 1, 1);
                body(x, 1, text);
                return x;
            };
            if (i == 4) {
                takenBack(text, 1, build, x -> x.turn(1, 0));
            } else {
                refused(text, STATE, build, x -> x.turn(1, 0));
            }
        }
    }

    @Says({"STATE: it is a FACE ROUTINE's,", "or tells of a FACE ROUTINE;"})
    static void p29_faceRoutines() {
        refused("an act of one", STATE, Edges::busy, x -> x.turn(4, 0));
        refused("it has one alone", NONE, Edges::busy, x -> x.turn(4, 1));
        Build telling = () -> {
            RingUntie x = web(2, 01);
            x.face(0, 0);
            return x;
        };
        refused("a call that tells of one", STATE, telling, x -> x.turn(0, 0));
        RingUntie x = telling.make();
        x.pull(2);
        is("a pulled one", x.turn(0, 0), 0);
        body(x, 1, "call 2");
        is("a call that tells of a pulled one", x.turn(1, 0), 1);
    }

    private static RingUntie withNews(int news) {
        RingUntie x = things(3, 0, news);
        body(x, 0, "call 1;odd 1");
        x.face(0, 1);
        return x;
    }

    @Says({"TURN of ACT i: the number of the new NEWS.", "FULL;"})
    static void p29_eightNewsAtMost() {
        takenBack("the eighth", 7, () -> withNews(7), x -> x.turn(0, 0));
        refused("a ninth", FULL, () -> withNews(8), x -> x.turn(0, 0));
        RingUntie x = things(2, 0, 0);
        body(x, 0, times(10, "call 1"));
        for (int n = 0; n < 8; n++) {
            is("news " + n, x.turn(0, n), n);
        }
        is("a ninth", x.turn(0, 8), FULL);
        is("it is a call still", x.act(0, 8, 0), 4);
        is("the run is as before", x.run(0, 5), 5);
    }

    static void p29_whichIsTold() {
        refused("no routine, full", NONE, () -> withNews(8), x -> x.turn(5, 0));
        refused("no act, full", NONE, () -> withNews(8), x -> x.turn(0, 2));
        refused("no act of a face routine", NONE, () -> withNews(8), x -> x.turn(3, 1));
        refused("an odd, full", STATE, () -> withNews(8), x -> x.turn(0, 1));
        refused("a face routine's, full", STATE, () -> withNews(8), x -> x.turn(3, 0));
        refused("full", FULL, () -> withNews(8), x -> x.turn(0, 0));
    }

    @Says("TURN: an ACT call of a ROUTINE becomes news of a new NEWS, which lies in the PART of the ROUTINE "
        + "that it tells, and has this one as its HEARER.")
    static void p29_whatComesToBe() {
        RingUntie x = web(3, 02);
        x.price(2, 7);
        is("turn", x.turn(0, 0), 0);
        is("the act", x.act(0, 0, 0), 6);
        is("its number", x.act(0, 0, 1), 0);
        is("the news lies with what was called", x.where(NEWS, 0), 2);
        is("which hears it", x.hear(0, 2), STATE);
        is("alone", x.hear(0, 1), 2);
        x.back();
        is("the tie", x.tie(0, 2, 0), 1);
        is("its price", x.tie(0, 2, 1), 7);
        is("none back", x.tie(2, 0, 0), 0);
        is("a ring, on guard", web(2, 01, 10).turn(0, 0), 0);
    }

    @Says("GUARDED.")
    static void p29_onGuard() {
        RingUntie x = web(3, 01, 10, 12);
        x.guard(1);
        is("within a ring", x.turn(0, 0), 0);
        is("out of it", x.turn(1, 1), 1);
        is("guarded()", x.guarded(), NONE);
        is("the ring is there still", x.groups(), 1);
    }

    static void p29_theRunEndsAsBefore() {
        RingUntie x = things(20, 0, 0);
        for (int r = 0; r < 19; r++) {
            body(x, r, "call " + (r + 1));
        }
        body(x, 19, "add 1;odd 10");
        is("30 at work", x.run(0, 0), 2);
        for (int r = 0; r < 8; r++) {
            is("turn", x.turn(r, 0), r);
            is("30 at work still", x.run(0, 0), 2);
            is("acts", x.done(), 32);
        }
    }

    @Says("and all that is told in 4,")
    static void p29_takenBack() {
        takenBack("turn", 1, Edges::busy, x -> x.turn(0, 0));
        takenBack("of the last act", 1, Edges::busy, x -> x.turn(2, 1));
    }

    // ---- 30 face

    @Says("NONE;")
    static void p30_noSuchRoutineOrAct() {
        for (int r : new int[] {LEAST, -1, 5, 20, MOST}) {
            refused("face(" + r + ", 0)", NONE, Edges::busy, x -> x.face(r, 0));
        }
        for (int i : new int[] {LEAST, -1, 4, 10, MOST}) {
            refused("face(0, " + i + ")", NONE, Edges::busy, x -> x.face(0, i));
        }
        refused("of no body", NONE, Edges::busy, x -> x.face(3, 0));
        RingUntie x = things(2, 0, 0);
        body(x, 0, times(9, "add 1") + ";odd 1");
        is("the tenth act", x.face(0, 9), 2);
        is("an eleventh", x.face(0, 10), NONE);
    }

    @Says("no call, odd,")
    static void p30_callsAndOddsAlone() {
        String[] texts = {"add 0", "mul 0", "put 0", "get 0", "call 0", "odd 0", "news 0"};
        for (int i = 0; i < 7; i++) {
            String text = texts[i];
            Build build = () -> {
                RingUntie x = things(2, 1, 1);
                body(x, 1, text);
                return x;
            };
            if (i == 4 || i == 5) {
                takenBack(text, 2, build, x -> x.face(1, 0));
            } else {
                refused(text, STATE, build, x -> x.face(1, 0));
            }
        }
    }

    @Says({"STATE: it is a FACE ROUTINE's,", "or tells of a FACE ROUTINE;"})
    static void p30_faceRoutines() {
        refused("an act of one", STATE, Edges::busy, x -> x.face(4, 0));
        refused("it has one alone", NONE, Edges::busy, x -> x.face(4, 1));
        refused("an odd that tells of one", STATE, Edges::busy, x -> x.face(1, 1));
        Build telling = () -> {
            RingUntie x = web(2, 01);
            x.face(0, 0);
            return x;
        };
        refused("a call that tells of one", STATE, telling, x -> x.face(0, 0));
        RingUntie x = telling.make();
        x.pull(2);
        is("behind a pull", x.face(0, 0), 3);
        is("a part more", x.where(ROUTINE, 3), 3);
    }

    private static RingUntie withRoutines(int parts, int routines) {
        RingUntie x = parts(parts);
        for (int r = 0; r < routines; r++) {
            x.add(ROUTINE, r % parts);
        }
        body(x, 0, "call 1;odd 2;add 1");
        return x;
    }

    @Says("FULL: PARTS,")
    static void p30_tenPartsAtMost() {
        RingUntie x = withRoutines(9, 5);
        is("the tenth part", x.face(0, 0), 5);
        is("where", x.where(ROUTINE, 5), 9);
        is("an eleventh", x.face(0, 1), FULL);
        refused("an eleventh", FULL, () -> withRoutines(10, 5), y -> y.face(0, 1));
    }

    @Says("ROUTINES;")
    static void p30_twentyRoutinesAtMost() {
        RingUntie x = withRoutines(3, 19);
        is("the 20th routine", x.face(0, 0), 19);
        is("where", x.where(ROUTINE, 19), 3);
        is("a 21st", x.face(0, 1), FULL);
        refused("a 21st", FULL, () -> withRoutines(3, 20), y -> y.face(0, 1));
        refused("both are full", FULL, () -> withRoutines(10, 20), y -> y.face(0, 1));
        RingUntie both = withRoutines(9, 19);
        is("the last of both", both.face(0, 0), 19);
        is("no part came of what was refused", withRoutines(3, 20).count(0), 3);
    }

    static void p30_whichIsTold() {
        Build full = () -> withRoutines(10, 20);
        refused("no routine, full", NONE, full, x -> x.face(20, 0));
        refused("no act, full", NONE, full, x -> x.face(0, 3));
        refused("an add, full", STATE, full, x -> x.face(0, 2));
        refused("full", FULL, full, x -> x.face(0, 0));
        Build faced = () -> {
            RingUntie x = withRoutines(9, 19);
            x.face(0, 0);
            return x;
        };
        refused("tells of a face routine, full", STATE, faced, x -> x.face(0, 0));
        refused("a face routine's, full", STATE, faced, x -> x.face(19, 0));
        refused("no act of a face routine", NONE, faced, x -> x.face(19, 1));
        refused("another one, full", FULL, faced, x -> x.face(0, 1));
    }

    @Says({
        "A FACE for ACT i: the number of the ROUTINE in it.",
        "A FACE is a PART more, for an ACT call, odd of a ROUTINE r that tells of ROUTINE s:",
        "a ROUTINE (a FACE ROUTINE) comes to be in it whose BODY is call s, and r's ACT tells of that one;"})
    static void p30_whatComesToBe() {
        RingUntie x = withRoutines(3, 3);
        is("face of a call", x.face(0, 0), 3);
        is("its part", x.where(ROUTINE, 3), 3);
        is("the act is a call", x.act(0, 0, 0), 4);
        is("of the face routine", x.act(0, 0, 1), 3);
        is("whose body is a call", x.act(3, 0, 0), 4);
        is("of what was called", x.act(3, 0, 1), 1);
        is("and no more", x.act(3, 1, 0), NONE);
        is("face of an odd", x.face(0, 1), 4);
        is("the act is an odd", x.act(0, 1, 0), 5);
        is("its body is a call", x.act(4, 0, 0), 4);
        is("of what was told", x.act(4, 0, 1), 2);
        is("two face routines", x.count(6), 2);
        is("the third act is as it was", x.act(0, 2, 0), 0);
    }

    @Says("GUARDED.")
    static void p30_onGuard() {
        RingUntie x = web(2, 01, 10);
        x.guard(1);
        is("face", x.face(0, 0), 2);
        is("no ring is left", x.groups(), 0);
        is("guarded()", x.guarded(), NONE);
    }

    @Says("and all that is told in 4,")
    static void p30_takenBack() {
        takenBack("of a call", 5, Edges::busy, x -> x.face(0, 0));
        takenBack("of an odd", 5, Edges::busy, x -> x.face(0, 1));
        takenBack("the last part", 1, () -> {
            RingUntie x = parts(9);
            x.add(ROUTINE, 0);
            body(x, 0, "call 0");
            return x;
        }, x -> x.face(0, 0));
    }

    // ---- 31 pull

    @Says("NONE;")
    static void p31_noSuchRoutine() {
        for (int r : new int[] {LEAST, -1, 5, 20, MOST}) {
            refused("pull(" + r + ")", NONE, Edges::busy, x -> x.pull(r));
        }
    }

    @Says("STATE: it is no FACE ROUTINE;")
    static void p31_noFaceRoutine() {
        for (int r = 0; r < 4; r++) {
            int routine = r;
            refused("pull(" + r + ")", STATE, Edges::busy, x -> x.pull(routine));
        }
        refused("one that looks like one", STATE, () -> web(3, 01), x -> x.pull(0));
        refused("one that was pulled", STATE, () -> {
            RingUntie x = busy();
            x.pull(4);
            return x;
        }, x -> x.pull(4));
    }

    @Says({
        "PULLED: how many ACTS tell of another ROUTINE then.",
        "PULLED is a FACE ROUTINE: each ACT that tells of it tells of s again;"})
    static void p31_howManyActs() {
        RingUntie none = quiet();
        body(none, 1, "");
        is("no act", none.pull(4), 0);
        is("one act", busy().pull(4), 1);
        RingUntie x = things(19, 0, 0);
        body(x, 0, "call 1");
        is("face", x.face(0, 0), 19);
        for (int r = 0; r < 19; r++) {
            body(x, r, times(5, "call 19") + ";" + times(5, "odd 19"));
        }
        is("all acts of nineteen", x.pull(19), 190);
        for (int r = 0; r < 19; r++) {
            is("a call", x.act(r, 0, 0), 4);
            is("of 1", x.act(r, 0, 1), 1);
            is("an odd", x.act(r, 9, 0), 5);
            is("of 1", x.act(r, 9, 1), 1);
        }
        is("its own is none any more", x.count(5), 190);
    }

    static void p31_actsThatWereDoNotCount() {
        RingUntie x = things(18, 0, 0);
        body(x, 0, "call 1");
        is("face", x.face(0, 0), 18);
        body(x, 2, "add 1;call 18;odd 18");
        body(x, 2, "add 1");
        body(x, 3, "call 18");
        body(x, 3, "");
        body(x, 17, times(10, "call 18"));
        is("eleven are left", x.pull(18), 11);
        is("of the shorter body", x.act(2, 0, 0), 0);
        is("one act", x.act(2, 1, 0), NONE);
        RingUntie z = things(19, 0, 0);
        body(z, 18, times(10, "call 0"));
        is("face", z.face(18, 9), 19);
        is("the tenth act of the last but one", z.pull(19), 1);
    }

    static void p31_otherActsOfThatNumberStay() {
        RingUntie x = things(2, 5, 5);
        body(x, 0, "call 1");
        is("face", x.face(0, 0), 2);
        body(x, 1, "add 2;mul 2;put 2;get 2;news 2;call 0;odd 2;call 2");
        is("pull", x.pull(2), 3);
        int[] numbers = {2, 2, 2, 2, 2, 0, 1, 1};
        for (int i = 0; i < numbers.length; i++) {
            is("act " + i, x.act(1, i, 1), numbers[i]);
        }
    }

    @Says("it stays where it is, with no BODY, and is no FACE any more.")
    static void p31_itStaysWithNoBody() {
        RingUntie x = quiet();
        x.pull(4);
        is("where", x.where(ROUTINE, 4), 3);
        is("its first act", x.act(4, 0, 0), NONE);
        is("its run", x.run(4, 7), 7);
        is("acts", x.done(), 0);
        is("face routines", x.count(6), 0);
        is("routines", x.count(1), 5);
        is("parts", x.count(0), 4);
        is("no tie to its part", x.tie(0, 3, 0) + x.tie(1, 3, 0), 0);
        is("the tie it stood for", x.tie(1, 0, 0), 1);
        is("it may be called", body(x, 0, "call 4"), 1);
        is("and get a face", x.face(0, 0), 5);
    }

    @Says("GUARDED.")
    static void p31_guardedOnBothSides() {
        Build ring = () -> {
            RingUntie x = web(2, 01, 10);
            x.face(1, 0);
            x.guard(1);
            return x;
        };
        guarded("pull(2)", 1, ring, x -> x.pull(2));
        RingUntie off = ring.make();
        off.guard(0);
        is("off", off.pull(2), 1);
        is("a ring", off.groups(), 1);
        RingUntie none = ring.make();
        body(none, 0, "");
        is("no ring", none.pull(2), 1);
        is("it is free", none.groups(), 0);
    }

    @Says("and all that is told in 4,")
    static void p31_takenBack() {
        takenBack("pull", 1, Edges::busy, x -> x.pull(4));
    }

    // ---- 32 back

    @Says("STATE: none is.")
    static void p32_noneIsKept() {
        refused("at first", STATE, RingUntie::new, RingUntie::back);
        refused("behind all", STATE, () -> {
            RingUntie x = parts(2);
            x.back();
            x.back();
            return x;
        }, RingUntie::back);
        refused("calls that are no changes", STATE, () -> {
            RingUntie x = new RingUntie();
            x.feed(1, 1);
            x.price(0, 5);
            x.day(3);
            x.guard(1);
            x.body(0);
            x.run(0, 0);
            return x;
        }, RingUntie::back);
    }

    @Says({
        "TAKEN BACK: how many changes are kept then.",
        "the latest 20 are kept):",
        "and all of it taken back step by step."})
    static void p32_theLatest20() {
        for (int changes = 0; changes <= 45; changes++) {
            RingUntie x = things(1, 0, 0);
            for (int i = 2; i < changes; i++) {
                body(x, 0, "add " + i);
            }
            int made = Math.max(2, changes), kept = Math.min(20, made);
            is(made + " changes", x.count(7), kept);
            for (int left = kept - 1; left >= 0; left--) {
                is("back()", x.back(), left);
                int latest = made - (kept - left) - 1;
                is("the latest left", x.act(0, 0, 1), latest >= 2 ? latest : NONE);
            }
            is("no more", x.back(), STATE);
            is("parts", x.count(0), made <= 20 ? 0 : 1);
        }
    }

    static void p32_againAndAgainAroundTheTwentieth() {
        RingUntie x = things(1, 0, 0);
        int number = 0;
        for (int round = 0; round < 10; round++) {
            for (int i = 0; i < 11; i++) {
                body(x, 0, "add " + ++number);
            }
            for (int i = 0; i < 5; i++) {
                x.back();
                number--;
                is("round " + round, x.act(0, 0, 1), number);
            }
        }
        is("kept", x.count(7), 15);
        for (int left = 14; left >= 0; left--) {
            is("back()", x.back(), left);
            is("the act", x.act(0, 0, 1), --number);
        }
        is("no more", x.back(), STATE);
    }

    @Says({"as far as it was not refused;", "They change nothing."})
    static void p32_refusedOnesAreNotKept() {
        RingUntie x = busy();
        int kept = x.count(7);
        x.add(3, 0);
        x.add(0, 9);
        x.body(4);
        x.body(0);
        x.hear(0, 2);
        x.move(0, 0, 0);
        x.split(0, 0);
        x.melt(0, 0);
        x.turn(0, 1);
        x.face(0, 2);
        x.pull(0);
        x.guard(1);
        x.move(FIELD, 0, 0);
        is("the last one was guarded", x.guarded(), 1);
        is("count(7)", x.count(7), kept);
        is("back()", x.back(), kept - 1);
        is("it takes the face back", x.count(6), 0);
    }

    static void p32_whatStays() {
        RingUntie x = web(3, 01);
        x.price(1, 9);
        x.day(4);
        x.guard(1);
        body(x, 1, "call 0");
        x.run(0, 5);
        Due.feed(x, "mul 3");
        x.back();
        is("done()", x.done(), 1);
        is("guarded()", x.guarded(), 1);
        is("the price", x.price(1, 1), 9);
        is("the day", x.count(8), 4);
        is("the guard", x.guard(0), 1);
        is("the tape", x.count(9), 5);
        is("it is read", x.body(0), 1);
        is("its number", x.act(0, 0, 1), 3);
    }

    @Says("the program, and what is ALLOWED, are as they were ahead of it.")
    static void p32_whatIsAllowedIsAsItWas() {
        RingUntie x = parts(2);
        x.allow(0, 1, 3);
        x.part();
        x.allow(0, 1, 4);
        x.allow(2, 0, 5);
        x.melt(0, 2);
        x.allow(0, 1, 6);
        is("ahead of the melt", x.back(), 3);
        is("0, 1", x.allow(0, 1, 4), 4);
        is("2, 0", x.allow(2, 0, 5), 5);
        is("ahead of the third part", x.back(), 2);
        is("0, 1", x.allow(0, 1, 3), 3);
        x.part();
        is("2, 0 is forgotten", x.allow(2, 0, 0), 0);
    }

    static void p32_theGuardIsNoMatter() {
        RingUntie x = web(2, 01, 10);
        body(x, 1, "");
        x.guard(1);
        is("back() to a ring", x.back(), 6);
        is("it is there", x.groups(), 1);
        is("guarded()", x.guarded(), NONE);
    }

    // ---- 33 count

    @Says("NONE.")
    static void p33_noSuchWhat() {
        for (int what : new int[] {LEAST, -1, 10, 11, MOST}) {
            refused("count(" + what + ")", NONE, Edges::busy, x -> x.count(what));
        }
    }

    @Says("0 PARTS, 1 ROUTINES, 2 FIELDS, 3 NEWS, 4 TIES, 5 ACTS, 6 FACE ROUTINES, 7 changes that are kept, 8 "
        + "DAY, 9 bytes of THE TAPE.")
    static void p33_each() {
        int[] due = {4, 5, 1, 1, 6, 10, 1, 14, 2, 8};
        for (int what = 0; what < 10; what++) {
            int w = what;
            is("count(" + w + ")", new RingUntie().count(w), 0);
            refused("count(" + w + ")", due[w], Edges::busy, x -> x.count(w));
        }
    }

    static void p33_theMostOfEach() {
        RingUntie x = parts(10);
        int[] most = {20, 10, 8};
        for (int what = 0; what < 3; what++) {
            for (int i = 0; i < most[what]; i++) {
                x.add(what, i % 10);
            }
        }
        is("parts", x.count(0), 10);
        is("routines", x.count(1), 20);
        is("fields", x.count(2), 10);
        is("news", x.count(3), 8);
        is("kept", x.count(7), 20);
        x.day(999);
        is("day", x.count(8), 999);
        for (int i = 0; i < 15; i++) {
            x.feed(0, 8);
        }
        is("bytes", x.count(9), 120);
        x.body(0);
        for (int r = 0; r < 20; r++) {
            StringBuilder text = new StringBuilder();
            for (int q = 0; q < 10; q++) {
                text.append(q == 0 ? "" : ";").append("odd ").append(q);
            }
            body(x, r, text.toString());
        }
        is("acts", x.count(5), 200);
        is("ties", x.count(4), 90);
        is("face routines", x.count(6), 0);
    }

    static void p33_faceRoutines() {
        RingUntie x = parts(1);
        x.add(ROUTINE, 0);
        body(x, 0, times(10, "call 0"));
        for (int f = 1; f <= 9; f++) {
            is("face", x.face(0, f - 1), f);
            is("count(6)", x.count(6), f);
            is("each has an act", x.count(5), 10 + f);
        }
        is("no more parts", x.face(0, 9), FULL);
        for (int f = 1; f <= 9; f++) {
            is("pull", x.pull(f), 1);
            is("count(6)", x.count(6), 9 - f);
        }
        is("acts", x.count(5), 10);
    }
}
