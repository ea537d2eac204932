/** The boundary cases of promises 1 to 10: the program, the tape, runs. */
public final class EdgesProgramTest extends Edges {
    private static final String[] WORDS = {"add", "mul", "put", "get", "call", "odd", "news"};

    public static void main(String[] args) throws Exception {
        runAll(EdgesProgramTest.class, 1, 10);
    }

    // ---- 1 a new object

    @Says("Nothing is there;")
    static void p01_nothingIsThere() {
        for (int what = 0; what < 10; what++) {
            is("count(" + what + ")", new RingUntie().count(what), 0);
        }
        RingUntie x = new RingUntie();
        for (int what = 0; what < 3; what++) {
            is("where", x.where(what, 0), NONE);
            is("add", x.add(what, 0), NONE);
            is("move", x.move(what, 0, 0), NONE);
        }
        is("groups()", x.groups(), 0);
        is("choice()", x.choice(), 0);
        is("bound()", x.bound(), 0);
        is("worth()", x.worth(), 0);
        is("chosen(0, 0)", x.chosen(0, 0), NONE);
        is("chosen(1, 0)", x.chosen(1, 0), NONE);
        is("done()", x.done(), 0);
        is("guarded()", x.guarded(), NONE);
    }

    static void p01_allThatNeedsAPartOrRoutineIsRefused() {
        refused("body(0)", NONE, RingUntie::new, x -> x.body(0));
        refused("act(0, 0, 0)", NONE, RingUntie::new, x -> x.act(0, 0, 0));
        refused("hear(0, 0)", NONE, RingUntie::new, x -> x.hear(0, 0));
        refused("run(0, 0)", NONE, RingUntie::new, x -> x.run(0, 0));
        refused("tie(0, 1, 0)", NONE, RingUntie::new, x -> x.tie(0, 1, 0));
        refused("allow(0, 1, 0)", NONE, RingUntie::new, x -> x.allow(0, 1, 0));
        refused("group(0)", NONE, RingUntie::new, x -> x.group(0));
        refused("ring(0, 1, 0, 0)", NONE, RingUntie::new, x -> x.ring(0, 1, 0, 0));
        refused("layer(0)", NONE, RingUntie::new, x -> x.layer(0));
        refused("split(0, 1)", NONE, RingUntie::new, x -> x.split(0, 1));
        refused("melt(0, 0)", NONE, RingUntie::new, x -> x.melt(0, 0));
        refused("melt(0, 1)", NONE, RingUntie::new, x -> x.melt(0, 1));
        refused("turn(0, 0)", NONE, RingUntie::new, x -> x.turn(0, 0));
        refused("face(0, 0)", NONE, RingUntie::new, x -> x.face(0, 0));
        refused("pull(0)", NONE, RingUntie::new, x -> x.pull(0));
        refused("back()", STATE, RingUntie::new, x -> x.back());
    }

    @Says("the GUARD is off,")
    static void p01_theGuardIsOff() {
        is("guard(0)", new RingUntie().guard(0), 0);
        is("guard(1)", new RingUntie().guard(1), 0);
        is("a ring is made", web(2, 01, 10).groups(), 1);
    }

    @Says("DAY 0.")
    static void p01_theDayIsNought() {
        RingUntie x = web(2, 01);
        is("count(8)", x.count(8), 0);
        x.allow(0, 1, 0);
        is("allowed till day 0 is over", x.tie(0, 1, 0), 1);
        x.allow(0, 1, 1);
        is("allowed till day 1 is not", x.tie(0, 1, 0), 0);
        is("day(0)", x.day(0), 0);
    }

    static void p01_theTapeIsEmpty() {
        RingUntie x = things(1, 0, 0);
        is("count(9)", x.count(9), 0);
        is("body(0)", x.body(0), 0);
    }

    static void p01_objectsShareNothing() {
        RingUntie x = new RingUntie(), y = busy();
        is("parts of the other one", x.count(0), 0);
        is("the other one's tape", x.count(9), 0);
        is("the other one's price", x.price(0, 1), 1);
        is("its own", y.count(9), 8);
    }

    @Says("An object is used for at most 512 calls after it has been made; what later calls answer is free.")
    static void p01_all512CallsAnswer() {
        RingUntie x = new RingUntie();
        for (int call = 1; call < 512; call += 2) {
            is("part(), call " + call, x.part(), 0);
            is("back(), call " + (call + 1), x.back(), 0);
        }
        RingUntie y = things(1, 0, 0);
        for (int call = 3; call <= 511; call++) {
            is("body(0), call " + call, y.body(0), 0);
        }
        is("count(7), call 512", y.count(7), 20);
    }

    static void p01_theConstants() {
        is("NONE", RingUntie.NONE, -1);
        is("BAD", RingUntie.BAD, -2);
        is("STATE", RingUntie.STATE, -3);
        is("FULL", RingUntie.FULL, -4);
        is("GUARDED", RingUntie.GUARDED, -5);
        is("BIG", RingUntie.BIG, -6);
    }

    // ---- 2 part

    @Says({"A PART more: its number. FULL.", "PARTS are numbered from 0 on, 10 at most."})
    static void p02_tenAreTakenTheEleventhIsFull() {
        RingUntie x = new RingUntie();
        for (int p = 0; p < 10; p++) {
            is("part()", x.part(), p);
            is("count(0)", x.count(0), p + 1);
        }
        refused("an eleventh", FULL, () -> parts(10), RingUntie::part);
    }

    static void p02_fullWithAllElse() {
        refused("an eleventh", FULL, () -> {
            RingUntie x = busy();
            for (int p = 4; p < 10; p++) {
                x.part();
            }
            return x;
        }, RingUntie::part);
    }

    static void p02_partsOfSplitsAndFacesCountToo() {
        RingUntie x = web(8, 01);
        is("split", x.split(0, 1), 8);
        is("face", x.face(0, 0), 8);
        is("its part", x.where(ROUTINE, 8), 9);
        is("part()", x.part(), FULL);
    }

    static void p02_aMeltOrBackMakesRoom() {
        RingUntie x = parts(10);
        x.melt(0, 9);
        is("behind a melt", x.part(), 9);
        is("one more", x.part(), FULL);
        x.back();
        is("behind back()", x.part(), 9);
        is("one more then", x.part(), FULL);
    }

    static void p02_aNewPartIsEmpty() {
        RingUntie x = busy();
        is("part()", x.part(), 4);
        for (int p = 0; p < 4; p++) {
            is("a tie to it", x.tie(p, 4, 0), 0);
            is("a tie from it", x.tie(4, p, 0), 0);
            is("allowed to it", x.allow(p, 4, 0), 0);
            is("allowed from it", x.allow(4, p, 0), 0);
        }
        is("its group", x.group(4), 4);
    }

    static void p02_theGuardIsNoMatter() {
        RingUntie x = web(2, 01, 10);
        x.guard(1);
        is("part()", x.part(), 2);
        is("add", x.add(ROUTINE, 2), 2);
    }

    static void p02_takenBack() {
        takenBack("part()", 4, Edges::busy, RingUntie::part);
        takenBack("the first", 0, RingUntie::new, RingUntie::part);
        takenBack("the last", 9, () -> parts(9), RingUntie::part);
    }

    // ---- 3 add

    @Says("ROUTINES are numbered from 0 on, 20 at most,")
    static void p03_twentyRoutines() {
        RingUntie x = parts(1);
        for (int r = 0; r < 20; r++) {
            is("add", x.add(ROUTINE, 0), r);
            is("count(1)", x.count(1), r + 1);
        }
        refused("a 21st", FULL, () -> things(20, 9, 7), y -> y.add(ROUTINE, 0));
        is("a field has room", things(20, 9, 7).add(FIELD, 0), 9);
        is("a news has room", things(20, 9, 7).add(NEWS, 0), 7);
    }

    @Says("FIELDS likewise, 10 at most,")
    static void p03_tenFields() {
        RingUntie x = parts(1);
        for (int f = 0; f < 10; f++) {
            is("add", x.add(FIELD, 0), f);
            is("count(2)", x.count(2), f + 1);
        }
        refused("an eleventh", FULL, () -> things(19, 10, 7), y -> y.add(FIELD, 0));
        is("a routine has room", things(19, 10, 7).add(ROUTINE, 0), 19);
        is("a news has room", things(19, 10, 7).add(NEWS, 0), 7);
    }

    @Says("NEWS likewise, 8 at most:")
    static void p03_eightNews() {
        RingUntie x = parts(1);
        for (int n = 0; n < 8; n++) {
            is("add", x.add(NEWS, 0), n);
            is("count(3)", x.count(3), n + 1);
        }
        refused("a ninth", FULL, () -> things(19, 9, 8), y -> y.add(NEWS, 0));
        is("a routine has room", things(19, 9, 8).add(ROUTINE, 0), 19);
        is("a field has room", things(19, 9, 8).add(FIELD, 0), 9);
    }

    @Says({"A ROUTINE (what 0), FIELD (1), NEWS (2) more in a PART: its number.", "FULL."})
    static void p03_limitsAreOfAllPartsTogether() {
        RingUntie x = parts(10);
        int[] most = {20, 10, 8};
        for (int what = 0; what < 3; what++) {
            for (int i = 0; i < most[what]; i++) {
                is("add", x.add(what, i % 10), i);
            }
            for (int p = 0; p < 10; p++) {
                is("one more", x.add(what, p), FULL);
            }
        }
    }

    @Says("NONE;")
    static void p03_noSuchWhat() {
        for (int what : new int[] {LEAST, -2, -1, 3, 4, MOST}) {
            refused("add(" + what + ", 0)", NONE, Edges::busy, x -> x.add(what, 0));
        }
        is("what 0", busy().add(0, 0), 5);
        is("what 2", busy().add(2, 0), 1);
    }

    @Says({"NONE;", "NONE there is no such PART,"})
    static void p03_noSuchPart() {
        for (int what = 0; what < 3; what++) {
            int w = what;
            for (int part : new int[] {LEAST, -1, 4, 10, MOST}) {
                refused("add(" + w + ", " + part + ")", NONE, Edges::busy, x -> x.add(w, part));
            }
            is("the last part", busy().add(w, 3), busy().count(w + 1));
            is("part 9 of ten", parts(10).add(w, 9), 0);
            is("part 10 of ten", parts(10).add(w, 10), NONE);
        }
    }

    static void p03_noneIsToldAheadOfFull() {
        for (int what = 0; what < 3; what++) {
            int w = what;
            refused("no part " + w, NONE, () -> things(20, 10, 8), x -> x.add(w, 1));
            refused("no part " + w, NONE, () -> things(20, 10, 8), x -> x.add(w, -1));
        }
        refused("no what", NONE, () -> things(20, 10, 8), x -> x.add(3, 0));
    }

    static void p03_routinesOfFacesCountToo() {
        RingUntie x = things(19, 0, 0);
        body(x, 0, "call 1");
        is("the 20th is a face's", x.face(0, 0), 19);
        is("one more", x.add(ROUTINE, 0), FULL);
        x.pull(19);
        is("a pulled one stays", x.add(ROUTINE, 0), FULL);
    }

    static void p03_newsOfTurnsCountToo() {
        RingUntie x = things(2, 0, 7);
        body(x, 0, "call 1");
        is("the 8th is a turn's", x.turn(0, 0), 7);
        is("one more", x.add(NEWS, 0), FULL);
    }

    static void p03_aMeltMakesNoRoomBackDoes() {
        RingUntie x = things(20, 0, 0);
        x.part();
        x.melt(1, 0);
        is("behind a melt", x.add(ROUTINE, 0), FULL);
        x.back();
        x.back();
        x.back();
        is("behind back()", x.add(ROUTINE, 0), 19);
        is("one more", x.add(ROUTINE, 0), FULL);
    }

    @Says("(none at first).")
    static void p03_aRoutineHasNoBodyAtFirst() {
        RingUntie x = busy();
        int r = x.add(ROUTINE, 1);
        is("its first act", x.act(r, 0, 0), NONE);
        is("its run", x.run(r, 9972), 9972);
        is("acts done", x.done(), 0);
        is("it is no face", x.pull(r), STATE);
        is("it hears nothing yet", x.hear(0, r), 2);
        x.back();
        x.back();
        body(x, 0, "add 9");
        is("the same number again", x.add(ROUTINE, 1), r);
        is("its first act", x.act(r, 0, 0), NONE);
    }

    /** What was once there under a number must not come back with it. */
    static void p03_aNumberThatWasTakenBackIsNew() {
        RingUntie x = things(1, 0, 0);
        int r = x.add(ROUTINE, 0);
        body(x, r, "add 3;add 4");
        x.back();
        x.back();
        is("a new one", x.add(ROUTINE, 0), r);
        is("has no body", x.act(r, 0, 0), NONE);
        body(x, 0, "call 1");
        int face = x.face(0, 0);
        x.back();
        is("a new one where a face was", x.add(ROUTINE, 0), face);
        is("has no body", x.act(face, 0, 0), NONE);
        is("is no face", x.pull(face), STATE);
        x.add(NEWS, 0);
        x.hear(0, 0);
        x.back();
        x.back();
        x.add(NEWS, 0);
        is("a new news has no hearers", x.hear(0, 0), 1);
    }

    @Says("TAKEN BACK: the latest change (part, add,")
    static void p03_takenBack() {
        for (int what = 0; what < 3; what++) {
            int w = what;
            takenBack("add(" + w + ", 2)", new int[] {5, 1, 1}[w], Edges::busy, x -> x.add(w, 2));
        }
    }

    // ---- 4 where

    @Says({"The PART in which it lies.", "each lies in a PART."})
    static void p04_lastOnesAndBeyond() {
        RingUntie x = parts(10);
        int[] most = {20, 10, 8};
        for (int what = 0; what < 3; what++) {
            is("ahead of the first", x.where(what, 0), NONE);
            for (int i = 0; i < most[what]; i++) {
                x.add(what, 9 - i % 10);
                is("the latest", x.where(what, i), 9 - i % 10);
                is("the next", x.where(what, i + 1), NONE);
            }
        }
        for (int what = 0; what < 3; what++) {
            for (int i = 0; i < most[what]; i++) {
                is("each", x.where(what, i), 9 - i % 10);
            }
        }
    }

    @Says({"NONE.", "no such PART, ROUTINE, FIELD, NEWS,"})
    static void p04_noSuchWhatOrNumber() {
        for (int what : new int[] {LEAST, -1, 3, MOST}) {
            refused("where(" + what + ", 0)", NONE, Edges::busy, x -> x.where(what, 0));
        }
        for (int i : new int[] {LEAST, -1, 5, MOST}) {
            refused("where(0, " + i + ")", NONE, Edges::busy, x -> x.where(0, i));
        }
        for (int i : new int[] {LEAST, -1, 1, MOST}) {
            refused("where(1, " + i + ")", NONE, Edges::busy, x -> x.where(1, i));
            refused("where(2, " + i + ")", NONE, Edges::busy, x -> x.where(2, i));
        }
        is("where(0, 4)", busy().where(0, 4), 3);
    }

    static void p04_aQuestionChangesNothing() {
        refused("where(0, 2)", 2, Edges::busy, x -> x.where(0, 2));
    }

    // ---- 5 feed

    @Says({"how many it has.", "BAD: n not 1 .. 8;"})
    static void p05_oneToEightBytes() {
        for (int n : new int[] {LEAST, -8, -1, 0, 9, 10, 16, 120, MOST}) {
            refused("feed(.., " + n + ")", BAD, Edges::busy, x -> x.feed(0x6164642031L, n));
        }
        for (int n = 1; n <= 8; n++) {
            is("feed(.., " + n + ")", new RingUntie().feed(-1, n), n);
        }
    }

    /** Each byte of eight is known by the fault or by the number that is read. */
    @Says("The n lowest bytes of w, the highest first, come behind THE TAPE's:")
    static void p05_theLowestBytesTheHighestFirst() {
        for (int n = 1; n <= 8; n++) {
            RingUntie x = things(1, 0, 0);
            long w = 0x6164642031323334L;
            Due.feed(x, "add 1234".substring(0, 8 - n));
            is("the rest, " + n, x.feed(w, n), 8);
            is("add 1234", x.body(0), -17);
        }
        RingUntie x = things(1, 0, 0);
        x.feed(0x7878616464203937L, 6);
        is("higher bytes are left out", x.body(0), 1);
        is("97", x.act(0, 0, 1), 97);
        x.feed(0xFFFFFFFFFFFFFF61L, 1);
        x.feed(0xFFFFFFFFFF646420L, 3);
        x.feed(0x8000000000000035L, 1);
        is("also if they are not 0", x.body(0), 1);
        is("5", x.act(0, 0, 1), 5);
    }

    static void p05_bytesAbove127() {
        for (int b : new int[] {128, 0xE1, 0xFF}) {
            RingUntie x = things(1, 0, 0);
            is("feed(" + b + ", 1)", x.feed(b, 1), 1);
            is("its fault", x.body(0), -10);
        }
        RingUntie x = things(1, 0, 0);
        x.feed(0xE1E4E4A0B1L, 5);
        is("letters with the high bit", x.body(0), -10);
    }

    private static RingUntie withBytes(int bytes) {
        RingUntie x = things(1, 0, 0);
        for (int left = bytes; left > 0; left -= 8) {
            x.feed(0x2A2A2A2A2A2A2A2AL, Math.min(8, left));
        }
        return x;
    }

    @Says({"FULL.", "A BODY is read from THE TAPE (bytes, 120 at most):"})
    static void p05_120BytesOnTheTape() {
        for (int n = 1; n <= 8; n++) {
            int k = n;
            is("up to the last, " + n, withBytes(120 - n).feed(0, n), 120);
            refused("one beyond, " + n, FULL, () -> withBytes(121 - k), x -> x.feed(0, k));
            refused("all beyond, " + n, FULL, () -> withBytes(120), x -> x.feed(0, k));
        }
    }

    static void p05_whatIsRefusedLeavesRoom() {
        RingUntie x = withBytes(113);
        is("eight", x.feed(0, 8), FULL);
        is("seven", x.feed(0, 7), 120);
        is("one", x.feed(0, 1), FULL);
        is("count(9)", x.count(9), 120);
    }

    @Says("REFUSALS, of several the first one told:")
    static void p05_badIsToldAheadOfFull() {
        for (int n : new int[] {LEAST, 0, 9, MOST}) {
            refused("feed(0, " + n + ")", BAD, () -> withBytes(120), x -> x.feed(0, n));
        }
    }

    static void p05_aReadTapeHasRoomAgain() {
        RingUntie x = withBytes(120);
        is("body(0)", x.body(0), -10);
        for (int i = 1; i <= 15; i++) {
            is("feed", x.feed(0, 8), 8 * i);
        }
        is("one more", x.feed(0, 1), FULL);
    }

    static void p05_isNoChange() {
        RingUntie x = busy();
        int kept = x.count(7);
        x.feed(0, 1);
        is("count(7)", x.count(7), kept);
        x.back();
        is("the tape stays behind back()", x.count(9), 9);
    }

    // ---- 6 body: the text

    /** What may come behind a text of whole and begun acts, and whether it may end so. */
    private static void p06Next(String text, String next, int acts) {
        RingUntie ends = reader();
        is("'" + text + "'", body(ends, 0, text), acts >= 0 ? acts : -10 - text.length());
        for (int b = 0; b < 256; b++) {
            RingUntie x = reader();
            Due.feed(x, text);
            x.feed(b, 1);
            int answer = x.body(0);
            is("'" + text + "', byte " + b, answer, p06Due(text, (char) b, next));
            is("the tape then", x.count(9), 0);
        }
    }

    private static int p06Due(String text, char b, String next) {
        if (next.indexOf(b) < 0) {
            return -10 - text.length();
        }
        if (b < '0' || b > '9') {
            return -11 - text.length();
        }
        boolean isThere = b < '8' || !text.matches(".*news 0{0,2}");
        return isThere ? text.split(";").length : BAD;
    }

    /** All that one digit tells is there, but for two news. */
    private static RingUntie reader() {
        return things(10, 10, 8);
    }

    private static void p06Act(String ahead, int actsAhead, String behind) {
        p06Next(ahead, "ampgcon", actsAhead == 0 ? 0 : -1);
        for (String word : WORDS) {
            for (int k = 1; k <= word.length(); k++) {
                p06Next(ahead + word.substring(0, k), k < word.length() ? word.substring(k, k + 1) : " ", -1);
            }
            p06Next(ahead + word + " ", "0123456789", -1);
            p06Next(ahead + word + " 0", "0123456789" + behind, actsAhead + 1);
            p06Next(ahead + word + " 00", "0123456789" + behind, actsAhead + 1);
            p06Next(ahead + word + " 007", behind, actsAhead + 1);
        }
    }

    @Says({
        "THE TAPE, which is empty then, is the BODY of a ROUTINE: how many ACTS;",
        "ACT: one of the words add mul put get call odd news, a blank, a number"})
    static void p06_eachByteOfTheFirstAct() {
        p06Act("", 0, ";");
    }

    @Says("ACT;ACT;..")
    static void p06_eachByteOfASecondAct() {
        p06Act("news 7;", 1, ";");
    }

    @Says("(the end of THE TAPE, if it ends too early;")
    static void p06_eachByteOfTheTenthAct() {
        p06Act(times(9, "odd 1") + ";", 9, "");
    }

    @Says({"-10 less the FAULT.", "The FAULT is the place of the first byte with which none begins so"})
    static void p06_theFaultIsThePlaceOfTheFirst() {
        RingUntie x = reader();
        is("two faults", body(x, 0, "add 1;xx;yy"), -16);
        is("at the very first", body(x, 0, "?"), -10);
        is("in the second act", body(x, 0, "add 1;mul"), -19);
        is("the end", body(x, 0, "add 1;"), -16);
        is("no act between", body(x, 0, "add 1;;add 1"), -16);
        is("a ; alone", body(x, 0, ";"), -10);
        is("a blank ahead", body(x, 0, " add 1"), -10);
        is("a blank behind", body(x, 0, "add 1 "), -15);
        is("two blanks", body(x, 0, "add  1"), -14);
        is("great letters", body(x, 0, "ADD 1"), -10);
        is("a sign", body(x, 0, "add -1"), -14);
        is("an end of line", body(x, 0, "add 1\n"), -15);
        is("a word that goes on", body(x, 0, "calls 1"), -14);
    }

    @Says("a number of 1 to 3 digits.")
    static void p06_oneToThreeDigits() {
        RingUntie x = reader();
        is("none", body(x, 0, "add "), -14);
        is("one", body(x, 0, "add 9"), 1);
        is("its number", x.act(0, 0, 1), 9);
        is("two", body(x, 0, "add 99"), 1);
        is("its number", x.act(0, 0, 1), 99);
        is("three", body(x, 0, "add 999"), 1);
        is("its number", x.act(0, 0, 1), 999);
        is("four", body(x, 0, "add 9999"), -17);
        is("noughts", body(x, 0, "add 000"), 1);
        is("its number", x.act(0, 0, 1), 0);
        is("a nought too much", body(x, 0, "add 0001"), -17);
        is("noughts ahead", body(x, 0, "call 009"), 1);
        is("its number", x.act(0, 0, 1), 9);
    }

    @Says({"behind 10 ACTS a ; ).", "A ROUTINE has a BODY: ACTS, 10 at most,"})
    static void p06_tenActs() {
        for (int acts = 1; acts <= 10; acts++) {
            is(acts + " acts", body(reader(), 0, times(acts, "add 1")), acts);
        }
        is("eleven", body(reader(), 0, times(11, "add 1")), -69);
        is("ten and a ;", body(reader(), 0, times(10, "add 1") + ";"), -69);
        is("ten and a byte", body(reader(), 0, times(10, "add 1") + "x"), -69);
        is("the longest of ten", body(reader(), 0, times(10, "news 007")), 10);
        is("the longest and a ;", body(reader(), 0, times(10, "news 007") + ";"), -99);
        is("eleven long ones", body(reader(), 0, times(11, "news 007")), -99);
    }

    static void p06_aTapeOf120Bytes() {
        RingUntie x = reader();
        String all = times(10, "news 007") + ";" + times(3, "news 007") + ";add";
        is("its length", Due.feed(x, all), 120);
        is("its fault", x.body(0), -99);
        is("only blanks", body(x, 0, " ".repeat(120)), -10);
    }

    @Says("(or nothing at all);")
    static void p06_nothingAtAll() {
        RingUntie x = reader();
        body(x, 0, times(10, "add 1"));
        is("body(0)", x.body(0), 0);
        is("acts", x.count(5), 0);
        is("its first act", x.act(0, 0, 0), NONE);
        is("it is run", x.run(0, 5), 5);
        takenBack("with no body ahead of it", 0, () -> things(1, 0, 0), y -> y.body(0));
    }

    static void p06_aShorterBodyLeavesNothingOfTheLonger() {
        RingUntie x = reader();
        body(x, 0, times(10, "add 1"));
        is("a shorter one", body(x, 0, "mul 2;mul 3"), 2);
        is("the last of it", x.act(0, 1, 1), 3);
        is("none behind it", x.act(0, 2, 0), NONE);
        is("count(5)", x.count(5), 2);
        is("run", x.run(0, 1), 6);
    }

    // ---- 6 body: refusals

    @Says("BAD: an ACT tells of what is not there;")
    static void p06_whatActsTellOf() {
        String[] told = {"call", "odd", "put", "get", "news"};
        int[] last = {4, 4, 0, 0, 0};
        for (int i = 0; i < told.length; i++) {
            String word = told[i];
            int n = last[i];
            is(word + " of the last", body(quiet(), 0, word + " " + n), 1);
            for (int beyond : new int[] {n + 1, 20, 999}) {
                refusedBody(word + " " + beyond, BAD, Edges::quiet, x -> body(x, 0, word + " " + beyond));
            }
        }
        is("add tells of nothing", body(quiet(), 0, "add 999;mul 999"), 2);
    }

    static void p06_theLastOfAllThatThereCanBe() {
        is("the 20th, the 10th, the 8th",
            body(things(20, 10, 8), 0, "call 19;odd 19;put 9;get 9;news 7"), 5);
        for (String text : new String[] {"call 20", "odd 20", "put 10", "get 10", "news 8"}) {
            is(text, body(things(20, 10, 8), 0, text), BAD);
        }
        for (String text : new String[] {"call 19", "odd 19", "put 9", "get 9", "news 7"}) {
            is(text + ", not there yet", body(things(19, 9, 7), 0, text), BAD);
        }
    }

    static void p06_anyActOfTen() {
        for (int at = 0; at < 10; at++) {
            String text = times(at, "add 1") + (at == 0 ? "" : ";") + "get 1" + (at == 9 ? "" : ";")
                + times(9 - at, "add 1");
            refusedBody("act " + at, BAD, () -> things(1, 1, 0), x -> body(x, 0, text));
        }
    }

    @Says("An ACT may tell of a ROUTINE, FIELD, NEWS that is not there (yet): a BODY with such is refused.")
    static void p06_notThereYet() {
        RingUntie x = parts(1);
        x.add(ROUTINE, 0);
        String text = "call 1;get 0;news 0";
        is("ahead of all", body(x, 0, text), BAD);
        x.add(ROUTINE, 0);
        is("a field is not there", body(x, 0, text), BAD);
        x.add(FIELD, 0);
        is("a news is not there", body(x, 0, text), BAD);
        x.add(NEWS, 0);
        is("all is there", body(x, 0, text), 3);
        is("itself", body(x, 0, "call 0;odd 0"), 2);
    }

    @Says("NONE;")
    static void p06_noSuchRoutineLeavesTheTape() {
        for (int r : new int[] {LEAST, -1, 5, 20, MOST}) {
            refused("body(" + r + ")", NONE, Edges::busy, x -> x.body(r));
        }
        RingUntie x = things(1, 0, 0);
        Due.feed(x, "add 5");
        is("body(1)", x.body(1), NONE);
        is("the tape", x.count(9), 5);
        is("then it is read", x.body(0), 1);
    }

    @Says({"STATE: it is a FACE ROUTINE;", "(THE TAPE is empty then, but for NONE, STATE.)"})
    static void p06_aFaceRoutineLeavesTheTape() {
        refused("a fault", STATE, Edges::busy, x -> x.body(4));
        refused("nothing at all", STATE, Edges::quiet, x -> x.body(4));
        refused("what is not there", STATE, () -> fed("call 9"), x -> x.body(4));
        refused("as it should be", STATE, () -> fed("call 1"), x -> x.body(4));
        refused("guarded, else", STATE, () -> {
            RingUntie x = fed("call 1");
            x.guard(1);
            return x;
        }, x -> x.body(4));
        RingUntie x = fed("add 7");
        x.body(4);
        is("another one reads it", x.body(3), 1);
        x.pull(4);
        is("a pulled one may have a body", body(x, 4, "add 8"), 1);
        is("its act", x.act(4, 0, 1), 8);
    }

    private static RingUntie fed(String text) {
        RingUntie x = quiet();
        Due.feed(x, text);
        return x;
    }

    static void p06_aFaultLeavesTheBody() {
        refusedBody("a fault", -18, Edges::busy, x -> x.body(0));
        for (String text : new String[] {"x", "add", "add 1;", "call 1234", times(11, "add 1")}) {
            int due = body(reader(), 0, text);
            refusedBody("'" + text + "'", due, Edges::quiet, x -> body(x, 0, text));
        }
    }

    @Says("(THE TAPE is empty then,")
    static void p06_whichIsTold() {
        refused("no routine, a fault", NONE, () -> fed("x"), x -> x.body(5));
        refused("no routine, what is not there", NONE, () -> fed("call 9"), x -> x.body(5));
        refusedBody("what is not there, then a fault", -17, Edges::quiet, x -> body(x, 0, "call 9;x"));
        refusedBody("a fault at the end", -17, Edges::quiet, x -> body(x, 0, "call 9;"));
        Build ring = () -> {
            RingUntie x = web(2, 01);
            x.guard(1);
            return x;
        };
        refusedBody("a fault, guarded else", -17, ring, x -> body(x, 1, "call 0;x"));
        refusedBody("what is not there, guarded else", BAD, ring, x -> body(x, 1, "call 0;call 2"));
        guardedBody("guarded", 1, ring, x -> body(x, 1, "call 0"));
    }

    @Says("GUARDED.")
    static void p06_guardedOnBothSides() {
        Build chain = () -> {
            RingUntie x = web(3, 01, 12);
            x.guard(1);
            return x;
        };
        is("its own part", body(chain.make(), 2, "call 2"), 1);
        guardedBody("back to the one ahead", 12, chain, x -> body(x, 2, "call 1"));
        guardedBody("back to the first", 1, chain, x -> body(x, 2, "call 0"));
        guardedBody("also by an odd", 1, chain, x -> body(x, 2, "odd 0"));
        is("a shorter way", body(chain.make(), 0, "call 1;call 2"), 2);
        Build fields = () -> {
            RingUntie x = web(2, 01);
            x.add(FIELD, 0);
            x.add(NEWS, 0);
            x.add(FIELD, 1);
            x.add(NEWS, 1);
            x.guard(1);
            return x;
        };
        for (String text : new String[] {"put 0", "get 0", "news 0"}) {
            guardedBody(text, 1, fields, x -> body(x, 1, text));
        }
        is("of its own part", body(fields.make(), 1, "put 1;get 1;news 1"), 3);
        RingUntie x = chain.make();
        x.guard(0);
        is("off", body(x, 2, "call 0"), 1);
    }

    @Says("the latest change (part, add, body,")
    static void p06_takenBack() {
        takenBack("body", 2, Edges::quiet, x -> body(x, 0, "add 1;call 4"));
        takenBack("the same body", 3, Edges::quiet, x -> body(x, 1, "put 0;odd 4;add 1"));
        takenBack("no body", 0, Edges::quiet, x -> x.body(1));
        takenBack("no body where none was", 0, Edges::quiet, x -> x.body(3));
    }

    // ---- 7 act

    @Says({
        "Of ACT i of a ROUTINE what 0: 0 add, 1 mul, 2 put, 3 get, 4 call, 5 odd, 6 news; 1 its number.",
        "one behind the other"})
    static void p07_eachOfTen() {
        RingUntie x = reader();
        body(x, 9, "add 999;mul 0;put 9;get 8;call 7;odd 6;news 5;add 1;mul 2;put 3");
        int[] sorts = {0, 1, 2, 3, 4, 5, 6, 0, 1, 2}, numbers = {999, 0, 9, 8, 7, 6, 5, 1, 2, 3};
        for (int i = 0; i < 10; i++) {
            is("sort of " + i, x.act(9, i, 0), sorts[i]);
            is("number of " + i, x.act(9, i, 1), numbers[i]);
        }
        for (int what = 0; what < 2; what++) {
            is("an eleventh", x.act(9, 10, what), NONE);
            is("the one ahead of the first", x.act(9, -1, what), NONE);
            is("of the routine ahead", x.act(8, 0, what), NONE);
        }
    }

    @Says({"NONE.", "ACT, what, i;"})
    static void p07_noSuchRoutineActWhat() {
        for (int r : new int[] {LEAST, -1, 5, 20, MOST}) {
            refused("act(" + r + ", 0, 0)", NONE, Edges::busy, x -> x.act(r, 0, 0));
        }
        for (int i : new int[] {LEAST, -1, 4, 10, MOST}) {
            refused("act(0, " + i + ", 0)", NONE, Edges::busy, x -> x.act(0, i, 0));
            refused("act(0, " + i + ", 1)", NONE, Edges::busy, x -> x.act(0, i, 1));
        }
        for (int what : new int[] {LEAST, -1, 2, MOST}) {
            refused("act(0, 0, " + what + ")", NONE, Edges::busy, x -> x.act(0, 0, what));
        }
        is("the last", busy().act(0, 3, 0), 3);
        is("of a face routine", busy().act(4, 0, 1), 3);
        is("it has one alone", busy().act(4, 1, 0), NONE);
        is("of no body", busy().act(3, 0, 0), NONE);
    }

    static void p07_aQuestionChangesNothing() {
        refused("act(0, 1, 0)", 5, Edges::busy, x -> x.act(0, 1, 0));
    }

    // ---- 8 hear

    private static RingUntie heard(int hearers) {
        RingUntie x = things(20, 0, 8);
        for (int r = 0; r < hearers; r++) {
            x.hear(7, 19 - r);
        }
        return x;
    }

    @Says({
        "A ROUTINE is a HEARER more of a NEWS: how many it has.",
        "FULL;",
        "A NEWS has HEARERS: ROUTINES, 6 at most,"})
    static void p08_sixAreTakenTheSeventhIsFull() {
        for (int n = 0; n < 6; n++) {
            is("hearer " + n, heard(n).hear(7, 0), n + 1);
        }
        refused("a seventh", FULL, () -> heard(6), x -> x.hear(7, 0));
        is("another news has room", heard(6).hear(6, 0), 1);
        is("for the same routine too", heard(6).hear(6, 19), 1);
    }

    @Says({"STATE: it is one;", "none twice."})
    static void p08_noneTwice() {
        for (int hearers = 1; hearers <= 6; hearers++) {
            int n = hearers;
            refused("the first again", STATE, () -> heard(n), x -> x.hear(7, 19));
            refused("the latest again", STATE, () -> heard(n), x -> x.hear(7, 20 - n));
        }
    }

    @Says("NONE;")
    static void p08_noSuchNewsOrRoutine() {
        for (int n : new int[] {LEAST, -1, 1, 8, MOST}) {
            refused("hear(" + n + ", 0)", NONE, Edges::busy, x -> x.hear(n, 0));
        }
        for (int r : new int[] {LEAST, -1, 5, 20, MOST}) {
            refused("hear(0, " + r + ")", NONE, Edges::busy, x -> x.hear(0, r));
        }
        is("the last routine", heard(0).hear(0, 19), 1);
        is("one beyond", heard(0).hear(0, 20), NONE);
        is("one news beyond", heard(0).hear(8, 19), NONE);
    }

    @Says("it is a FACE ROUTINE;")
    static void p08_aFaceRoutineHearsNothing() {
        refused("hear(0, 4)", STATE, Edges::busy, x -> x.hear(0, 4));
        RingUntie x = busy();
        x.pull(4);
        is("a pulled one may", x.hear(0, 4), 2);
        RingUntie y = busy();
        is("who it stands for may", y.hear(0, 3), 2);
    }

    @Says({"GUARDED.", "STATE as told; FULL; then GUARDED."})
    static void p08_whichIsTold() {
        Build full = () -> {
            RingUntie x = things(9, 0, 1);
            for (int r = 0; r < 6; r++) {
                x.hear(0, r);
            }
            body(x, 0, "call 1");
            x.face(0, 0);
            return x;
        };
        refused("it is one, full", STATE, full, x -> x.hear(0, 5));
        refused("a face routine, full", STATE, full, x -> x.hear(0, 9));
        refused("full", FULL, full, x -> x.hear(0, 6));
        refused("no news, a face routine", NONE, full, x -> x.hear(1, 9));
        refused("no routine, full", NONE, full, x -> x.hear(0, 10));
        Build ring = () -> {
            RingUntie x = web(8, 07);
            x.add(NEWS, 0);
            for (int r = 1; r < 6; r++) {
                x.hear(0, r);
            }
            x.guard(1);
            return x;
        };
        guarded("a ring", 7, ring, x -> x.hear(0, 7));
        is("no ring", ring.make().hear(0, 6), 6);
        refused("a ring, full", FULL, () -> {
            RingUntie x = ring.make();
            x.hear(0, 6);
            return x;
        }, x -> x.hear(0, 7));
        refused("a face routine, a ring else", STATE, () -> {
            RingUntie x = web(2, 01);
            x.add(NEWS, 0);
            x.face(0, 0);
            x.guard(1);
            return x;
        }, x -> x.hear(0, 2));
    }

    @Says({"in their order, none twice.", "news N: all HEARERS of NEWS N are run, in their order."})
    static void p08_inTheirOrder() {
        int[][] orders = {{1, 2, 3}, {3, 2, 1}, {2, 3, 1}};
        int[] ends = {(5 + 1) * 2 * 3 % 9973, 5 * 3 * 2 + 1, 5 * 2 * 3 + 1};
        for (int k = 0; k < 3; k++) {
            RingUntie x = things(4, 0, 1);
            body(x, 0, "news 0");
            body(x, 1, "add 1");
            body(x, 2, "mul 2");
            body(x, 3, "mul 3");
            for (int r : orders[k]) {
                x.hear(0, r);
            }
            is("order " + k, x.run(0, 5), ends[k]);
        }
        RingUntie x = things(8, 0, 1);
        body(x, 0, "news 0");
        for (int r = 1; r <= 6; r++) {
            body(x, r, "mul 10;add " + r);
            x.hear(0, 7 - r);
        }
        is("six of them", x.run(0, 0), 654321 % 9973);
        is("acts", x.done(), 13);
    }

    @Says("the latest change (part, add, body, hear,")
    static void p08_takenBack() {
        takenBack("hear", 2, Edges::busy, x -> x.hear(0, 0));
        takenBack("the sixth", 6, () -> {
            RingUntie x = things(7, 0, 1);
            for (int r = 0; r < 5; r++) {
                x.hear(0, r);
            }
            return x;
        }, x -> x.hear(0, 6));
    }

    // ---- 9 run

    private static int end(String text, int a) {
        RingUntie x = things(2, 2, 1);
        body(x, 0, text);
        return x.run(0, a);
    }

    @Says({"RUN with A (0 .. 9972).", "BAD;", "What they do with A, a number 0 .. 9972:"})
    static void p09_aFrom0To9972() {
        for (int a : new int[] {LEAST, -9973, -1, 9973, 9974, 19946, MOST}) {
            refused("run(0, " + a + ")", BAD, Edges::busy, x -> x.run(0, a));
        }
        is("0", end("", 0), 0);
        is("9972", end("", 9972), 9972);
    }

    @Says("NONE;")
    static void p09_noSuchRoutine() {
        for (int r : new int[] {LEAST, -1, 5, 20, MOST}) {
            refused("run(" + r + ", 0)", NONE, Edges::busy, x -> x.run(r, 0));
            refused("run(" + r + ", -1): which is told", NONE, Edges::busy, x -> x.run(r, -1));
            refused("run(" + r + ", 9973): which is told", NONE, Edges::busy, x -> x.run(r, 9973));
        }
        is("the last", things(20, 0, 0).run(19, 5), 5);
    }

    @Says("add N: A becomes (A + N) modulo 9973;")
    static void p09_addWrapsAround() {
        is("up to 9972", end("add 999", 8973), 9972);
        is("to 0", end("add 999", 8974), 0);
        is("to 1", end("add 999", 8975), 1);
        is("the most", end("add 999", 9972), 998);
        is("nothing", end("add 0", 9972), 9972);
        is("one", end("add 1", 9972), 0);
    }

    @Says("mul N: (A N) modulo 9973;")
    static void p09_mulWrapsAround() {
        is("below", end("mul 2", 4986), 9972);
        is("over", end("mul 2", 4987), 1);
        is("the most", end("mul 999", 9972), 8974);
        is("by 0", end("mul 0", 9972), 0);
        is("by 1", end("mul 1", 9972), 9972);
        is("never 9973", end("mul 277", 36), 9972);
        is("again and again", end(times(10, "mul 999"), 9972), power(999, 10));
    }

    private static int power(int n, int times) {
        long sum = 9972;
        for (int i = 0; i < times; i++) {
            sum = sum * n % 9973;
        }
        return (int) sum;
    }

    @Says("put N: FIELD N becomes A; get N: A becomes (A + FIELD N) modulo 9973;")
    static void p09_getWrapsAround() {
        is("below", end("put 0;add 1;get 0", 4985), 9971);
        is("to 0", end("put 0;add 1;get 0", 4986), 0);
        is("the most", end("put 0;get 0", 9972), 9971);
        is("a put does not change A", end("put 0", 9972), 9972);
        is("a field that was put twice", end("put 0;add 5;put 0;get 0", 1), 12);
        is("one that was not put", end("put 0;get 1", 7), 7);
    }

    @Says("odd N: it is run if A is odd;")
    static void p09_oddAndEven() {
        for (int a : new int[] {0, 2, 9970, 9972}) {
            RingUntie x = things(2, 0, 0);
            body(x, 0, "odd 1");
            body(x, 1, "mul 0;add 77");
            is("even " + a, x.run(0, a), a);
            is("acts", x.done(), 1);
            is("odd " + (a + 1) % 9973, x.run(0, (a + 1) % 9973), a == 9972 ? 0 : 77);
        }
        RingUntie x = things(2, 0, 0);
        body(x, 0, "odd 1");
        body(x, 1, "mul 0;add 77");
        is("odd 9971", x.run(0, 9971), 77);
        is("acts", x.done(), 3);
    }

    static void p09_newsWithNoHearers() {
        RingUntie x = things(1, 0, 1);
        body(x, 0, "news 0;add 1");
        is("run", x.run(0, 1), 2);
        is("acts", x.done(), 2);
    }

    @Says("A RUN of a ROUTINE with A (all FIELDS 0 ahead of it):")
    static void p09_fieldsAre0AheadOfEach() {
        RingUntie x = things(1, 10, 0);
        body(x, 0, "get 9;get 0;add 3;put 9;put 0");
        for (int i = 0; i < 3; i++) {
            is("run", x.run(0, 1), 4);
        }
        body(x, 0, "get 9;get 0");
        is("of another body", x.run(0, 1), 1);
    }

    static void p09_fieldsAre0BehindABigOne() {
        RingUntie x = things(2, 1, 0);
        body(x, 0, "get 0");
        body(x, 1, "add 1;put 0;call 1");
        is("big", x.run(1, 1), BIG);
        is("run", x.run(0, 1), 1);
        is("acts", x.done(), 1);
    }

    @Says({"call N: ROUTINE N is run;", "what A is at its end.", "routines as texts that are read and run,"})
    static void p09_theCallerGoesOnBehindACall() {
        RingUntie x = things(3, 2, 1);
        body(x, 0, "add 1;call 1;add 1;odd 1;news 0;get 1");
        body(x, 1, "mul 2;call 2;put 1");
        body(x, 2, "add 3");
        x.hear(0, 2);
        // 5+1=6, 12, 15 put, 16, even: none; news: 19, get 15: 34.
        is("run", x.run(0, 5), 34);
        is("acts", x.done(), 6 + 3 + 1 + 1);
    }

    private static RingUntie acts400() {
        RingUntie x = things(4, 0, 1);
        body(x, 2, times(10, "add 1"));
        body(x, 1, times(3, "call 2") + ";" + times(6, "add 1"));
        body(x, 0, times(10, "call 1"));
        return x;
    }

    @Says({"BIG.", "It is BIG if it does more than 400 ACTS,"})
    static void p09_400ActsAreTakenThe401stIsBig() {
        RingUntie x = acts400();
        is("400", x.run(0, 0), 360);
        is("acts", x.done(), 400);
        body(x, 1, times(3, "call 2") + ";" + times(5, "add 1"));
        is("390", x.run(0, 0), 350);
        is("acts", x.done(), 390);
        body(x, 3, times(9, "add 1") + ";call 0");
        is("400", x.run(3, 0), 359);
        is("acts", x.done(), 400);
        body(x, 3, times(8, "add 1") + ";call 0;add 1");
        is("400, one behind the call", x.run(3, 0), 359);
        body(x, 3, times(9, "add 1") + ";call 0");
        body(x, 1, times(3, "call 2") + ";" + times(6, "add 1"));
        is("410", x.run(3, 0), BIG);
        body(x, 3, "call 0");
        is("401", x.run(3, 0), BIG);
    }

    /** 400 acts with the last one of each sort; one more of it is too much. */
    static void p09_eachSortOfActIsCounted() {
        for (String last : new String[] {"add 0", "mul 1", "put 0", "get 0", "call 5", "odd 5", "news 0"}) {
            RingUntie x = things(6, 1, 1);
            body(x, 2, times(10, "mul 1"));
            body(x, 1, times(3, "call 2") + ";" + times(5, "mul 1"));
            body(x, 0, times(10, "call 1"));
            body(x, 3, times(8, "mul 1") + ";call 0;" + last);
            is("400, the last is " + last, x.run(3, 0), 0);
            is("acts", x.done(), 400);
            body(x, 4, "call 3");
            is("401, the last is " + last, x.run(4, 0), BIG);
        }
    }

    static void p09_hearersActsAreCounted() {
        RingUntie x = things(8, 0, 1);
        body(x, 0, times(6, "news 0") + ";call 7");
        for (int r = 1; r <= 6; r++) {
            body(x, r, times(10, "add 1"));
            x.hear(0, r);
        }
        // 6 news and a call with 6 times 60 acts behind them: 367.
        body(x, 7, "");
        is("367", x.run(0, 0), 360);
        is("acts", x.done(), 367);
        x.add(ROUTINE, 0);
        x.add(ROUTINE, 0);
        body(x, 7, times(3, "call 8") + ";" + times(6, "add 1"));
        body(x, 8, times(8, "add 1"));
        is("400", x.run(0, 0), 390);
        is("acts", x.done(), 400);
        body(x, 7, times(3, "call 8") + ";" + times(7, "add 1"));
        is("401", x.run(0, 0), BIG);
    }

    /** Routine r runs r + 1 by a word; the 20th runs the one at a turn again while A is odd. */
    private static RingUntie loop(String word, int again) {
        RingUntie x = things(20, 0, 8);
        for (int r = 0; r < 19; r++) {
            body(x, r, word + " " + (r + 1));
        }
        body(x, 19, "add 1;odd " + again);
        return x;
    }

    @Says("or more than 30 ROUTINES")
    static void p09_30AtWorkAreTakenThe31stIsBig() {
        // From 0: 20 at work; then, A being odd, those from the turn on once more.
        RingUntie x = loop("call", 10);
        is("20 at work", x.run(0, 1), 2);
        is("acts", x.done(), 21);
        is("30 at work", x.run(0, 0), 2);
        is("acts", x.done(), 32);
        refused("31 at work", BIG, () -> loop("call", 9), y -> y.run(0, 0));
        is("30 from one less", loop("call", 9).run(1, 0), 2);
    }

    static void p09_31stWithNoBodyIsAtWorkToo() {
        for (String word : new String[] {"call 19", "odd 19", "news 0"}) {
            RingUntie x = things(20, 0, 1);
            x.hear(0, 19);
            // 0 to 14 twice are 30 at work; a field tells the second time.
            for (int r = 0; r < 14; r++) {
                body(x, r, "call " + (r + 1));
            }
            body(x, 14, "add 1;odd 0;mul 0;add 1;" + word);
            is("31 by " + word, x.run(0, 0), BIG);
            is("29 + 1 by " + word, x.run(1, 0), 1);
            body(x, 14, "add 1;odd 0");
            is("30 at work", x.run(0, 0), 2);
        }
    }

    @Says("(HEARERS) are at work at once.")
    static void p09_hearersAtWork() {
        RingUntie x = things(20, 0, 8);
        for (int r = 0; r < 7; r++) {
            body(x, r, "news " + r);
            x.hear(r, r + 1);
        }
        for (int r = 7; r < 19; r++) {
            body(x, r, "call " + (r + 1));
        }
        body(x, 19, "add 1;odd 10");
        is("30 with 7 hearers", x.run(0, 0), 2);
        is("acts", x.done(), 32);
        body(x, 19, "add 1;odd 9");
        is("31 with 7 hearers", x.run(0, 0), BIG);
        is("30 with 6", x.run(1, 0), 2);
        body(x, 19, "add 1;news 7");
        x.hear(7, 10);
        is("for ever by a hearer", x.run(0, 0), BIG);
    }

    @Says("at work at once.")
    static void p09_oneBehindTheOtherIsNotAtOnce() {
        RingUntie x = things(20, 0, 1);
        for (int r = 0; r < 14; r++) {
            body(x, r, "call " + (r + 1));
        }
        // 15 at work, then 15 more, and ten that come one behind the other as the 30th.
        body(x, 14, "add 1;odd 1;" + times(8, "call 15"));
        is("30 at most", x.run(0, 0), 2);
        RingUntie y = things(2, 0, 0);
        body(y, 0, times(10, "call 1"));
        is("ten times", y.run(0, 3), 3);
        RingUntie z = things(8, 0, 1);
        body(z, 0, times(10, "news 0"));
        for (int r = 1; r <= 6; r++) {
            z.hear(0, r);
        }
        is("60 hearers, one at a time", z.run(0, 3), 3);
        is("acts", z.done(), 10);
    }

    static void p09_badIsToldAheadOfBig() {
        Build loop = () -> {
            RingUntie x = things(1, 0, 0);
            body(x, 0, "call 0");
            return x;
        };
        refused("run(0, -1)", BAD, loop, x -> x.run(0, -1));
        refused("run(0, 9973)", BAD, loop, x -> x.run(0, 9973));
        refused("run(0, 0)", BIG, loop, x -> x.run(0, 0));
    }

    static void p09_manyMoreThan400() {
        RingUntie x = things(20, 0, 8);
        for (int r = 0; r < 20; r++) {
            body(x, r, times(10, "call " + Math.min(r + 1, 19)));
        }
        is("ten to the twentieth", x.run(0, 0), BIG);
        is("for ever", x.run(19, 0), BIG);
        for (int n = 0; n < 6; n++) {
            x.hear(0, n);
        }
        body(x, 5, times(10, "news 0"));
        is("by hearers", x.run(5, 0), BIG);
    }

    static void p09_isNoChange() {
        RingUntie x = busy();
        int kept = x.count(7);
        is("run(0, 4)", x.run(0, 4) >= 0 ? 1 : 0, 1);
        is("count(7)", x.count(7), kept);
        is("the tape", x.count(9), 8);
    }

    // ---- 10 done

    static void p10_noRunYet() {
        is("done()", new RingUntie().done(), 0);
        RingUntie x = things(1, 0, 0);
        body(x, 0, "add 1");
        is("ahead of a run", x.done(), 0);
    }

    @Says("How many ACTS the latest run() that was not refused did.")
    static void p10_refusedRunsDoNotCount() {
        RingUntie x = things(3, 0, 0);
        body(x, 0, "add 1;add 1;add 1");
        body(x, 1, "call 1");
        x.run(0, 0);
        is("three", x.done(), 3);
        is("no routine", x.run(3, 0), NONE);
        is("still three", x.done(), 3);
        is("no A", x.run(2, 9973), BAD);
        is("still three", x.done(), 3);
        is("big", x.run(1, 0), BIG);
        is("still three", x.done(), 3);
        is("no acts", x.run(2, 0), 0);
        is("none", x.done(), 0);
    }

    static void p10_bigAheadOfAll() {
        RingUntie x = things(1, 0, 0);
        body(x, 0, "call 0");
        is("big", x.run(0, 0), BIG);
        is("done()", x.done(), 0);
    }

    static void p10_upTo400() {
        RingUntie x = acts400();
        x.run(0, 0);
        is("400", x.done(), 400);
        body(x, 3, "call 0");
        is("401", x.run(3, 0), BIG);
        is("the latest that was not refused", x.done(), 400);
    }

    static void p10_stays() {
        RingUntie x = things(1, 0, 0);
        body(x, 0, "add 1;add 1");
        x.run(0, 0);
        body(x, 0, "");
        is("behind a change", x.done(), 2);
        x.back();
        x.back();
        is("behind back()", x.done(), 2);
        is("asked again", x.done(), 2);
    }
}
