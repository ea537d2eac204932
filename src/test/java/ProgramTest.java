/** Promises 1 to 10: the program, the tape, runs. */
public final class ProgramTest {
    private static final Due DUE = new Due();
    private static final int NONE = RingUntie.NONE, BAD = RingUntie.BAD, STATE = RingUntie.STATE;
    private static final int FULL = RingUntie.FULL, BIG = RingUntie.BIG;

    public static void main(String[] args) {
        promise1();
        promise2();
        promise3();
        promise4();
        promise5();
        promise6Faults();
        promise6Refusals();
        promise7();
        promise8();
        promise9Acts();
        promise9Limits();
        promise10();
        DUE.end("ProgramTest");
    }

    private static void promise1() {
        RingUntie x = new RingUntie();
        for (int what = 0; what < 10; what++) {
            DUE.is("1 count(" + what + ")", x.count(what), 0);
        }
        DUE.is("1 guarded()", x.guarded(), NONE);
        DUE.is("1 done()", x.done(), 0);
        DUE.is("1 choice()", x.choice(), 0);
        DUE.is("1 chosen(0, 0)", x.chosen(0, 0), NONE);
        DUE.is("1 bound()", x.bound(), 0);
        DUE.is("1 groups()", x.groups(), 0);
        DUE.is("1 worth()", x.worth(), 0);
        DUE.is("1 breaks(0)", x.breaks(0), 0);
        DUE.is("1 breaks(1)", x.breaks(1), BAD);
        DUE.is("1 back()", x.back(), STATE);
        DUE.is("1 guard(0)", x.guard(0), 0);
        DUE.is("1 day(0)", x.day(0), 0);
        for (int sort = 0; sort < 4; sort++) {
            DUE.is("1 price(" + sort + ", 1)", x.price(sort, 1), 1);
        }
    }

    private static void promise2() {
        RingUntie x = new RingUntie();
        for (int p = 0; p < 10; p++) {
            DUE.is("2 part()", x.part(), p);
        }
        DUE.is("2 part() of an eleventh", x.part(), FULL);
        DUE.is("2 count(0)", x.count(0), 10);
        DUE.is("2 count(7): what was refused is no change", x.count(7), 10);
    }

    private static void promise3() {
        RingUntie x = new RingUntie();
        DUE.is("3 add(0, 0) ahead of parts", x.add(0, 0), NONE);
        x.part();
        int[] most = {20, 10, 8};
        for (int what = 0; what < 3; what++) {
            for (int i = 0; i < most[what]; i++) {
                DUE.is("3 add(" + what + ", 0)", x.add(what, 0), i);
            }
            DUE.is("3 add(" + what + ", 0) beyond", x.add(what, 0), FULL);
            DUE.is("3 add(" + what + ", 1): NONE ahead of FULL", x.add(what, 1), NONE);
            DUE.is("3 add(" + what + ", -1)", x.add(what, -1), NONE);
            DUE.is("3 count", x.count(what + 1), most[what]);
        }
        DUE.is("3 add(3, 0)", x.add(3, 0), NONE);
        DUE.is("3 add(-1, 0)", x.add(-1, 0), NONE);
    }

    private static void promise4() {
        RingUntie x = new RingUntie();
        x.part();
        x.part();
        x.part();
        x.add(0, 2);
        x.add(1, 1);
        x.add(2, 0);
        x.add(0, 1);
        DUE.is("4 where(0, 0)", x.where(0, 0), 2);
        DUE.is("4 where(0, 1)", x.where(0, 1), 1);
        DUE.is("4 where(1, 0)", x.where(1, 0), 1);
        DUE.is("4 where(2, 0)", x.where(2, 0), 0);
        DUE.is("4 where(0, 2)", x.where(0, 2), NONE);
        DUE.is("4 where(1, -1)", x.where(1, -1), NONE);
        DUE.is("4 where(3, 0)", x.where(3, 0), NONE);
        DUE.is("4 where(-1, 0)", x.where(-1, 0), NONE);
        DUE.is("4 where far", x.where(Integer.MAX_VALUE, Integer.MIN_VALUE), NONE);
    }

    private static void promise5() {
        RingUntie x = new RingUntie();
        DUE.is("5 feed(1, 0)", x.feed(1, 0), BAD);
        DUE.is("5 feed(1, 9)", x.feed(1, 9), BAD);
        DUE.is("5 feed(1, -1)", x.feed(1, -1), BAD);
        x.part();
        x.add(0, 0);
        // Only the lowest bytes count, the highest of them first.
        DUE.is("5 feed, 5", x.feed(0xFFFFFF6164642037L, 5), 5);
        DUE.is("5 body(0)", x.body(0), 1);
        DUE.is("5 its number", x.act(0, 0, 1), 7);
        for (int i = 1; i <= 14; i++) {
            DUE.is("5 feed, 8", x.feed(-1L, 8), 8 * i);
        }
        DUE.is("5 feed, 7", x.feed(0, 7), 119);
        DUE.is("5 feed, 2 beyond", x.feed(0, 2), FULL);
        DUE.is("5 count(9)", x.count(9), 119);
        DUE.is("5 feed, BAD ahead of FULL", x.feed(0, 99), BAD);
        DUE.is("5 feed, the last", x.feed(0, 1), 120);
        DUE.is("5 feed, one beyond", x.feed(0, 1), FULL);
        DUE.is("5 body of bytes that are no text", x.body(0), -10);
        DUE.is("5 the tape is empty then", x.count(9), 0);
    }

    private static void fault(String text, int fault) {
        RingUntie x = Due.withParts(1);
        x.add(1, 0);
        x.add(2, 0);
        DUE.is("6 body of '" + text + "'", Due.body(x, 0, text), -10 - fault);
        DUE.is("6 tape after '" + text + "'", x.count(9), 0);
        DUE.is("6 no change by '" + text + "'", x.count(7), 4);
        DUE.is("6 no acts by '" + text + "'", x.count(5), 0);
    }

    private static void promise6Faults() {
        fault("x", 0);
        fault(" add 1", 0);
        fault("Add 1", 0);
        fault(";", 0);
        fault("a", 1);
        fault("ad", 2);
        fault("and 1", 1);
        fault("add", 3);
        fault("add1", 3);
        fault("add ", 4);
        fault("add  1", 4);
        fault("add -1", 4);
        fault("add x", 4);
        fault("add 1x", 5);
        fault("add 1 ", 5);
        fault("add 12x", 6);
        fault("add 1234", 7);
        fault("add 0001", 7);
        fault("add 1;", 6);
        fault("add 1;;add 2", 6);
        fault("add 1; add 2", 6);
        fault("add 1;mull 2", 9);
        fault("mul 1;caal 0", 8);
        fault("news0", 4);
        fault("new 0", 3);
        fault("odd 0;o", 7);
        fault("call 9;x", 7);
        String ten = "add 1;add 1;add 1;add 1;add 1;add 1;add 1;add 1;add 1;add 1";
        fault(ten + ";add 1", ten.length());
        fault(ten + ";", ten.length());
        fault(ten + "000", ten.length() + 2);
        fault(ten + "x", ten.length());
        RingUntie x = Due.withParts(1);
        DUE.is("6 ten acts", Due.body(x, 0, ten), 10);
        DUE.is("6 no acts", x.body(0), 0);
        DUE.is("6 count(5)", x.count(5), 0);
        DUE.is("6 all words, nothing told there but 0", fillAll(), 7);
    }

    private static int fillAll() {
        RingUntie x = Due.withParts(1);
        x.add(1, 0);
        x.add(2, 0);
        return Due.body(x, 0, "add 1;mul 22;put 000;get 0;call 00;odd 0;news 0");
    }

    private static void promise6Refusals() {
        RingUntie x = Due.withParts(2);
        Due.feed(x, "add 1");
        DUE.is("6 body(2)", x.body(2), NONE);
        DUE.is("6 body(-1)", x.body(-1), NONE);
        DUE.is("6 the tape stays for NONE", x.count(9), 5);
        DUE.is("6 body(1)", x.body(1), 1);
        for (String text : new String[] {"call 2", "odd 2", "put 0", "get 0", "news 0", "add 5;call 999"}) {
            DUE.is("6 " + text, Due.body(x, 0, text), BAD);
            DUE.is("6 the tape is empty for BAD", x.count(9), 0);
        }
        DUE.is("6 the fault ahead of BAD", Due.body(x, 0, "call 7;x"), -17);
        DUE.is("6 call", Due.body(x, 0, "call 1"), 1);
        DUE.is("6 face(0, 0)", x.face(0, 0), 2);
        Due.feed(x, "call 99");
        DUE.is("6 body of a face routine", x.body(2), STATE);
        DUE.is("6 the tape stays for STATE", x.count(9), 7);
        DUE.is("6 then it is read", x.body(0), BAD);
        DUE.is("6 a body may call a face routine", Due.body(x, 1, "call 2"), 1);
        RingUntie y = Due.withParts(2);
        y.guard(1);
        DUE.is("6 one way", Due.body(y, 0, "call 1"), 1);
        DUE.is("6 the ring is guarded", Due.body(y, 1, "add 1;call 0"), RingUntie.GUARDED);
        DUE.is("6 the tape is empty for GUARDED", y.count(9), 0);
        DUE.is("6 nothing changed", y.count(5), 1);
        DUE.is("6 no change kept", y.count(7), 5);
    }

    private static void promise7() {
        RingUntie x = Due.withParts(1);
        x.add(1, 0);
        x.add(2, 0);
        Due.body(x, 0, "add 999;mul 007;put 0;get 0;call 0;odd 0;news 0");
        int[] numbers = {999, 7, 0, 0, 0, 0, 0};
        for (int i = 0; i < 7; i++) {
            DUE.is("7 sort of " + i, x.act(0, i, 0), i);
            DUE.is("7 number of " + i, x.act(0, i, 1), numbers[i]);
        }
        DUE.is("7 act 7", x.act(0, 7, 0), NONE);
        DUE.is("7 act -1", x.act(0, -1, 0), NONE);
        DUE.is("7 what 2", x.act(0, 0, 2), NONE);
        DUE.is("7 what -1", x.act(0, 0, -1), NONE);
        DUE.is("7 routine 1", x.act(1, 0, 0), NONE);
        DUE.is("7 routine -1", x.act(-1, 0, 0), NONE);
    }

    private static void promise8() {
        RingUntie x = Due.withParts(8);
        x.add(2, 0);
        DUE.is("8 hear(1, 0)", x.hear(1, 0), NONE);
        DUE.is("8 hear(-1, 0)", x.hear(-1, 0), NONE);
        DUE.is("8 hear(0, 8)", x.hear(0, 8), NONE);
        Due.body(x, 7, "call 6");
        x.face(7, 0);
        DUE.is("8 a face routine", x.hear(0, 8), STATE);
        for (int r = 0; r < 6; r++) {
            DUE.is("8 hear(0, " + r + ")", x.hear(0, r), r + 1);
            DUE.is("8 hear again", x.hear(0, r), STATE);
        }
        DUE.is("8 a seventh", x.hear(0, 6), FULL);
        DUE.is("8 STATE ahead of FULL", x.hear(0, 8), STATE);
        DUE.is("8 tie of a hearer", x.tie(5, 0, 0), 1);
        RingUntie y = Due.withParts(2);
        y.add(2, 1);
        Due.body(y, 1, "call 0");
        y.guard(1);
        DUE.is("8 guarded", y.hear(0, 0), RingUntie.GUARDED);
        DUE.is("8 guarded()", y.guarded(), 1);
        DUE.is("8 hearer of its own part", y.hear(0, 1), 1);
    }

    private static int runOf(String text, int a) {
        RingUntie x = Due.withParts(2);
        x.add(1, 0);
        x.add(1, 1);
        x.add(2, 0);
        Due.body(x, 1, "mul 3");
        x.hear(0, 1);
        Due.body(x, 0, text);
        return x.run(0, a);
    }

    private static void promise9Acts() {
        DUE.is("9 nothing", runOf("", 77), 77);
        DUE.is("9 add", runOf("add 5", 9970), 2);
        DUE.is("9 add to the edge", runOf("add 1", 9972), 0);
        DUE.is("9 mul", runOf("mul 999", 9972), 9973 - 999);
        DUE.is("9 get of a field that is 0", runOf("get 1", 5), 5);
        DUE.is("9 put, get", runOf("put 1;add 1;get 1", 5), 11);
        DUE.is("9 two fields", runOf("put 0;add 1;put 1;get 0;get 1", 5), 17);
        DUE.is("9 call", runOf("call 1;add 1", 5), 16);
        DUE.is("9 odd of odd", runOf("odd 1;add 1", 5), 16);
        DUE.is("9 odd of even", runOf("odd 1;add 1", 6), 7);
        DUE.is("9 news", runOf("news 0;add 1", 5), 16);
        RingUntie x = Due.withParts(3);
        x.add(1, 0);
        x.add(2, 0);
        Due.body(x, 0, "news 0;put 0");
        Due.body(x, 1, "add 1");
        Due.body(x, 2, "mul 2;get 0");
        x.hear(0, 2);
        x.hear(0, 1);
        DUE.is("9 hearers in their order", x.run(0, 5), 11);
        DUE.is("9 fields are 0 ahead of each run", x.run(0, 5), 11);
        DUE.is("9 run(3, 0)", x.run(3, 0), NONE);
        DUE.is("9 run(-1, 0)", x.run(-1, 0), NONE);
        DUE.is("9 run(0, -1)", x.run(0, -1), BAD);
        DUE.is("9 run(0, 9973)", x.run(0, 9973), BAD);
        DUE.is("9 NONE ahead of BAD", x.run(3, 9973), NONE);
    }

    /** Routine r runs routine r + 1, and the last one has nothing to do. */
    private static RingUntie chain(int size, String word) {
        RingUntie x = new RingUntie();
        x.part();
        for (int r = 0; r < size; r++) {
            x.add(0, 0);
        }
        for (int r = 0; r + 1 < size; r++) {
            Due.body(x, r, word + " " + (r + 1));
        }
        return x;
    }

    private static void promise9Limits() {
        RingUntie x = chain(20, "call");
        DUE.is("9 twenty at work", x.run(0, 1), 1);
        DUE.is("9 nineteen acts", x.done(), 19);
        // The last one runs the eleven from 9 on once more, as long as A is odd there.
        Due.body(x, 19, "odd 9;add 1");
        DUE.is("9 for ever", x.run(0, 1), BIG);
        Due.body(x, 19, "add 1;odd 9");
        DUE.is("9 31 at work", x.run(0, 0), BIG);
        DUE.is("9 31 at work, from one less", x.run(1, 0), 2);
        DUE.is("9 30 at work", x.done(), 32);
        x.add(2, 0);
        x.hear(0, 1);
        Due.body(x, 0, "news 0");
        DUE.is("9 hearers are at work too", x.run(0, 0), BIG);
        DUE.is("9 30 with none of them", x.run(1, 0), 2);
        RingUntie y = chain(3, "call");
        String ten = "call 1;call 1;call 1;call 1;call 1;call 1;call 1;call 1;call 1;call 1";
        String nine = "add 1;add 1;add 1;add 1;add 1;add 1;add 1;add 1;add 1";
        Due.body(y, 2, nine + ";add 1");
        Due.body(y, 1, "call 2;call 2;call 2;add 0;add 0;add 0");
        Due.body(y, 0, ten);
        DUE.is("9 370 acts", y.run(0, 0), 300);
        DUE.is("9 370 acts", y.done(), 370);
        Due.body(y, 1, "call 2;call 2;call 2;add 0;add 0;add 0;add 0;add 0;add 0");
        DUE.is("9 400 acts", y.run(0, 0), 300);
        DUE.is("9 400 acts", y.done(), 400);
        y.add(0, 0);
        Due.body(y, 3, "call 0");
        DUE.is("9 401 acts", y.run(3, 0), BIG);
        newsLimits();
    }

    private static void newsLimits() {
        RingUntie x = new RingUntie();
        x.part();
        x.add(0, 0);
        x.add(2, 0);
        x.hear(0, 0);
        Due.body(x, 0, "news 0");
        DUE.is("9 news for ever", x.run(0, 0), BIG);
        Due.body(x, 0, "mul 2");
        DUE.is("9 and then not", x.run(0, 4), 8);
    }

    private static void promise10() {
        RingUntie x = chain(3, "odd");
        DUE.is("10 ahead of all runs", x.done(), 0);
        x.run(0, 2);
        DUE.is("10 an odd that runs none is one", x.done(), 1);
        x.run(0, 1);
        DUE.is("10 two", x.done(), 2);
        x.run(9, 1);
        x.run(0, -1);
        DUE.is("10 refused ones do not count", x.done(), 2);
        Due.body(x, 2, "call 2");
        DUE.is("10 big", x.run(2, 0), BIG);
        DUE.is("10 nor big ones", x.done(), 2);
        x.back();
        x.run(2, 1);
        DUE.is("10 none", x.done(), 0);
    }
}
