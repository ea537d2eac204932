/** What the project's tests share: answers are compared with the due ones, and texts are fed. */
final class Due {
    private int wrong = 0;
    private int seen = 0;

    void is(String call, long got, long want) {
        seen++;
        if (got != want) {
            wrong++;
            System.out.println(call + " answered " + got + ", due is " + want);
        }
    }

    void holds(String what, boolean is) {
        is(what, is ? 1 : 0, 1);
    }

    /** Prints the sum, and ends the program with exit code 1 if an answer was wrong. */
    void end(String name) {
        System.out.println(name + ": " + (seen - wrong) + " as due, " + wrong + " not");
        if (wrong != 0 || seen == 0) {
            System.exit(1);
        }
    }

    /** Feeds a text to the tape, eight bytes at a time: the last answer. */
    static int feed(RingUntie x, String text) {
        int answer = x.count(9);
        for (int from = 0; from < text.length(); from += 8) {
            int to = Math.min(from + 8, text.length());
            long w = 0;
            for (int i = from; i < to; i++) {
                w = w << 8 | text.charAt(i);
            }
            answer = x.feed(w, to - from);
        }
        return answer;
    }

    static int body(RingUntie x, int routine, String text) {
        feed(x, text);
        return x.body(routine);
    }

    /** An object with parts of which each has one routine of the same number. */
    static RingUntie withParts(int parts) {
        RingUntie x = new RingUntie();
        for (int p = 0; p < parts; p++) {
            x.part();
            x.add(0, p);
        }
        return x;
    }
}
