import java.util.StringJoiner;

/**
 * All that can be seen of an object, in rows of answers. Some questions change what they ask about,
 * and an object is promised for 512 calls alone: so each row is read from an object of its own.
 */
final class View {
    static final int ALL = 0, NO_TAPE = 1, NO_TIE_TOLD = 2;
    private static final int[] STEPS_BACK = {1, 2, 3, 5, 9, 14, 19, 20, 21};
    static final String[] NAMES = {"the program", "ties", "rings", "prices, what is allowed, the guard", "runs",
        "hearers", "the tape", "what is kept"};
    static final int ROWS = NAMES.length - 1 + STEPS_BACK.length;

    private final RingUntie x;
    private final int but;
    private final StringJoiner answers = new StringJoiner(" ");

    private View(RingUntie x, int but) {
        this.x = x;
        this.but = but;
    }

    static String row(RingUntie x, int row, int but) {
        View view = new View(x, but);
        switch (row) {
            case 0: view.program(); view.memory(); break;
            case 1: view.ties(); break;
            case 2: view.rings(); break;
            case 3: view.told(); break;
            case 4: view.runs(); break;
            case 5: view.hearers(); break;
            case 6: view.tape(); break;
            default: view.past(STEPS_BACK[row - NAMES.length + 1]); break;
        }
        return view.answers.toString();
    }

    private void see(int answer) {
        answers.add(String.valueOf(answer));
    }

    private void program() {
        for (int what = 0; what < 9; what++) {
            see(x.count(what));
        }
        for (int what = 0; what < 3; what++) {
            for (int i = 0; i < x.count(what + 1); i++) {
                see(x.where(what, i));
            }
        }
        for (int r = 0; r < x.count(1); r++) {
            for (int i = 0; i < 10 && x.act(r, i, 0) >= 0; i++) {
                see(x.act(r, i, 0));
                see(x.act(r, i, 1));
            }
            answers.add(";");
        }
    }

    private void memory() {
        see(x.done());
        if ((but & NO_TIE_TOLD) == 0) {
            see(x.guarded());
        }
        if ((but & NO_TAPE) == 0) {
            see(x.count(9));
        }
    }

    private void ties() {
        int parts = x.count(0);
        for (int p = 0; p < parts; p++) {
            see(x.group(p));
            see(x.layer(p));
            for (int q = 0; q < parts; q++) {
                see(x.tie(p, q, 0));
                see(x.tie(p, q, 1));
            }
        }
        see(x.groups());
        see(x.worth());
        see(x.breaks(0));
        see(x.bound());
        see(x.choice());
        for (int i = 0; i < parts; i++) {
            see(x.chosen(0, i));
            see(x.chosen(1, i));
        }
    }

    private void rings() {
        int parts = x.count(0);
        for (int p = 0; p < parts; p++) {
            for (int q = 0; q < parts; q++) {
                see(x.ring(p, q, 0, 0));
                see(x.ring(p, q, 1, 2));
            }
        }
    }

    private void told() {
        see(x.guard(0));
        for (int sort = 0; sort < 4; sort++) {
            see(x.price(sort, 1));
        }
        allowed();
    }

    private void allowed() {
        int parts = x.count(0);
        for (int p = 0; p < parts; p++) {
            for (int q = 0; q < parts; q++) {
                see(x.allow(p, q, 0));
            }
        }
    }

    private void runs() {
        for (int r = 0; r < x.count(1); r++) {
            for (int a = 1; a < 4; a++) {
                see(x.run(r, a));
                see(x.done());
            }
        }
    }

    private void hearers() {
        x.guard(0);
        for (int n = 0; n < x.count(3); n++) {
            for (int r = 0; r < x.count(1); r++) {
                see(x.hear(n, r));
            }
        }
    }

    /** What is on the tape is seen by the first routine that may read it. */
    private void tape() {
        if ((but & NO_TAPE) != 0) {
            return;
        }
        x.guard(0);
        x.part();
        x.add(0, 0);
        see(x.count(9));
        int answer = RingUntie.STATE;
        for (int r = 0; r < x.count(1) && answer == RingUntie.STATE; r++) {
            answer = x.body(r);
            see(answer);
        }
        program();
    }

    private void past(int steps) {
        for (int i = 0; i < steps; i++) {
            see(x.back());
        }
        program();
        allowed();
    }
}
