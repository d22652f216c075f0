import java.util.NoSuchElementException;

/** Counts what is as due and what is not; close() tells it, and fails the run if anything was not. */
final class Check {
    /** A call whose answer, or whose NoSuchElementException, is looked at. */
    interface Call {
        long answer();
    }

    private final String name;
    private int right;
    private int wrong;

    Check(String name) {
        this.name = name;
    }

    void same(String what, long due, long got) {
        tally(due == got, what, Long.toString(due), Long.toString(got));
    }

    void yes(String what, boolean got) {
        tally(got, what, "true", "false");
    }

    void no(String what, boolean got) {
        tally(!got, what, "false", "true");
    }

    void text(String what, String due, String got) {
        tally(due.equals(got), what, due, got);
    }

    void missing(String what, Call call) {
        try {
            tally(false, what, "NoSuchElementException", Long.toString(call.answer()));
        } catch (NoSuchElementException e) {
            tally(true, what, "", "");
        }
    }

    /** The answer of a call and the whole ROW behind it. */
    void rowed(String what, ClothWithMan cloth, long due, long got, long... row) {
        same(what, due, got);
        row(what, cloth, row);
    }

    void row(String what, ClothWithMan cloth, long... row) {
        same(what + ", numbers of the row", row.length, cloth.told(8));
        for (int i = 0; i < row.length && i < cloth.told(8); i++) {
            same(what + ", row(" + i + ")", row[i], cloth.row(i));
        }
        missing(what + ", behind the row", () -> cloth.row(row.length));
    }

    void close() {
        System.out.println(name + ": " + right + " answers as due, " + wrong + " not");
        if (wrong > 0 || right == 0) {
            System.exit(1);
        }
    }

    private void tally(boolean isRight, String what, String due, String got) {
        if (isRight) {
            right++;
        } else {
            wrong++;
            System.out.println(name + ": " + what + ": due is " + due + ", got " + got);
        }
    }

    // ---- ways to tell a cloth things

    static void write(ClothWithMan cloth, String text) {
        cloth.end(0);
        int full = (text.length() + 3) / 4 * 4;
        for (int i = 0; i < full; i += 4) {
            int v = 0;
            for (int j = i; j < i + 4; j++) {
                v = v << 8 | (j < text.length() ? text.charAt(j) : ' ');
            }
            cloth.sign(v);
        }
        cloth.end(text.length());
    }

    static int curve(ClothWithMan cloth, String text) {
        write(cloth, text);
        return cloth.curve();
    }

    static int story(ClothWithMan cloth, String text) {
        write(cloth, text);
        return cloth.story();
    }
}
