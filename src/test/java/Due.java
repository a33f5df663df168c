import java.nio.charset.StandardCharsets;

/** What the tests share: answers that are due, and texts put on the tape. */
final class Due {
    static final String PARISH = "odds 6;toll 3;war 4;lies west;chest east 10;chest west 20;"
            + "right east here worth 5 in 0 1 2;right west here worth 4 in 2 3 4 5;"
            + "right east away worth 2 in 6 7;right west late 2 worth 3 in 8 9;"
            + "debt east sum 7 left 2;debt west sum 30 left 5;"
            + "ask born;ask bones;clause born bones;clause not born;clause not bones;"
            + "witness 12 4;witness 3 9;";

    private static int wrong = 0;
    private static int asked = 0;

    private Due() {
    }

    static void is(String what, long got, long want) {
        asked++;
        if (got != want) {
            wrong++;
            if (wrong <= 40) {
                System.out.println(what + " answered " + got + ", due is " + want);
            }
        }
    }

    static void yes(String what, boolean got) {
        is(what, got ? 1 : 0, 1);
    }

    /** A call that was answered, with STATUS 0. */
    static void is(DitchSaint x, String what, long got, long want) {
        is(what, got, want);
        is("status behind " + what, x.status(), 0);
    }

    static void yes(DitchSaint x, String what, boolean got) {
        is(x, what, got ? 1 : 0, 1);
    }

    /** A call that was refused, with NONE. */
    static void not(DitchSaint x, String what, long got, int status) {
        is(what, got, DitchSaint.NONE);
        is("status behind " + what, x.status(), status);
    }

    /** A call that was refused, with false. */
    static void not(DitchSaint x, String what, boolean got, int status) {
        is(what, got ? 1 : 0, 0);
        is("status behind " + what, x.status(), status);
    }

    static void fraction(DitchSaint x, String what, boolean got, long top, long bottom) {
        yes(x, what, got);
        is("top behind " + what, x.top(), top);
        is("bottom behind " + what, x.bottom(), bottom);
    }

    /** Puts a text on the tape, blanks behind it; how many bytes it has itself. */
    static int feed(DitchSaint x, String text) {
        byte[] bytes = text.getBytes(StandardCharsets.ISO_8859_1);
        for (int i = 0; i < bytes.length; i += 20) {
            int[] row = new int[5];
            for (int k = 0; k < 20; k++) {
                int sign = i + k < bytes.length ? bytes[i + k] & 255 : ' ';
                row[k / 4] = row[k / 4] << 8 | sign;
            }
            x.feed(row[0], row[1], row[2], row[3], row[4]);
        }
        return bytes.length;
    }

    static int parish(DitchSaint x, String text) {
        return x.parish(feed(x, text));
    }

    static int years(DitchSaint x, String text) {
        return x.years(feed(x, text));
    }

    /** A new object with a PARISH that must be taken. */
    static DitchSaint with(String text) {
        DitchSaint x = new DitchSaint();
        parish(x, text);
        is("fault of: " + text, x.fault(0), 0);
        return x;
    }

    static DitchSaint with(String text, String years) {
        DitchSaint x = with(text);
        years(x, years);
        is("fault of: " + years, x.fault(0), 0);
        return x;
    }

    static void end() {
        System.out.println(wrong == 0 ? asked + " answers as due" : wrong + " of " + asked + " answers not as due");
        if (wrong != 0) {
            System.exit(1);
        }
    }
}
