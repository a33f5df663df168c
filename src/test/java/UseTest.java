/** What README.md shows, line by line, and what comes of it (ReadmeTest holds both together). */
public final class UseTest {
    public static void main(String[] args) {
        use();
        refused();
        Due.end();
    }

    static int put(DitchSaint x, String text) {
        for (int i = 0; i < text.length(); i += 20) {
            int[] row = new int[5];
            for (int k = 0; k < 20; k++) {
                int sign = i + k < text.length() ? text.charAt(i + k) : ' ';
                row[k / 4] = row[k / 4] << 8 | sign;
            }
            x.feed(row[0], row[1], row[2], row[3], row[4]);
        }
        return text.length();
    }

    private static void use() {
        DitchSaint x = new DitchSaint();
        int n = put(x, "toll 3; lies west; chest east 10; right east here worth 5 in 0 1 2;");
        int rights = x.parish(n);
        Due.is(x, "rights", rights, 1);
        int lies = x.carry(2, 2);
        Due.is(x, "lies", lies, 0);
        int both = x.month(3);
        Due.is(x, "both", both, 22);
        int kept = x.mark();
        Due.is(x, "kept", kept, 1);
        int steps = x.years(put(x, "swear east 9 2; loop 4; any; end; pay 0;"));
        Due.is(x, "steps", steps, 4);
        int done = x.live(7);
        Due.is(x, "done", done, 7);
        int missed = x.lived(0);
        Due.is(x, "missed", missed, 3);
        int left = x.back();
        Due.is(x, "left", left, 0);
        Due.is(x, "months", x.many(9), 3);
        Due.is(x, "east", x.chest(0), 22);
        if (x.share(0)) {
            long top = x.top();
            long bottom = x.bottom();
            Due.is(x, "top", top, 1);
            Due.is(x, "bottom", bottom, 1);
        }
    }

    private static void refused() {
        DitchSaint x = new DitchSaint();
        int taken = x.parish(put(x, "toll 3; odds 17;"));
        Due.is("taken", taken, DitchSaint.NONE);
        if (taken == DitchSaint.NONE && x.status() == 10) {
            int fault = x.fault(0);
            int place = x.fault(1);
            Due.is("fault", fault, 4);
            Due.is("place", place, 13);
        }
        int net = x.net(1);
        boolean isAnswer = x.status() == 0;
        Due.is("net", net, -4);
        Due.yes("answered", isAnswer);
        int gain = x.gain(2, 0);
        Due.is("gain", gain, DitchSaint.NONE);
        int why = x.status();
        Due.is("why", why, 2);
    }
}
