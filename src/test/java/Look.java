/** What an object tells of itself, as one text, in few calls: an object has 512 of them. */
final class Look {
    private static final int BLANKS = 0x20202020;

    private Look() {
    }

    /** All that a MARK keeps, but for the YEARS. */
    static String at(DitchSaint x) {
        StringBuilder all = new StringBuilder();
        int[] many = new int[12];
        for (int i = 0; i < many.length; i++) {
            many[i] = x.many(i);
            all.append(many[i]).append(' ');
        }
        for (int i = 0; i < many[0]; i++) {
            for (int what = 0; what < 5; what++) {
                all.append(x.right(i, what)).append(' ');
            }
        }
        for (int i = 0; i < many[1]; i++) {
            for (int what = 0; what < 3; what++) {
                all.append(x.debt(i, what)).append(' ');
            }
        }
        for (int i = 0; i < many[3]; i++) {
            all.append(x.clause(i, 0)).append(' ').append(x.clause(i, 1)).append(' ');
        }
        for (int i = 0; i < many[4]; i++) {
            all.append(x.witness(i, 0)).append(' ').append(x.witness(i, 1)).append(' ');
        }
        for (int ago = 1; ago <= 6; ago++) {
            all.append(x.layAgo(ago)).append(' ');
        }
        return all.append(x.chest(0)).append(' ').append(x.chest(1)).append(' ').toString();
    }

    /** What is no part of a MARK, too; changes nothing but STATUS. */
    static String atAll(DitchSaint x) {
        StringBuilder all = new StringBuilder(at(x));
        all.append("| ").append(x.top()).append(' ').append(x.bottom()).append(' ');
        all.append(x.fault(0)).append(' ').append(x.fault(1)).append(' ').append(lived(x));
        for (int tray = 0; tray < 4; tray++) {
            int status = 0;
            for (int i = 0; i < 12 && status == 0; i++) {
                all.append(x.read(tray, i)).append(' ');
                status = x.status();
            }
            all.append(status).append(' ');
        }
        return all.toString();
    }

    /** All there is: the YEARS are lived, all MARKS gone back to, the tape is read; so it is used up. */
    static String through(DitchSaint x) {
        StringBuilder all = new StringBuilder(atAll(x));
        int fed = x.feed(BLANKS, BLANKS, BLANKS, BLANKS, BLANKS);
        all.append("| ").append(fed).append(' ').append(live(x));
        int left = x.back();
        while (left != DitchSaint.NONE) {
            all.append("| ").append(left).append(' ').append(at(x)).append(live(x));
            left = x.back();
        }
        all.append("| ").append(x.parish(fed == DitchSaint.NONE ? 900 : fed - 20)).append(' ');
        return all.append(x.fault(0)).append(' ').append(x.fault(1)).append(' ').append(at(x)).toString();
    }

    private static String live(DitchSaint x) {
        return x.live(1) + " " + lived(x) + x.chest(0) + " " + x.chest(1) + " " + x.many(9) + " ";
    }

    private static String lived(DitchSaint x) {
        StringBuilder all = new StringBuilder();
        for (int i = 0; i < 5; i++) {
            all.append(x.lived(i)).append(' ');
        }
        return all.toString();
    }
}
