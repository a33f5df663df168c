/** All that calls which change nothing tell of an object, as one text. */
final class Look {
    private Look() {
    }

    static String at(DitchSaint x) {
        StringBuilder all = new StringBuilder();
        for (int i = 0; i <= 11; i++) {
            all.append(x.many(i)).append(' ');
        }
        for (int i = 0; i < 8; i++) {
            for (int what = 0; what < 5; what++) {
                all.append(x.right(i, what)).append(' ');
            }
            all.append(x.clause(i, 0)).append(' ').append(x.clause(i, 1)).append(' ');
        }
        for (int i = 0; i < 5; i++) {
            for (int what = 0; what < 3; what++) {
                all.append(x.debt(i, what)).append(' ');
            }
        }
        for (int i = 0; i < 6; i++) {
            all.append(x.witness(i, 0)).append(' ').append(x.witness(i, 1)).append(' ');
        }
        for (int ago = 0; ago <= 6; ago++) {
            all.append(x.layAgo(ago)).append(' ');
        }
        all.append(x.chest(0)).append(' ').append(x.chest(1)).append(' ');
        return all.toString();
    }

    /** What is no part of a MARK, too. */
    static String atAll(DitchSaint x) {
        StringBuilder all = new StringBuilder(at(x));
        all.append("| ").append(x.top()).append(' ').append(x.bottom()).append(' ');
        all.append(x.fault(0)).append(' ').append(x.fault(1)).append(' ');
        for (int i = 0; i < 5; i++) {
            all.append(x.lived(i)).append(' ');
        }
        for (int tray = 0; tray < 4; tray++) {
            for (int i = 0; i < 60; i++) {
                all.append(x.read(tray, i)).append(' ').append(x.status()).append(' ');
            }
        }
        return all.toString();
    }
}
