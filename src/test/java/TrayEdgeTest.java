/** Edges of TRAYS, promises 5 to 8, 21. */
public final class TrayEdgeTest {
    private static final int[] NO_TRAYS = {Integer.MIN_VALUE, -1, 4, Integer.MAX_VALUE};

    public static void main(String[] args) {
        traysAre0To3();
        sortsAre0To3();
        atMost60Numbers();
        below0IsNoLength();
        missingAtFirst();
        placesOfEachLength();
        emptyTrayHasNoPlace();
        all0WhenLaidAgain();
        cutWithSign();
        wordIsNotCut();
        pourAsksInItsOrder();
        pourFromPlaces();
        pourToPlaces();
        pourOfNone();
        pourOfAll();
        pourAsTheyWere();
        pourKeepsToItsTrays();
        worthsNeedAsManyPlaces();
        worthsOfNone();
        worthsLeaveTheRest();
        Due.end();
    }

    private static void traysAre0To3() {
        for (int tray : NO_TRAYS) {
            Refused.with(1, "5 tray " + tray, x -> x.tray(tray, 0, 1));
            Refused.with(1, "6 tray " + tray, x -> x.write(tray, 0, 1));
            Refused.with(1, "7 tray " + tray, x -> x.read(tray, 0));
            Refused.with(1, "8 from tray " + tray, x -> x.pour(tray, 0, 0, 0, 1));
            Refused.with(1, "8 to tray " + tray, x -> x.pour(0, 0, tray, 0, 1));
            Refused.with(1, "21 tray " + tray, x -> x.copyWorth(tray));
            Refused.with(1, "5 tray " + tray + " ahead of its length", x -> x.tray(tray, 0, 61));
            Refused.with(1, "6 tray " + tray + " ahead of its place", x -> x.write(tray, -1, 1));
            Refused.with(1, "7 tray " + tray + " ahead of its place", x -> x.read(tray, -1));
        }
        for (int tray = 0; tray < 4; tray++) {
            DitchSaint x = new DitchSaint();
            Due.yes(x, "5 tray " + tray, x.tray(tray, 0, 1));
            Due.yes(x, "6 tray " + tray, x.write(tray, 0, 3 + tray));
            Due.is(x, "7 tray " + tray, x.read(tray, 0), 3 + tray);
            for (int other = 0; other < 4; other++) {
                if (other != tray) {
                    Due.not(x, "5 that one alone", x.read(other, 0), 3);
                }
            }
        }
    }

    private static void sortsAre0To3() {
        for (int sort : NO_TRAYS) {
            Refused.with(1, "5 sort " + sort, x -> x.tray(0, sort, 1));
            Refused.with(1, "5 sort " + sort + " of a tray that is missing", x -> x.tray(1, sort, 1));
            Refused.with(1, "5 sort " + sort + " ahead of a length above 60", x -> x.tray(0, sort, 61));
            Refused.with(1, "5 sort " + sort + " ahead of a length below 0", x -> x.tray(0, sort, -1));
        }
        for (int sort = 0; sort < 4; sort++) {
            DitchSaint x = new DitchSaint();
            Due.yes(x, "5 sort " + sort, x.tray(0, sort, 1));
        }
    }

    private static void atMost60Numbers() {
        Refused.with(5, "5 61 numbers", x -> x.tray(0, 0, 61));
        Refused.with(5, "5 61 numbers of a tray that is missing", x -> x.tray(1, 0, 61));
        Refused.with(5, "5 as many as can be", x -> x.tray(0, 0, Integer.MAX_VALUE));
    }

    private static void below0IsNoLength() {
        Refused.with(6, "5 -1 numbers", x -> x.tray(0, 0, -1));
        Refused.with(6, "5 -1 numbers of a tray that is missing", x -> x.tray(1, 0, -1));
        Refused.with(6, "5 as few as can be", x -> x.tray(0, 0, Integer.MIN_VALUE));
    }

    private static void missingAtFirst() {
        for (int tray = 0; tray < 4; tray++) {
            int missing = tray;
            Refused.with(3, "6 missing " + tray, DitchSaint::new, x -> x.write(missing, 0, 1));
            Refused.with(3, "7 missing " + tray, DitchSaint::new, x -> x.read(missing, 0));
            Refused.with(3, "21 missing " + tray, DitchSaint::new, x -> x.copyWorth(missing));
        }
        Refused.with(3, "6 missing ahead of its place", x -> x.write(1, -1, 1));
        Refused.with(3, "7 missing ahead of its place", x -> x.read(1, 60));
        Refused.with(3, "8 missing from", x -> x.pour(1, 0, 0, 0, 1));
        Refused.with(3, "8 missing to", x -> x.pour(0, 0, 1, 0, 1));
        Refused.with(3, "21 missing ahead of its places", x -> x.copyWorth(1));
    }

    private static void placesOfEachLength() {
        for (int many : new int[] {1, 2, 59, 60}) {
            DitchSaint x = new DitchSaint();
            Due.yes(x, "5 " + many, x.tray(3, 1, many));
            Due.is(x, "5 all 0, the first", x.read(3, 0), 0);
            Due.is(x, "5 all 0, the last", x.read(3, many - 1), 0);
            for (int place : new int[] {0, many - 1}) {
                Due.yes(x, "6 place " + place + " of " + many, x.write(3, place, 7));
                Due.is(x, "7 place " + place + " of " + many, x.read(3, place), 7);
            }
            for (int place : new int[] {Integer.MIN_VALUE, -1, many, Integer.MAX_VALUE}) {
                Due.not(x, "6 place " + place + " of " + many, x.write(3, place, 7), 4);
                Due.not(x, "7 place " + place + " of " + many, x.read(3, place), 4);
            }
        }
        Refused.with(4, "6 place -1", x -> x.write(0, -1, 1));
        Refused.with(4, "6 place 3 of 3", x -> x.write(0, 3, 1));
        Refused.with(4, "7 place -1", x -> x.read(0, -1));
        Refused.with(4, "7 place 3 of 3", x -> x.read(0, 3));
    }

    private static void emptyTrayHasNoPlace() {
        DitchSaint x = new DitchSaint();
        Due.yes(x, "5 of none", x.tray(0, 0, 0));
        Due.not(x, "6 not missing, but without place 0", x.write(0, 0, 1), 4);
        Due.not(x, "7 not missing, but without place 0", x.read(0, 0), 4);
    }

    private static void all0WhenLaidAgain() {
        DitchSaint x = new DitchSaint();
        x.tray(0, 3, 60);
        for (int i = 0; i < 60; i++) {
            x.write(0, i, -1);
        }
        x.tray(0, 3, 2);
        Due.not(x, "5 shorter", x.read(0, 2), 4);
        x.tray(0, 3, 60);
        for (int i = 0; i < 60; i++) {
            Due.is(x, "5 all 0 at " + i, x.read(0, i), 0);
        }
    }

    private static void cutWithSign() {
        int[] bits = {8, 16, 32};
        for (int sort = 0; sort < bits.length; sort++) {
            long most = (1L << bits[sort] - 1) - 1;
            DitchSaint x = new DitchSaint();
            x.tray(0, sort, 1);
            cut(x, most, most);
            cut(x, most + 1, -most - 1);
            cut(x, -most - 1, -most - 1);
            cut(x, -most - 2, most);
            cut(x, 2 * most + 1, -1);
            cut(x, 2 * most + 2, 0);
            cut(x, Long.MAX_VALUE, -1);
            cut(x, Long.MIN_VALUE, 0);
        }
    }

    private static void wordIsNotCut() {
        DitchSaint x = new DitchSaint();
        x.tray(0, 3, 1);
        cut(x, Long.MAX_VALUE, Long.MAX_VALUE);
        cut(x, Long.MIN_VALUE, Long.MIN_VALUE);
        cut(x, -1, -1);
    }

    private static void cut(DitchSaint x, long written, long due) {
        Due.yes(x, "6 write " + written, x.write(0, 0, written));
        Due.is(x, "6 what is written is cut: " + written, x.read(0, 0), due);
    }

    /** 1, 3, 11, 6, 4: each is asked ahead of all that stand behind it. TRAY 1 is MISSING, 3 of another sort. */
    private static void pourAsksInItsOrder() {
        Refused.with(1, "8 1 from, ahead of 3", x -> x.pour(4, 0, 1, 0, 1));
        Refused.with(1, "8 1 to, ahead of 3", x -> x.pour(1, 0, 4, 0, 1));
        Refused.with(1, "8 1 ahead of 6", x -> x.pour(4, 0, 0, 0, -1));
        Refused.with(1, "8 1 ahead of 4", x -> x.pour(0, -1, 4, 0, 1));
        Refused.with(3, "8 3 from, ahead of 6", x -> x.pour(1, 0, 0, 0, -1));
        Refused.with(3, "8 3 to, ahead of 6", x -> x.pour(3, 0, 1, 0, -1));
        Refused.with(3, "8 3 ahead of 4", x -> x.pour(3, 9, 1, 0, 1));
        Refused.with(3, "8 3 of both", x -> x.pour(1, 0, 1, 0, 1));
        Refused.with(11, "8 11", x -> x.pour(0, 0, 3, 0, 1));
        Refused.with(11, "8 11 the other way", x -> x.pour(3, 0, 0, 0, 1));
        Refused.with(11, "8 11 ahead of 6", x -> x.pour(0, 0, 3, 0, -1));
        Refused.with(11, "8 11 ahead of 4", x -> x.pour(0, 9, 3, 9, 1));
        Refused.with(11, "8 11 of none", x -> x.pour(0, 0, 3, 0, 0));
        Refused.with(6, "8 6", x -> x.pour(0, 0, 2, 0, -1));
        Refused.with(6, "8 6 ahead of 4", x -> x.pour(0, -1, 2, 9, -1));
        Refused.with(6, "8 6 as few as can be", x -> x.pour(0, 0, 2, 0, Integer.MIN_VALUE));
    }

    /** TRAY 0 has 3 numbers, TRAY 2 has 5. */
    private static void pourFromPlaces() {
        Refused.with(4, "8 from -1", x -> x.pour(0, -1, 2, 0, 1));
        Refused.with(4, "8 from 3 of 3", x -> x.pour(0, 3, 2, 0, 1));
        Refused.with(4, "8 two from 2 of 3", x -> x.pour(0, 2, 2, 0, 2));
        Refused.with(4, "8 four of 3", x -> x.pour(0, 0, 2, 0, 4));
        Refused.with(4, "8 all too many from 1", x -> x.pour(0, 1, 2, 0, Integer.MAX_VALUE));
        Refused.with(4, "8 from as far as can be", x -> x.pour(0, Integer.MAX_VALUE, 2, 0, 2));
        Refused.with(4, "8 from as far below as can be", x -> x.pour(0, Integer.MIN_VALUE, 2, 0, 1));
        DitchSaint x = Refused.busy();
        Due.yes(x, "8 the last of 3", x.pour(0, 2, 2, 0, 1));
        Due.yes(x, "8 two from 1 of 3", x.pour(0, 1, 2, 0, 2));
        Due.is(x, "8 come", x.read(2, 0), -7);
    }

    private static void pourToPlaces() {
        Refused.with(4, "8 to -1", x -> x.pour(2, 0, 0, -1, 1));
        Refused.with(4, "8 to 3 of 3", x -> x.pour(2, 0, 0, 3, 1));
        Refused.with(4, "8 two to 2 of 3", x -> x.pour(2, 0, 0, 2, 2));
        Refused.with(4, "8 four to 3", x -> x.pour(2, 0, 0, 0, 4));
        Refused.with(4, "8 to as far as can be", x -> x.pour(2, 0, 0, Integer.MAX_VALUE, 2));
        Refused.with(4, "8 to as far below as can be", x -> x.pour(2, 0, 0, Integer.MIN_VALUE, 1));
        DitchSaint x = Refused.busy();
        Due.yes(x, "8 to the last of 3", x.pour(2, 4, 0, 2, 1));
        Due.is(x, "8 come", x.read(0, 2), 9);
        Due.yes(x, "8 two to 1 of 3", x.pour(2, 3, 0, 1, 2));
        row(x, 0, 0, 0, 9);
    }

    private static void pourOfNone() {
        DitchSaint x = Refused.busy();
        Due.yes(x, "8 none", x.pour(0, 1, 2, 4, 0));
        Due.yes(x, "8 none, just behind the last", x.pour(0, 3, 2, 5, 0));
        row(x, 2, 0, 0, 0, 0, 9);
        Due.not(x, "8 none, from -1", x.pour(0, -1, 2, 0, 0), 4);
        Due.not(x, "8 none, from beyond", x.pour(0, 4, 2, 0, 0), 4);
        Due.not(x, "8 none, to -1", x.pour(0, 0, 2, -1, 0), 4);
        Due.not(x, "8 none, to beyond", x.pour(0, 0, 2, 6, 0), 4);
        x.tray(1, 0, 0);
        Due.yes(x, "8 none of an empty one", x.pour(1, 0, 2, 0, 0));
        Due.not(x, "8 one of an empty one", x.pour(1, 0, 2, 0, 1), 4);
        Due.not(x, "8 one to an empty one", x.pour(2, 0, 1, 0, 1), 4);
    }

    private static void pourOfAll() {
        DitchSaint x = new DitchSaint();
        x.tray(0, 3, 60);
        x.tray(1, 3, 60);
        for (int i = 0; i < 60; i++) {
            x.write(0, i, i * 1000003L);
        }
        Due.not(x, "8 61", x.pour(0, 0, 1, 0, 61), 4);
        Due.yes(x, "8 60", x.pour(0, 0, 1, 0, 60));
        for (int i = 0; i < 60; i++) {
            Due.is(x, "8 all", x.read(1, i), i * 1000003L);
        }
    }

    private static void pourAsTheyWere() {
        for (int shift = -3; shift <= 3; shift++) {
            DitchSaint x = new DitchSaint();
            x.tray(0, 2, 10);
            for (int i = 0; i < 10; i++) {
                x.write(0, i, i);
            }
            Due.yes(x, "8 the same by " + shift, x.pour(0, 3, 0, 3 + shift, 4));
            for (int i = 0; i < 10; i++) {
                boolean isCome = i >= 3 + shift && i < 7 + shift;
                Due.is(x, "8 the same by " + shift + " at " + i, x.read(0, i), isCome ? i - shift : i);
            }
        }
    }

    private static void pourKeepsToItsTrays() {
        DitchSaint x = new DitchSaint();
        for (int tray = 0; tray < 4; tray++) {
            x.tray(tray, 0, 60);
            x.write(tray, 0, 10 + tray);
            x.write(tray, 59, 20 + tray);
        }
        Due.yes(x, "8", x.pour(2, 0, 1, 0, 60));
        for (int tray = 0; tray < 4; tray++) {
            Due.is(x, "8 first of " + tray, x.read(tray, 0), 10 + (tray == 1 ? 2 : tray));
            Due.is(x, "8 last of " + tray, x.read(tray, 59), 20 + (tray == 1 ? 2 : tray));
        }
    }

    /** Five RIGHTS: TRAY 0 has places for 3, TRAY 2 for just 5. */
    private static void worthsNeedAsManyPlaces() {
        Refused.with(4, "21 too few", x -> x.copyWorth(0));
        DitchSaint x = Refused.busy();
        Due.is(x, "21 as many", x.copyWorth(2), 5);
        row(x, 2, 5, 9, 2, 3, 4);
        x.claim(0, 0, 0, 50, 0);
        Due.not(x, "21 one place too few", x.copyWorth(2), 4);
        row(x, 2, 5, 9, 2, 3, 4);
        x.tray(0, 0, 8);
        x.claim(0, 0, 0, 50, 0);
        x.claim(0, 0, 0, 1, 0);
        Due.is(x, "21 all eight", x.copyWorth(0), 8);
        row(x, 0, 5, 9, 2, 3, 4, 50, 50, 1);
    }

    private static void worthsOfNone() {
        DitchSaint x = new DitchSaint();
        x.tray(0, 1, 0);
        Due.is(x, "21 none to an empty one", x.copyWorth(0), 0);
        x.tray(1, 1, 1);
        x.write(1, 0, 6);
        Due.is(x, "21 none", x.copyWorth(1), 0);
        row(x, 1, 6);
        x.claim(0, 0, 0, 1, 0);
        Due.not(x, "21 one to an empty one", x.copyWorth(0), 4);
    }

    private static void worthsLeaveTheRest() {
        DitchSaint x = Due.with("right east here worth 50 in;");
        x.tray(0, 0, 2);
        x.write(0, 1, -3);
        Due.is(x, "21 one", x.copyWorth(0), 1);
        row(x, 0, 50, -3);
    }

    private static void row(DitchSaint x, int tray, long... due) {
        for (int i = 0; i < due.length; i++) {
            Due.is(x, "tray " + tray + " place " + i, x.read(tray, i), due[i]);
        }
    }
}
