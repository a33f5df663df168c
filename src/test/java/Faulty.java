/** Texts that are not taken: NONE, STATUS 10, the FAULT and its place; the PARISH and the YEARS stay, the tape is empty. */
final class Faulty {
    private Faulty() {
    }

    static void parish(String text, int fault, int place) {
        DitchSaint x = old();
        String before = Look.at(x);
        Due.not(x, "10 " + text, Due.parish(x, text), 10);
        told(x, text, before, fault, place);
    }

    static void years(String text, int fault, int place) {
        DitchSaint x = old();
        String before = Look.at(x);
        Due.not(x, "11 " + text, Due.years(x, text), 10);
        told(x, text, before, fault, place);
    }

    private static DitchSaint old() {
        return Due.with("war 9;lies west;chest east 8;right west away worth 2 in 3;debt east sum 4 left 5;", "month 2;");
    }

    private static void told(DitchSaint x, String text, String before, int fault, int place) {
        Due.is("fault of " + text, x.fault(0), fault);
        Due.is("place of " + text, x.fault(1), place);
        Due.not(x, "the tape is empty behind " + text, x.parish(1), 5);
        Due.yes("the old parish stays behind " + text, before.equals(Look.at(x)));
        Due.is(x, "the old years stay behind " + text, x.live(0), 1);
        Due.is(x, "the old months stay behind " + text, x.lived(1), 2);
    }
}
