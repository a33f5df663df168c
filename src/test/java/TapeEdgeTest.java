/** Edges of the tape and of what is told of a FAULT, promises 9 to 12. */
public final class TapeEdgeTest {
    private static final int BLANKS = 0x20202020;

    public static void main(String[] args) {
        twentyBytesEach();
        atMost900Bytes();
        highestByteFirst();
        feedHasNoStatus();
        parishOf900Bytes();
        lastTokenOf900Bytes();
        bytesBehindTheText();
        parishOfNoBytes();
        parishBelow0();
        parishBeyondTheTape();
        firstBytesAlone();
        yearsOf300Bytes();
        yearsAbove300();
        yearsOfNoBytes();
        yearsBelow0();
        yearsBeyondTheTape();
        emptyBehindATakenText();
        emptyBehindAFault();
        allElseBehindAFault();
        keptBehind5();
        faultAheadOfAny();
        faultOfOthers();
        faultOfNone();
        faultOfTheLatest();
        faultOutlives5();
        Due.end();
    }

    private static int blanks(DitchSaint x) {
        return x.feed(BLANKS, BLANKS, BLANKS, BLANKS, BLANKS);
    }

    private static DitchSaint fed(int times) {
        DitchSaint x = new DitchSaint();
        for (int i = 0; i < times; i++) {
            blanks(x);
        }
        return x;
    }

    /** A text of so many bytes, the last of which are these. */
    private static String ending(String last, int bytes) {
        return " ".repeat(bytes - last.length()) + last;
    }

    private static void twentyBytesEach() {
        DitchSaint x = new DitchSaint();
        for (int i = 1; i <= 45; i++) {
            Due.is("9 " + i + " times twenty", blanks(x), 20 * i);
        }
    }

    private static void atMost900Bytes() {
        DitchSaint x = fed(44);
        Due.is("9 just 900", blanks(x), 900);
        Due.is("9 there would be more than 900", x.feed(0, 0, 0, 0, 0), -1);
        Due.is("9 nor later", blanks(x), -1);
        Due.not(x, "9 none of them came", x.parish(901), 5);
        Due.is(x, "9 no byte of them came", x.parish(900), 0);
        Due.is("9 room again", blanks(x), 20);
    }

    private static void highestByteFirst() {
        String text = "toll 1;war 2;odds 3;";
        int[] row = {0x746f6c6c, 0x20313b77, 0x61722032, 0x3b6f6464, 0x7320333b};
        Due.is("9 as long as twenty bytes", text.length(), 20);
        DitchSaint x = new DitchSaint();
        x.feed(row[0], row[1], row[2], row[3], row[4]);
        Due.is(x, "9 all twenty", x.parish(20), 0);
        Due.is(x, "9 odds", x.many(5), 3);
        Due.is(x, "9 toll", x.many(6), 1);
        Due.is(x, "9 war", x.many(7), 2);
        DitchSaint y = new DitchSaint();
        y.feed(0xff000000, 0, 0, 0, 0);
        Due.not(y, "9 a byte with the highest bit", y.parish(20), 10);
        Due.is("9 it is no token", y.fault(0), 1);
        DitchSaint z = new DitchSaint();
        z.feed(0x20202020, 0x20202020, 0x20202020, 0x20202020, 0x202020ff);
        Due.not(z, "9 the last byte", z.parish(20), 10);
        Due.is("9 the last place", z.fault(1), 19);
    }

    private static void feedHasNoStatus() {
        DitchSaint x = fed(44);
        x.many(12);
        blanks(x);
        Due.is("9 no status when taken", x.status(), 5);
        x.chest(2);
        blanks(x);
        Due.is("9 no status when refused", x.status(), 2);
    }

    private static void parishOf900Bytes() {
        String text = ending("war 7;", 900);
        DitchSaint x = Due.with(text);
        Due.is(x, "10 the last of 900 bytes", x.many(7), 7);
        Due.feed(x, text);
        Due.not(x, "10 899 of them", x.parish(899), 10);
        Due.is("10 without the last", x.fault(0), 2);
        Due.is("10 at the text's length", x.fault(1), 899);
        Faulty.parish(ending("!", 900), 1, 899);
    }

    /** The last TOKEN goes to the very end of the tape, whatever WORD begins so. */
    private static void lastTokenOf900Bytes() {
        for (String begun : new String[] {"o", "od", "odd", "witnes", "en", "abcdefgh", "abcdefghi", "9", "1234", ";", "="}) {
            Faulty.parish(ending(begun, 900), 2, 900 - begun.length());
        }
        Faulty.parish(ending("12345", 900), 1, 895);
        for (String whole : new String[] {"odds", "clause", "right", "ask"}) {
            Faulty.parish(ending(whole, 900), 2, 900);
        }
    }

    /** What stands behind the first n bytes is no part of the text, though it would go on with a TOKEN. */
    private static void bytesBehindTheText() {
        for (int n = 0; n <= Due.PARISH.length(); n++) {
            DitchSaint x = new DitchSaint();
            Due.feed(x, Due.PARISH);
            x.parish(n);
            Clerk clerk = Clerk.ofParish(Due.PARISH.substring(0, n));
            Due.is("10 fault of the first " + n, x.fault(0), clerk.fault);
            Due.is("10 place in the first " + n, x.fault(1), clerk.place);
        }
    }

    private static void parishOfNoBytes() {
        DitchSaint x = Due.with("toll 9;right east here worth 1 in;");
        Due.is(x, "10 nothing of an empty tape", x.parish(0), 0);
        Due.is(x, "10 a parish of nothing", x.many(6), 2);
        Due.is(x, "10 without rights", x.many(0), 0);
        DitchSaint y = new DitchSaint();
        Due.feed(y, "toll 9;");
        Due.is(y, "10 nothing of a tape", y.parish(0), 0);
        Due.is(y, "10 still nothing", y.many(6), 2);
        Due.not(y, "10 the tape is empty then", y.parish(1), 5);
    }

    private static void parishBelow0() {
        Refused.with(5, "10 -1", x -> x.parish(-1));
        Refused.with(5, "10 as few as can be", x -> x.parish(Integer.MIN_VALUE));
        Refused.with(5, "10 -1 of an empty tape", DitchSaint::new, x -> x.parish(-1));
    }

    /** The tape of a busy one has 20 bytes. */
    private static void parishBeyondTheTape() {
        Refused.with(5, "10 21 of 20", x -> x.parish(21));
        Refused.with(5, "10 as many as can be", x -> x.parish(Integer.MAX_VALUE));
        Refused.with(5, "10 1 of none", DitchSaint::new, x -> x.parish(1));
        Refused.with(5, "10 901 of 900", () -> fed(45), x -> x.parish(901));
        DitchSaint x = Refused.busy();
        Due.is(x, "10 20 of 20", x.parish(20), 0);
        Due.is(x, "10 taken", x.many(7), 7);
    }

    private static void firstBytesAlone() {
        DitchSaint x = new DitchSaint();
        Due.feed(x, "war 7;war 8;!");
        Due.is(x, "10 the first 6", x.parish(6), 0);
        Due.is(x, "10 those", x.many(7), 7);
        Due.feed(x, "stop;stop;!");
        Due.is(x, "11 the first 5", x.years(5), 1);
        Due.feed(x, "war 77;");
        Due.not(x, "10 a part cut off", x.parish(6), 10);
        Due.is("10 the end is where it is cut", x.fault(1), 6);
        Due.feed(x, "toll 12345;");
        Due.not(x, "10 a number cut short", x.parish(9), 10);
        Due.is("10 is one of four digits", x.fault(0), 4);
        Due.feed(x, "ask abcdefghij;");
        Due.not(x, "10 a name cut short", x.parish(12), 10);
        Due.is("10 is one of eight letters", x.fault(1), 12);
    }

    private static void yearsOf300Bytes() {
        DitchSaint x = new DitchSaint();
        Due.is(x, "11 the last of 300 bytes", Due.years(x, ending("stop;", 300)), 1);
        Due.is(x, "11 one step", x.live(0), 1);
        Due.feed(x, ending("stop;", 300));
        Due.not(x, "11 299 of them", x.years(299), 10);
        Due.is("11 at the text's length", x.fault(1), 299);
        Faulty.years(ending("!", 300), 1, 299);
    }

    private static void yearsAbove300() {
        Refused.with(5, "11 301 of 320", () -> fed(16), x -> x.years(301));
        Refused.with(5, "11 900 of 900", () -> fed(45), x -> x.years(900));
        Refused.with(5, "11 as many as can be", () -> fed(45), x -> x.years(Integer.MAX_VALUE));
        DitchSaint x = fed(16);
        Due.is(x, "11 300 of 320", x.years(300), 0);
        DitchSaint y = fed(16);
        Due.is(y, "10 301 are fine for a parish", y.parish(301), 0);
    }

    private static void yearsOfNoBytes() {
        DitchSaint x = new DitchSaint();
        Due.is(x, "11 nothing of an empty tape", x.years(0), 0);
        Due.feed(x, "month 1;");
        Due.is(x, "11 nothing of a tape", x.years(0), 0);
        Due.not(x, "11 the tape is empty then", x.years(1), 5);
        Due.is(x, "51 years of no steps", x.live(0), 0);
        Due.is(x, "51 nothing went by", x.many(9), 0);
    }

    private static void yearsBelow0() {
        Refused.with(5, "11 -1", x -> x.years(-1));
        Refused.with(5, "11 as few as can be", x -> x.years(Integer.MIN_VALUE));
        Refused.with(5, "11 -1 of an empty tape", DitchSaint::new, x -> x.years(-1));
    }

    private static void yearsBeyondTheTape() {
        Refused.with(5, "11 21 of 20", x -> x.years(21));
        Refused.with(5, "11 1 of none", DitchSaint::new, x -> x.years(1));
        DitchSaint x = new DitchSaint();
        Due.feed(x, "stop;");
        Due.is(x, "11 20 of 20", x.years(20), 1);
    }

    private static void emptyBehindATakenText() {
        DitchSaint x = fed(3);
        Due.is(x, "10 a part of the tape", x.parish(7), 0);
        Due.is("10 it is empty then", blanks(x), 20);
        Due.is(x, "11 a part of the tape", x.years(7), 0);
        Due.is("11 it is empty then", blanks(x), 20);
    }

    private static void emptyBehindAFault() {
        DitchSaint x = new DitchSaint();
        Due.feed(x, "!                    ");
        Due.not(x, "10 a fault", x.parish(3), 10);
        Due.is("10 it is empty then", blanks(x), 20);
        Due.feed(x, "!                    ");
        Due.not(x, "11 a fault", x.years(30), 10);
        Due.is("11 it is empty then", blanks(x), 20);
    }

    /** But for the tape, and what fault() tells, both of which are here what they were. */
    private static void allElseBehindAFault() {
        DitchSaint x = faulty();
        Due.not(x, "10 a fault", Due.parish(x, "go"), 10);
        Due.yes("10 leaves all else as it was", Look.through(x).equals(Look.through(faulty())));
        DitchSaint y = faulty();
        Due.not(y, "11 a fault", Due.years(y, "go"), 10);
        Due.yes("11 leaves all else as it was", Look.through(y).equals(Look.through(faulty())));
    }

    private static DitchSaint faulty() {
        DitchSaint x = Refused.busy();
        x.years(20);
        Due.is("11 a fault at the first", x.fault(0) * 100 + x.fault(1), 200);
        return x;
    }

    private static void keptBehind5() {
        DitchSaint x = new DitchSaint();
        Due.feed(x, "war 7;");
        x.parish(21);
        x.parish(-1);
        x.years(21);
        x.years(-1);
        x.years(301);
        Due.is(x, "10 the tape is as it was", x.parish(6), 0);
        Due.is(x, "10 that text", x.many(7), 7);
    }

    private static void faultAheadOfAny() {
        DitchSaint x = new DitchSaint();
        Due.is("12 kind, ahead of any", x.fault(0), -1);
        Due.is("12 place, ahead of any", x.fault(1), -1);
        x.parish(1);
        x.years(1);
        Due.is("12 kind, 5 is none", x.fault(0), -1);
        Due.is("12 place, 5 is none", x.fault(1), -1);
        Due.is("12 has no status", x.status(), 5);
    }

    private static void faultOfOthers() {
        DitchSaint x = new DitchSaint();
        Due.parish(x, "!");
        for (int what : new int[] {Integer.MIN_VALUE, -1, 2, Integer.MAX_VALUE}) {
            Due.is("12 what " + what, x.fault(what), -1);
        }
        Due.is("12 has no status", x.status(), 10);
        x.parish(0);
        Due.is("12 what 2 without a fault", x.fault(2), -1);
    }

    private static void faultOfNone() {
        DitchSaint x = new DitchSaint();
        x.parish(0);
        Due.is("12 without one, of a parish", x.fault(0), 0);
        Due.is("12 no place, of a parish", x.fault(1), -1);
        DitchSaint y = new DitchSaint();
        y.years(0);
        Due.is("12 without one, of years", y.fault(0), 0);
        Due.is("12 no place, of years", y.fault(1), -1);
    }

    private static void faultOfTheLatest() {
        DitchSaint x = new DitchSaint();
        Due.parish(x, "odds 17;");
        told(x, 4, 5);
        Due.years(x, "!");
        told(x, 1, 0);
        Due.parish(x, "odds 16;");
        told(x, 0, -1);
        Due.years(x, "end;");
        told(x, 2, 0);
        Due.years(x, "stop;");
        told(x, 0, -1);
        Due.parish(x, "ask a;ask a;");
        told(x, 3, 10);
    }

    private static void faultOutlives5() {
        DitchSaint x = new DitchSaint();
        Due.parish(x, "odds 17;");
        x.parish(1);
        told(x, 4, 5);
        x.years(1);
        told(x, 4, 5);
        x.mark();
        x.back();
        told(x, 4, 5);
    }

    private static void told(DitchSaint x, int fault, int place) {
        Due.is("12 kind", x.fault(0), fault);
        Due.is("12 place", x.fault(1), place);
    }
}
