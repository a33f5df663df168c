/**
 * Two villages, EAST and WEST, that have one dead man between them. The words in capitals are
 * those of the document. All rows are made once, in constructors: no call makes an object.
 */
public final class DitchSaint {
    public static final int NONE = -1;

    private static final int NO_TRAY = 1;
    private static final int NO_SUCH = 2;
    private static final int IS_MISSING = 3;
    private static final int NO_PLACE = 4;
    private static final int BAD_NUMBER = 5;
    private static final int BELOW_ZERO = 6;
    private static final int ONE_TOO_MANY = 7;
    private static final int THERE_IS_NONE = 8;
    private static final int CANNOT_BE = 9;
    private static final int HAS_FAULT = 10;
    private static final int UNLIKE_SORTS = 11;

    private static final int EAST = 0;
    private static final int WEST = 1;
    private static final int YEAR = 12;
    private static final int ALL_MONTHS = 4095;
    private static final int LAST_MONTH = 9999;
    private static final int MOST_AHEAD = 60;
    private static final int MOST_SEED = 9999;
    private static final int MOST_MARKS = 3;
    private static final int MOST_TURNS = 4;

    private final Trays trays = new Trays();
    private final Tokens tokens = new Tokens();
    private final Parish now = new Parish();
    private final Parish spare = new Parish();
    private final ParishReader parishReader = new ParishReader(tokens, spare);
    private final YearsReader yearsReader = new YearsReader(tokens, spare.years);
    private final Parish[] marks = new Parish[MOST_MARKS];
    private final Plans plans = new Plans();
    private final Life life = new Life();
    private final Life trial = new Life();
    private int markCount;
    private int status;
    private long fractionTop;
    private long fractionBottom;
    private int toldFault;
    private int toldPlace;
    private boolean hasRead;

    public DitchSaint() {
        for (int i = 0; i < MOST_MARKS; i++) {
            marks[i] = new Parish();
        }
        fractionBottom = 1;
        toldPlace = NONE;
    }

    public int status() {
        return status;
    }

    public long top() {
        return fractionTop;
    }

    public long bottom() {
        return fractionBottom;
    }

    // ---- TRAYS

    public boolean tray(int tray, int sort, int many) {
        if (!Trays.isTray(tray) || sort < 0 || sort > Trays.LAST_SORT) {
            return deny(NO_TRAY);
        }
        if (many > Trays.LONGEST) {
            return deny(BAD_NUMBER);
        }
        if (many < 0) {
            return deny(BELOW_ZERO);
        }
        trays.lay(tray, sort, many);
        return allow();
    }

    public boolean write(int tray, int place, long v) {
        int why = trays.whyNot(tray, place);
        if (why != 0) {
            return deny(why);
        }
        trays.put(tray, place, v);
        return allow();
    }

    public long read(int tray, int place) {
        int why = trays.whyNot(tray, place);
        if (why != 0) {
            return refuse(why);
        }
        status = 0;
        return trays.look(tray, place);
    }

    public boolean pour(int tray, int i, int to, int j, int many) {
        if (!Trays.isTray(tray) || !Trays.isTray(to)) {
            return deny(NO_TRAY);
        }
        if (trays.isMissing(tray) || trays.isMissing(to)) {
            return deny(IS_MISSING);
        }
        if (trays.sorts[tray] != trays.sorts[to]) {
            return deny(UNLIKE_SORTS);
        }
        if (many < 0) {
            return deny(BELOW_ZERO);
        }
        if (!trays.has(tray, i, many) || !trays.has(to, j, many)) {
            return deny(NO_PLACE);
        }
        trays.move(tray, i, to, j, many);
        return allow();
    }

    // ---- texts

    public int feed(int a, int b, int c, int d, int e) {
        if (!tokens.hasRoom()) {
            return NONE;
        }
        tokens.put(a);
        tokens.put(b);
        tokens.put(c);
        tokens.put(d);
        tokens.put(e);
        return tokens.fed;
    }

    public int parish(int n) {
        if (n < 0 || n > tokens.fed) {
            return refuse(BAD_NUMBER);
        }
        boolean taken = parishReader.readText(n);
        keepFault();
        if (!taken) {
            return refuse(HAS_FAULT);
        }
        now.copyFrom(spare);
        return answer(now.rights.count);
    }

    public int years(int n) {
        if (n < 0 || n > tokens.fed || n > Years.LONGEST) {
            return refuse(BAD_NUMBER);
        }
        boolean taken = yearsReader.readText(n);
        keepFault();
        if (!taken) {
            return refuse(HAS_FAULT);
        }
        now.years.copyFrom(spare.years);
        return answer(now.years.steps);
    }

    public int fault(int what) {
        if (!hasRead) {
            return NONE;
        }
        if (what == 0) {
            return toldFault;
        }
        return what == 1 ? toldPlace : NONE;
    }

    public int many(int what) {
        switch (what) {
            case 0: return answer(now.rights.count);
            case 1: return answer(now.debts.count);
            case 2: return answer(now.court.questions);
            case 3: return answer(now.court.clauses);
            case 4: return answer(now.court.witnesses);
            case 5: return answer(now.odds);
            case 6: return answer(now.toll);
            case 7: return answer(now.war);
            case 8: return answer(now.lies);
            case 9: return answer(now.month);
            case 10: return answer(now.debts.lapsed);
            case 11: return answer(now.carried);
            default: return refuse(BAD_NUMBER);
        }
    }

    public int chest(int side) {
        return isSide(side) ? answer(now.chests[side]) : refuse(NO_SUCH);
    }

    public int right(int right, int what) {
        Rights rights = now.rights;
        if (!rights.isThere(right)) {
            return refuse(NO_SUCH);
        }
        switch (what) {
            case 0: return answer(rights.side[right]);
            case 1: return answer(rights.kind[right]);
            case 2: return rights.kind[right] == Rights.LATE ? answer(rights.lag[right]) : refuse(THERE_IS_NONE);
            case 3: return answer(rights.worth[right]);
            case 4: return answer(rights.months[right]);
            default: return refuse(BAD_NUMBER);
        }
    }

    public int debt(int debt, int what) {
        Debts debts = now.debts;
        if (!debts.isThere(debt)) {
            return refuse(NO_SUCH);
        }
        switch (what) {
            case 0: return answer(debts.side[debt]);
            case 1: return answer(debts.sum[debt]);
            case 2: return answer(debts.left[debt]);
            default: return refuse(BAD_NUMBER);
        }
    }

    public int owes(int side) {
        return isSide(side) ? answer(now.debts.owedBy(side)) : refuse(NO_SUCH);
    }

    public int layAgo(int months) {
        if (months < 0 || months > Rights.MOST_LAG) {
            return refuse(BAD_NUMBER);
        }
        return answer(now.sideAgo(months));
    }

    public int clause(int clause, int what) {
        Court court = now.court;
        if (clause < 0 || clause >= court.clauses) {
            return refuse(NO_SUCH);
        }
        if (what != 0 && what != 1) {
            return refuse(BAD_NUMBER);
        }
        return answer(what == 0 ? court.so[clause] : court.notSo[clause]);
    }

    public int witness(int witness, int side) {
        Court court = now.court;
        if (witness < 0 || witness >= court.witnesses || !isSide(side)) {
            return refuse(NO_SUCH);
        }
        return answer(side == EAST ? court.ifEast[witness] : court.ifWest[witness]);
    }

    public int copyWorth(int tray) {
        Rights rights = now.rights;
        if (!Trays.isTray(tray)) {
            return refuse(NO_TRAY);
        }
        if (trays.isMissing(tray)) {
            return refuse(IS_MISSING);
        }
        if (!trays.has(tray, 0, rights.count)) {
            return refuse(NO_PLACE);
        }
        for (int i = 0; i < rights.count; i++) {
            trays.put(tray, i, rights.worth[i]);
        }
        return answer(rights.count);
    }

    // ---- what is done

    public int month(int months) {
        if (months < 1 || months > 99) {
            return refuse(BAD_NUMBER);
        }
        return now.passMonths(months) ? answer(now.bothChests()) : refuse(ONE_TOO_MANY);
    }

    public int carry(int east, int west) {
        if (!isWithin(east, 1, 20) || !isWithin(west, 1, 20)) {
            return refuse(BAD_NUMBER);
        }
        return now.carryBy(east, west) ? answer(now.lies) : refuse(CANNOT_BE);
    }

    public int swear(int side, int sum, int left) {
        if (!isSide(side)) {
            return refuse(NO_SUCH);
        }
        if (!isWithin(sum, 1, Debts.MOST_SUM) || !isWithin(left, 1, Debts.MOST_LEFT)) {
            return refuse(BAD_NUMBER);
        }
        return now.debts.add(side, sum, left) ? answer(now.debts.count) : refuse(ONE_TOO_MANY);
    }

    public int pay(int debt) {
        if (!now.debts.isThere(debt)) {
            return refuse(NO_SUCH);
        }
        int side = now.debts.side[debt];
        return now.payDebt(debt) ? answer(now.chests[side]) : refuse(CANNOT_BE);
    }

    public int price(int right, int worth) {
        if (!now.rights.isThere(right)) {
            return refuse(NO_SUCH);
        }
        if (!isWithin(worth, 1, Rights.MOST_WORTH)) {
            return refuse(BAD_NUMBER);
        }
        int old = now.rights.worth[right];
        now.rights.worth[right] = worth;
        return answer(old);
    }

    public boolean grant(int right, int month, boolean is) {
        Rights rights = now.rights;
        if (!rights.isThere(right)) {
            return deny(NO_SUCH);
        }
        if (!isWithin(month, 0, YEAR - 1)) {
            return deny(BAD_NUMBER);
        }
        if (rights.isIn(right, month) == is) {
            return deny(CANNOT_BE);
        }
        rights.months[right] ^= 1 << month;
        return allow();
    }

    public int claim(int side, int kind, int lag, int worth, int months) {
        if (!isSide(side)) {
            return refuse(NO_SUCH);
        }
        boolean isLate = kind == Rights.LATE;
        boolean lagCanBe = isLate ? isWithin(lag, 1, Rights.MOST_LAG) : lag == 0;
        if (!isWithin(kind, Rights.HERE, Rights.LATE) || !lagCanBe) {
            return refuse(BAD_NUMBER);
        }
        if (!isWithin(worth, 1, Rights.MOST_WORTH) || !isPlan(months)) {
            return refuse(BAD_NUMBER);
        }
        if (!now.rights.add(side, kind, lag, worth, months)) {
            return refuse(ONE_TOO_MANY);
        }
        return answer(now.rights.count - 1);
    }

    public boolean rule(int what, int much) {
        boolean canBe = what == 5 ? isWithin(much, 0, Parish.MOST_ODDS)
                : isWithin(what, 6, 7) && isWithin(much, 0, Parish.MOST_COST);
        if (!canBe) {
            return deny(BAD_NUMBER);
        }
        now.setRule(what - 5, much);
        return allow();
    }

    // ---- MONTHS ahead

    public int chestIn(int side, int months) {
        if (!isSide(side)) {
            return refuse(NO_SUCH);
        }
        if (!isWithin(months, 0, MOST_AHEAD)) {
            return refuse(BAD_NUMBER);
        }
        spare.copyFrom(now);
        for (int i = 0; i < months; i++) {
            spare.passMonth();
        }
        return answer(spare.chests[side]);
    }

    public int tollIn() {
        spare.copyFrom(now);
        int payer = WEST - spare.lies;
        for (int i = 0; i <= MOST_AHEAD; i++) {
            if (spare.chests[payer] >= spare.toll) {
                return answer(i);
            }
            spare.passMonth();
        }
        return refuse(THERE_IS_NONE);
    }

    public int bears() {
        int set = 0;
        for (int i = 0; i < now.rights.count; i++) {
            if (now.isBearing(i)) {
                set |= 1 << i;
            }
        }
        return answer(set);
    }

    // ---- PLANS

    public int gain(int side, int plan) {
        if (!isSide(side)) {
            return refuse(NO_SUCH);
        }
        if (!isPlan(plan)) {
            return refuse(BAD_NUMBER);
        }
        plans.weigh(now);
        return answer(plans.gainOf(side, plan));
    }

    public int changes(int plan) {
        return isPlan(plan) ? answer(Plans.changesOf(plan)) : refuse(BAD_NUMBER);
    }

    public int net(int plan) {
        if (!isPlan(plan)) {
            return refuse(BAD_NUMBER);
        }
        plans.weigh(now);
        return answer(plans.netOf(plan));
    }

    public int best(int c) {
        if (!isWithin(c, 0, YEAR)) {
            return refuse(BAD_NUMBER);
        }
        plans.weigh(now);
        return answer(plans.bestWithin(c));
    }

    public int isSo(int plan, int what) {
        if (!isPlan(plan) || !isWithin(what, Plans.FAIR, Plans.TREATY)) {
            return refuse(BAD_NUMBER);
        }
        plans.weigh(now);
        return answer(plans.isOf(plan, what) ? 1 : 0);
    }

    public int howMany(int what) {
        if (!isWithin(what, Plans.FAIR, Plans.TREATY)) {
            return refuse(BAD_NUMBER);
        }
        plans.weigh(now);
        return answer(plans.countOf(what));
    }

    public int bestOf(int what) {
        if (!isWithin(what, Plans.FAIR, Plans.TREATY)) {
            return refuse(BAD_NUMBER);
        }
        plans.weigh(now);
        int plan = plans.bestAmong(what);
        return plan == NONE ? refuse(THERE_IS_NONE) : answer(plan);
    }

    public int even() {
        plans.weigh(now);
        return answer(plans.evenPlan());
    }

    public int rent(int month) {
        if (!isWithin(month, 0, YEAR - 1)) {
            return refuse(BAD_NUMBER);
        }
        plans.weigh(now);
        int greatest = plans.netOf(plans.bestWithin(YEAR));
        return answer(greatest - plans.greatestWithout(month, now.rights.awayIn(month)));
    }

    // ---- RULINGS

    public int rulings() {
        return answer(now.court.countRulings());
    }

    public int rulingAt(int k) {
        int ruling = now.court.findRuling(k);
        return ruling == NONE ? refuse(THERE_IS_NONE) : answer(ruling);
    }

    public int strike() {
        return answer(Integer.bitCount(now.court.leastStrike()));
    }

    public int strikeSet() {
        return answer(now.court.leastStrike());
    }

    public int sure(int question) {
        if (question < 0 || question >= now.court.questions) {
            return refuse(NO_SUCH);
        }
        int truth = now.court.sureTruth(question);
        return truth == NONE ? refuse(THERE_IS_NONE) : answer(truth);
    }

    // ---- games, odds

    public int game(int turns) {
        if (!isWithin(turns, 0, MOST_TURNS)) {
            return refuse(BAD_NUMBER);
        }
        plans.weigh(now);
        return answer(plans.playedOut(turns));
    }

    public int moveOf(int turns) {
        if (!isWithin(turns, 1, MOST_TURNS)) {
            return refuse(BAD_NUMBER);
        }
        plans.weigh(now);
        int month = plans.firstMove(turns);
        return month == NONE ? refuse(THERE_IS_NONE) : answer(month);
    }

    public boolean whose(int n) {
        Court court = now.court;
        if (!isWithin(n, 0, court.witnesses)) {
            return deny(BAD_NUMBER);
        }
        long ofEast = now.odds;
        long ofWest = Parish.MOST_ODDS - now.odds;
        for (int i = 0; i < n; i++) {
            ofEast *= court.ifEast[i];
            ofWest *= court.ifWest[i];
        }
        return tellFraction(ofEast, ofEast + ofWest);
    }

    public boolean share(int side) {
        if (!isSide(side)) {
            return deny(NO_SUCH);
        }
        return tellFraction(now.chests[side], now.bothChests());
    }

    // ---- YEARS

    public int live(int seed) {
        if (!isWithin(seed, 0, MOST_SEED)) {
            return refuse(BAD_NUMBER);
        }
        if (!now.years.isThere) {
            return refuse(THERE_IS_NONE);
        }
        life.run(now, seed);
        return answer(life.steps);
    }

    public int lived(int what) {
        if (!isWithin(what, 0, 4)) {
            return refuse(BAD_NUMBER);
        }
        if (!life.wasRun) {
            return refuse(THERE_IS_NONE);
        }
        switch (what) {
            case 0: return answer(life.missed);
            case 1: return answer(life.months);
            case 2: return answer(life.carried);
            case 3: return answer(life.lapsed);
            default: return answer(life.stepLeft);
        }
    }

    public boolean mean(int seed, int many) {
        if (!isWithin(seed, 0, MOST_SEED) || !isWithin(many, 1, 20) || seed + many - 1 > MOST_SEED) {
            return deny(BAD_NUMBER);
        }
        if (!now.years.isThere) {
            return deny(THERE_IS_NONE);
        }
        long sum = 0;
        for (int i = 0; i < many; i++) {
            spare.copyFrom(now);
            trial.run(spare, seed + i);
            sum += spare.bothChests();
        }
        return tellFraction(sum, many);
    }

    // ---- MARKS

    public int mark() {
        if (markCount >= MOST_MARKS) {
            return refuse(ONE_TOO_MANY);
        }
        marks[markCount].copyFrom(now);
        markCount++;
        return answer(markCount);
    }

    public int back() {
        if (markCount <= 0) {
            return refuse(THERE_IS_NONE);
        }
        markCount--;
        now.copyFrom(marks[markCount]);
        return answer(markCount);
    }

    // ---- what the calls share

    private int answer(int value) {
        status = 0;
        return value;
    }

    private int refuse(int why) {
        status = why;
        return NONE;
    }

    private boolean allow() {
        status = 0;
        return true;
    }

    private boolean deny(int why) {
        status = why;
        return false;
    }

    private static boolean isSide(int side) {
        return side == EAST || side == WEST;
    }

    private static boolean isPlan(int plan) {
        return plan >= 0 && plan <= ALL_MONTHS;
    }

    private static boolean isWithin(int number, int least, int most) {
        return number >= least && number <= most;
    }

    private void keepFault() {
        hasRead = true;
        toldFault = tokens.fault;
        toldPlace = tokens.faultPlace;
        tokens.fed = 0;
    }

    /** A bottom of 0 is refused: that is what STATUS 8 means wherever a FRACTION is told. */
    private boolean tellFraction(long part, long whole) {
        if (whole <= 0) {
            return deny(THERE_IS_NONE);
        }
        long a = whole;
        long b = part;
        for (int i = 0; i < 100 && b > 0; i++) {
            long rest = a % b;
            a = b;
            b = rest;
        }
        if (a <= 0) {
            return deny(THERE_IS_NONE);
        }
        fractionTop = part / a;
        fractionBottom = whole / a;
        return allow();
    }

    /** The four TRAYS, all in one row, so that a TRAY made again needs no new one. */
    private static final class Trays {
        static final int COUNT = 4;
        static final int LAST_SORT = 3;
        static final int LONGEST = 60;

        final long[] numbers = new long[COUNT * LONGEST];
        final int[] lengths = new int[COUNT];
        final int[] sorts = new int[COUNT];

        Trays() {
            for (int i = 0; i < COUNT; i++) {
                lengths[i] = NONE;
            }
        }

        static boolean isTray(int tray) {
            return tray >= 0 && tray < COUNT;
        }

        boolean isMissing(int tray) {
            return lengths[tray] == NONE;
        }

        boolean has(int tray, int from, int count) {
            return from >= 0 && from <= lengths[tray] - count;
        }

        int whyNot(int tray, int place) {
            if (!isTray(tray)) {
                return NO_TRAY;
            }
            if (isMissing(tray)) {
                return IS_MISSING;
            }
            return has(tray, place, 1) ? 0 : NO_PLACE;
        }

        void lay(int tray, int sort, int count) {
            sorts[tray] = sort;
            lengths[tray] = count;
            for (int i = 0; i < count; i++) {
                numbers[tray * LONGEST + i] = 0;
            }
        }

        void put(int tray, int place, long v) {
            numbers[tray * LONGEST + place] = cut(v, sorts[tray]);
        }

        long look(int tray, int place) {
            return numbers[tray * LONGEST + place];
        }

        void move(int tray, int i, int to, int j, int count) {
            System.arraycopy(numbers, tray * LONGEST + i, numbers, to * LONGEST + j, count);
        }

        private static long cut(long v, int sort) {
            switch (sort) {
                case 0: return (byte) v;
                case 1: return (short) v;
                case 2: return (int) v;
                default: return v;
            }
        }
    }

    /** The tape, its TOKENS one by one, and the FAULT at which reading ended. */
    private static final class Tokens {
        static final int ODDS = 0;
        static final int TOLL = 1;
        static final int WAR = 2;
        static final int LIES = 3;
        static final int CHEST = 4;
        static final int RIGHT = 5;
        static final int WORTH = 6;
        static final int IN = 7;
        static final int DEBT = 8;
        static final int SUM = 9;
        static final int LEFT = 10;
        static final int ASK = 11;
        static final int CLAUSE = 12;
        static final int NOT = 13;
        static final int WITNESS = 14;
        static final int EASTERN = 15;
        static final int WESTERN = 16;
        static final int HERE = 17;
        static final int AWAY = 18;
        static final int LATE = 19;
        static final int MONTH = 20;
        static final int CARRY = 21;
        static final int SWEAR = 22;
        static final int PAY = 23;
        static final int ANY = 24;
        static final int WHEN = 25;
        static final int OWES = 26;
        static final int LOOP = 27;
        static final int END = 28;
        static final int STOP = 29;
        static final int NAME = 30;
        static final int LONG_WORD = 31;
        static final int NUMBER = 32;
        static final int SEMICOLON = 33;
        static final int LESS = 34;
        static final int MORE = 35;
        static final int EQUAL = 36;
        static final int NO_TOKEN = 37;
        static final int TEXT_END = 38;

        /** In the order of the constants above: a WORD's number is its place here. */
        static final String WORDS = "odds toll war lies chest right worth in debt sum left ask clause not witness east west here away late month carry swear pay any when owes loop end stop ";

        static final int MOST_BYTES = 900;
        static final int LONGEST_NAME = 8;
        static final int MOST_DIGITS = 4;

        static final int F_NO_TOKEN = 1;
        static final int F_NOT_THERE = 2;
        static final int F_NAME = 3;
        static final int F_NUMBER = 4;
        static final int F_AGAIN = 5;
        static final int F_TOO_MANY = 6;
        static final int F_TOO_DEEP = 7;

        final byte[] tape = new byte[MOST_BYTES];
        int fed;
        int length;
        int token;
        int place;
        int behind;
        int number;
        int fault;
        int faultPlace;

        boolean hasRoom() {
            return fed + 20 <= MOST_BYTES;
        }

        void put(int four) {
            for (int shift = 24; shift >= 0 && fed < MOST_BYTES; shift -= 8) {
                tape[fed] = (byte) (four >> shift);
                fed++;
            }
        }

        void open(int n) {
            length = n;
            behind = 0;
            fault = 0;
            faultPlace = NONE;
            advance();
        }

        /** Goes on to the next TOKEN; at the end of the text its place is the text's length. */
        void advance() {
            int i = behind;
            while (i < length && (tape[i] == ' ' || tape[i] == '\n')) {
                i++;
            }
            place = i;
            behind = i;
            if (i >= length) {
                token = TEXT_END;
            } else if (isBetween(i, 'a', 'z')) {
                goBehind('a', 'z');
                token = wordNumber();
            } else if (isBetween(i, '0', '9')) {
                goBehind('0', '9');
                token = behind - place > MOST_DIGITS ? NO_TOKEN : NUMBER;
                number = token == NUMBER ? digitsRead() : 0;
            } else {
                behind = i + 1;
                token = signAt(i);
            }
        }

        private boolean isBetween(int i, char first, char last) {
            return tape[i] >= first && tape[i] <= last;
        }

        private void goBehind(char first, char last) {
            while (behind < length && isBetween(behind, first, last)) {
                behind++;
            }
        }

        private int digitsRead() {
            int value = 0;
            for (int i = place; i < behind; i++) {
                value = value * 10 + (tape[i] - '0');
            }
            return value;
        }

        private int signAt(int i) {
            switch (tape[i]) {
                case ';': return SEMICOLON;
                case '<': return LESS;
                case '>': return MORE;
                case '=': return EQUAL;
                default: return NO_TOKEN;
            }
        }

        private int wordNumber() {
            int size = behind - place;
            int word = 0;
            int alike = 0;
            for (int i = 0; i < WORDS.length(); i++) {
                char letter = WORDS.charAt(i);
                if (letter == ' ') {
                    if (alike == size) {
                        return word;
                    }
                    word++;
                    alike = 0;
                } else if (alike >= 0 && alike < size && tape[place + alike] == letter) {
                    alike++;
                } else {
                    alike = NONE;
                }
            }
            return size <= LONGEST_NAME ? NAME : LONG_WORD;
        }

        /** What is no TOKEN at all is never the one that was wanted: so its FAULT is told here. */
        boolean fail(int kind) {
            fault = token == NO_TOKEN ? F_NO_TOKEN : kind;
            faultPlace = place;
            return false;
        }

        boolean take(int wanted) {
            if (token != wanted) {
                return fail(F_NOT_THERE);
            }
            advance();
            return true;
        }

        /** NONE behind a FAULT. */
        int takeNumber(int least, int most) {
            int value = number;
            if (token != NUMBER) {
                fail(F_NOT_THERE);
                return NONE;
            }
            if (value < least || value > most) {
                fail(F_NUMBER);
                return NONE;
            }
            advance();
            return value;
        }

        /** The SIDE that stands here, not gone by yet; NONE behind a FAULT. */
        int sideHere() {
            if (token != EASTERN && token != WESTERN) {
                fail(F_NOT_THERE);
                return NONE;
            }
            return token == EASTERN ? EAST : WEST;
        }

        /** NONE behind a FAULT. */
        int takeSide() {
            int side = sideHere();
            if (side != NONE) {
                advance();
            }
            return side;
        }
    }

    /** RIGHTS, numbered as they stand. */
    private static final class Rights {
        static final int MOST = 8;
        static final int MOST_LAG = 6;
        static final int MOST_WORTH = 50;
        static final int HERE = 0;
        static final int AWAY = 1;
        static final int LATE = 2;

        final int[] side = new int[MOST];
        final int[] kind = new int[MOST];
        final int[] lag = new int[MOST];
        final int[] worth = new int[MOST];
        final int[] months = new int[MOST];
        int count;

        boolean isThere(int i) {
            return i >= 0 && i < count;
        }

        boolean isIn(int i, int month) {
            return (months[i] >> month & 1) == 1;
        }

        boolean add(int ofSide, int ofKind, int ofLag, int ofWorth, int inMonths) {
            if (count >= MOST) {
                return false;
            }
            side[count] = ofSide;
            kind[count] = ofKind;
            lag[count] = ofLag;
            worth[count] = ofWorth;
            months[count] = inMonths;
            count++;
            return true;
        }

        /** WORTH of all that BEAR in a MONTH of the year in which he LIES with neither. */
        int awayIn(int month) {
            int sum = 0;
            for (int i = 0; i < count; i++) {
                if (kind[i] == AWAY && isIn(i, month)) {
                    sum += worth[i];
                }
            }
            return sum;
        }

        void copyFrom(Rights other) {
            count = other.count;
            for (int i = 0; i < count; i++) {
                side[i] = other.side[i];
                kind[i] = other.kind[i];
                lag[i] = other.lag[i];
                worth[i] = other.worth[i];
                months[i] = other.months[i];
            }
        }
    }

    /** DEBTS; one that is gone leaves no gap. */
    private static final class Debts {
        static final int MOST = 5;
        static final int MOST_SUM = 99;
        static final int MOST_LEFT = 24;

        final int[] side = new int[MOST];
        final int[] sum = new int[MOST];
        final int[] left = new int[MOST];
        int count;
        int lapsed;

        boolean isThere(int i) {
            return i >= 0 && i < count;
        }

        boolean add(int ofSide, int ofSum, int monthsLeft) {
            if (count >= MOST) {
                return false;
            }
            side[count] = ofSide;
            sum[count] = ofSum;
            left[count] = monthsLeft;
            count++;
            return true;
        }

        void drop(int gone) {
            for (int i = gone; i + 1 < count; i++) {
                copyOne(this, i + 1, i);
            }
            count--;
        }

        void age() {
            int kept = 0;
            for (int i = 0; i < count; i++) {
                if (left[i] > 1) {
                    copyOne(this, i, kept);
                    left[kept]--;
                    kept++;
                }
            }
            lapsed += count - kept;
            count = kept;
        }

        void lapseAll() {
            lapsed += count;
            count = 0;
        }

        int owedBy(int ofSide) {
            int all = 0;
            for (int i = 0; i < count; i++) {
                if (side[i] == ofSide) {
                    all += sum[i];
                }
            }
            return all;
        }

        void copyFrom(Debts other) {
            count = other.count;
            lapsed = other.lapsed;
            for (int i = 0; i < count; i++) {
                copyOne(other, i, i);
            }
        }

        private void copyOne(Debts other, int from, int to) {
            side[to] = other.side[from];
            sum[to] = other.sum[from];
            left[to] = other.left[from];
        }
    }

    /** QUESTIONS, CLAUSES, WITNESSES. NAMES are needed only while a text is read. */
    private static final class Court {
        static final int MOST_QUESTIONS = 6;
        static final int MOST_CLAUSES = 8;
        static final int MOST_LITERALS = 3;
        static final int MOST_WITNESSES = 6;

        final int[] so = new int[MOST_CLAUSES];
        final int[] notSo = new int[MOST_CLAUSES];
        final int[] ifEast = new int[MOST_WITNESSES];
        final int[] ifWest = new int[MOST_WITNESSES];
        int questions;
        int clauses;
        int witnesses;

        void beginAnew() {
            questions = 0;
            clauses = 0;
            witnesses = 0;
        }

        boolean addClause(int trueSet, int falseSet) {
            if (clauses >= MOST_CLAUSES) {
                return false;
            }
            so[clauses] = trueSet;
            notSo[clauses] = falseSet;
            clauses++;
            return true;
        }

        boolean addWitness(int byEast, int byWest) {
            if (witnesses >= MOST_WITNESSES) {
                return false;
            }
            ifEast[witnesses] = byEast;
            ifWest[witnesses] = byWest;
            witnesses++;
            return true;
        }

        /** The set of CLAUSES of which no LITERAL is so, if just these QUESTIONS are true. */
        private int brokenBy(int truths) {
            int broken = 0;
            for (int i = 0; i < clauses; i++) {
                if ((so[i] & truths) == 0 && (notSo[i] & ~truths) == 0) {
                    broken |= 1 << i;
                }
            }
            return broken;
        }

        int countRulings() {
            int found = 0;
            for (int truths = 0; truths < 1 << questions; truths++) {
                if (brokenBy(truths) == 0) {
                    found++;
                }
            }
            return found;
        }

        int findRuling(int k) {
            int found = 0;
            for (int truths = 0; truths < 1 << questions; truths++) {
                if (brokenBy(truths) == 0) {
                    if (found == k) {
                        return truths;
                    }
                    found++;
                }
            }
            return NONE;
        }

        /** A set that is struck with none too many is just what some answers break. */
        int leastStrike() {
            int least = brokenBy(0);
            for (int truths = 1; truths < 1 << questions; truths++) {
                int broken = brokenBy(truths);
                int fewer = Integer.bitCount(least) - Integer.bitCount(broken);
                if (fewer > 0 || (fewer == 0 && broken < least)) {
                    least = broken;
                }
            }
            return least;
        }

        int sureTruth(int question) {
            int truth = NONE;
            for (int truths = 0; truths < 1 << questions; truths++) {
                if (brokenBy(truths) == 0) {
                    int here = truths >> question & 1;
                    if (truth != NONE && truth != here) {
                        return NONE;
                    }
                    truth = here;
                }
            }
            return truth;
        }

        void copyFrom(Court other) {
            questions = other.questions;
            clauses = other.clauses;
            witnesses = other.witnesses;
            for (int i = 0; i < clauses; i++) {
                so[i] = other.so[i];
                notSo[i] = other.notSo[i];
            }
            for (int i = 0; i < witnesses; i++) {
                ifEast[i] = other.ifEast[i];
                ifWest[i] = other.ifWest[i];
            }
        }
    }

    /** YEARS: STEPS and ends as they stand, each named by its WORD's number. */
    private static final class Years {
        static final int LONGEST = 300;
        static final int MOST_STEPS = 30;
        static final int MOST_ROWS = 2 * MOST_STEPS;

        final int[] word = new int[MOST_ROWS];
        final int[] first = new int[MOST_ROWS];
        final int[] second = new int[MOST_ROWS];
        final int[] third = new int[MOST_ROWS];
        /** Of a when, a loop where its end stands; of an end where that begins. */
        final int[] partner = new int[MOST_ROWS];
        int rows;
        int steps;
        boolean isThere;

        void beginAnew() {
            rows = 0;
            steps = 0;
            isThere = false;
        }

        boolean add(int ofWord, int one, int two, int three) {
            if (rows >= MOST_ROWS) {
                return false;
            }
            word[rows] = ofWord;
            first[rows] = one;
            second[rows] = two;
            third[rows] = three;
            partner[rows] = rows;
            rows++;
            if (ofWord != Tokens.END) {
                steps++;
            }
            return true;
        }

        void join(int opening, int ending) {
            partner[opening] = ending;
            partner[ending] = opening;
        }

        void copyFrom(Years other) {
            rows = other.rows;
            steps = other.steps;
            isThere = other.isThere;
            for (int i = 0; i < rows; i++) {
                word[i] = other.word[i];
                first[i] = other.first[i];
                second[i] = other.second[i];
                third[i] = other.third[i];
                partner[i] = other.partner[i];
            }
        }
    }

    /** The PARISH with all that became of it, and its YEARS: just what a MARK keeps. */
    private static final class Parish {
        static final int MOST_ODDS = 16;
        static final int MOST_COST = 99;
        static final int MOST_TOLD_CHEST = 999;
        static final int FULL_CHEST = 9999;
        /** Where he LAY is kept a bit a MONTH, the lowest for 1 MONTH ago. */
        static final int ALL_LAGS = 63;

        final int[] chests = new int[2];
        final Rights rights = new Rights();
        final Debts debts = new Debts();
        final Court court = new Court();
        final Years years = new Years();
        int odds;
        int toll;
        int war;
        int lies;
        int lay;
        int month;
        int carried;

        Parish() {
            beginAnew();
        }

        void beginAnew() {
            chests[EAST] = 0;
            chests[WEST] = 0;
            rights.count = 0;
            debts.count = 0;
            debts.lapsed = 0;
            court.beginAnew();
            years.beginAnew();
            odds = 8;
            toll = 2;
            war = 5;
            month = 0;
            carried = 0;
            lieEver(EAST);
        }

        void lieEver(int side) {
            lies = side;
            lay = side == WEST ? ALL_LAGS : 0;
        }

        /** ODDS (0), TOLL (1), WAR (2). */
        void setRule(int what, int much) {
            if (what == 0) {
                odds = much;
            } else if (what == 1) {
                toll = much;
            } else {
                war = much;
            }
        }

        int bothChests() {
            return chests[EAST] + chests[WEST];
        }

        int sideAgo(int months) {
            return months == 0 ? lies : lay >> (months - 1) & 1;
        }

        boolean isBearing(int right) {
            if (!rights.isIn(right, month % YEAR)) {
                return false;
            }
            int side = rights.side[right];
            switch (rights.kind[right]) {
                case Rights.HERE: return lies == side;
                case Rights.AWAY: return lies != side;
                default: return sideAgo(rights.lag[right]) == side;
            }
        }

        /** Knows no last MONTH: what looks ahead goes beyond it. */
        void passMonth() {
            for (int i = 0; i < rights.count; i++) {
                if (isBearing(i)) {
                    bring(rights.side[i], rights.worth[i]);
                }
            }
            debts.age();
            lay = (lay << 1 | lies) & ALL_LAGS;
            month++;
        }

        boolean passMonths(int many) {
            if (month + many > LAST_MONTH) {
                return false;
            }
            for (int i = 0; i < many; i++) {
                passMonth();
            }
            return true;
        }

        boolean carryBy(int east, int west) {
            int payer = WEST - lies;
            if (east != west || chests[payer] < toll) {
                return false;
            }
            chests[payer] -= toll;
            lies = payer;
            carried++;
            debts.lapseAll();
            return true;
        }

        boolean payDebt(int debt) {
            if (!debts.isThere(debt)) {
                return false;
            }
            int side = debts.side[debt];
            int sum = debts.sum[debt];
            if (chests[side] < sum) {
                return false;
            }
            chests[side] -= sum;
            bring(WEST - side, sum);
            debts.drop(debt);
            return true;
        }

        private void bring(int side, int much) {
            chests[side] = Math.min(FULL_CHEST, chests[side] + much);
        }

        void copyFrom(Parish other) {
            chests[EAST] = other.chests[EAST];
            chests[WEST] = other.chests[WEST];
            rights.copyFrom(other.rights);
            debts.copyFrom(other.debts);
            court.copyFrom(other.court);
            years.copyFrom(other.years);
            odds = other.odds;
            toll = other.toll;
            war = other.war;
            lies = other.lies;
            lay = other.lay;
            month = other.month;
            carried = other.carried;
        }
    }

    /** Reads a PARISH from the tape; what it has read counts only if there was no FAULT. */
    private static final class ParishReader {
        final Tokens tokens;
        final Parish parish;
        final int[] namePlace = new int[Court.MOST_QUESTIONS];
        final int[] nameSize = new int[Court.MOST_QUESTIONS];
        /** A bit for the WORD of each thing that is told once; CHEST and the one behind it are for the chests. */
        int told;

        ParishReader(Tokens tokens, Parish parish) {
            this.tokens = tokens;
            this.parish = parish;
        }

        boolean readText(int n) {
            parish.beginAnew();
            told = 0;
            tokens.open(n);
            for (int i = 0; i <= n && tokens.token != Tokens.TEXT_END; i++) {
                boolean taken;
                switch (tokens.token) {
                    case Tokens.ODDS: taken = readRule(Parish.MOST_ODDS); break;
                    case Tokens.TOLL: taken = readRule(Parish.MOST_COST); break;
                    case Tokens.WAR: taken = readRule(Parish.MOST_COST); break;
                    case Tokens.LIES: taken = readLies(); break;
                    case Tokens.CHEST: taken = readChest(); break;
                    case Tokens.RIGHT: taken = readRight(); break;
                    case Tokens.DEBT: taken = readDebt(); break;
                    case Tokens.ASK: taken = readAsk(); break;
                    case Tokens.CLAUSE: taken = readClause(); break;
                    case Tokens.WITNESS: taken = readWitness(); break;
                    default: taken = tokens.fail(Tokens.F_NOT_THERE); break;
                }
                if (!taken || !tokens.take(Tokens.SEMICOLON)) {
                    return false;
                }
            }
            return true;
        }

        private boolean isFirst(int thing) {
            if ((told >> thing & 1) == 1) {
                return tokens.fail(Tokens.F_AGAIN);
            }
            told |= 1 << thing;
            return true;
        }

        private boolean hasRoom(int count, int most) {
            return count < most || tokens.fail(Tokens.F_TOO_MANY);
        }

        private boolean readRule(int most) {
            int word = tokens.token;
            if (!isFirst(word)) {
                return false;
            }
            tokens.advance();
            int much = tokens.takeNumber(0, most);
            if (much == NONE) {
                return false;
            }
            parish.setRule(word - Tokens.ODDS, much);
            return true;
        }

        private boolean readLies() {
            if (!isFirst(Tokens.LIES)) {
                return false;
            }
            tokens.advance();
            int side = tokens.takeSide();
            if (side == NONE) {
                return false;
            }
            parish.lieEver(side);
            return true;
        }

        private boolean readChest() {
            tokens.advance();
            int side = tokens.sideHere();
            if (side == NONE || !isFirst(Tokens.CHEST + side)) {
                return false;
            }
            tokens.advance();
            int much = tokens.takeNumber(0, Parish.MOST_TOLD_CHEST);
            if (much == NONE) {
                return false;
            }
            parish.chests[side] = much;
            return true;
        }

        private boolean readRight() {
            if (!hasRoom(parish.rights.count, Rights.MOST)) {
                return false;
            }
            tokens.advance();
            int side = tokens.takeSide();
            if (side == NONE) {
                return false;
            }
            int kind = kindHere();
            if (kind == NONE) {
                return false;
            }
            tokens.advance();
            int lag = kind == Rights.LATE ? tokens.takeNumber(1, Rights.MOST_LAG) : 0;
            if (lag == NONE || !tokens.take(Tokens.WORTH)) {
                return false;
            }
            int worth = tokens.takeNumber(1, Rights.MOST_WORTH);
            if (worth == NONE || !tokens.take(Tokens.IN)) {
                return false;
            }
            int months = takeMonths();
            return months != NONE && parish.rights.add(side, kind, lag, worth, months);
        }

        private int kindHere() {
            switch (tokens.token) {
                case Tokens.HERE: return Rights.HERE;
                case Tokens.AWAY: return Rights.AWAY;
                case Tokens.LATE: return Rights.LATE;
                default:
                    tokens.fail(Tokens.F_NOT_THERE);
                    return NONE;
            }
        }

        /** One more turn than there are MONTHS: the thirteenth NUMBER is a FAULT of its own. */
        private int takeMonths() {
            int months = 0;
            for (int i = 0; i <= YEAR && tokens.token == Tokens.NUMBER; i++) {
                if (tokens.number < YEAR && (months >> tokens.number & 1) == 1) {
                    tokens.fail(Tokens.F_AGAIN);
                    return NONE;
                }
                int month = tokens.takeNumber(0, YEAR - 1);
                if (month == NONE) {
                    return NONE;
                }
                months |= 1 << month;
            }
            return months;
        }

        private boolean readDebt() {
            if (!hasRoom(parish.debts.count, Debts.MOST)) {
                return false;
            }
            tokens.advance();
            int side = tokens.takeSide();
            if (side == NONE || !tokens.take(Tokens.SUM)) {
                return false;
            }
            int sum = tokens.takeNumber(1, Debts.MOST_SUM);
            if (sum == NONE || !tokens.take(Tokens.LEFT)) {
                return false;
            }
            int left = tokens.takeNumber(1, Debts.MOST_LEFT);
            return left != NONE && parish.debts.add(side, sum, left);
        }

        private boolean readAsk() {
            int count = parish.court.questions;
            if (!hasRoom(count, Court.MOST_QUESTIONS)) {
                return false;
            }
            tokens.advance();
            if (tokens.token != Tokens.NAME) {
                return tokens.fail(Tokens.F_NOT_THERE);
            }
            if (questionHere() != NONE) {
                return tokens.fail(Tokens.F_NAME);
            }
            namePlace[count] = tokens.place;
            nameSize[count] = tokens.behind - tokens.place;
            parish.court.questions = count + 1;
            tokens.advance();
            return true;
        }

        private int questionHere() {
            for (int i = 0; i < parish.court.questions; i++) {
                if (nameSize[i] == tokens.behind - tokens.place && isNameHere(namePlace[i])) {
                    return i;
                }
            }
            return NONE;
        }

        private boolean isNameHere(int from) {
            for (int i = tokens.place; i < tokens.behind; i++) {
                if (tokens.tape[i] != tokens.tape[from + i - tokens.place]) {
                    return false;
                }
            }
            return true;
        }

        private boolean readClause() {
            if (!hasRoom(parish.court.clauses, Court.MOST_CLAUSES)) {
                return false;
            }
            tokens.advance();
            int so = 0;
            int notSo = 0;
            for (int i = 0; i <= Court.MOST_LITERALS; i++) {
                if (i > 0 && tokens.token == Tokens.SEMICOLON) {
                    break;
                }
                boolean isNot = tokens.token == Tokens.NOT;
                int question = takeLiteral(i == Court.MOST_LITERALS);
                if (question == NONE) {
                    return false;
                }
                if (isNot) {
                    notSo |= 1 << question;
                } else {
                    so |= 1 << question;
                }
            }
            return parish.court.addClause(so, notSo);
        }

        /** One too many is told behind all lesser FAULTS of the TOKEN with which it begins. */
        private int takeLiteral(boolean isOver) {
            if (tokens.token == Tokens.NOT) {
                if (isOver) {
                    tokens.fail(Tokens.F_AGAIN);
                    return NONE;
                }
                tokens.advance();
            }
            if (tokens.token != Tokens.NAME) {
                tokens.fail(Tokens.F_NOT_THERE);
                return NONE;
            }
            int question = questionHere();
            if (question == NONE || isOver) {
                tokens.fail(question == NONE ? Tokens.F_NAME : Tokens.F_AGAIN);
                return NONE;
            }
            tokens.advance();
            return question;
        }

        private boolean readWitness() {
            if (!hasRoom(parish.court.witnesses, Court.MOST_WITNESSES)) {
                return false;
            }
            tokens.advance();
            int byEast = tokens.takeNumber(0, Parish.MOST_ODDS);
            if (byEast == NONE) {
                return false;
            }
            int byWest = tokens.takeNumber(0, Parish.MOST_ODDS);
            return byWest != NONE && parish.court.addWitness(byEast, byWest);
        }
    }

    /** Reads YEARS from the tape; what it has read counts only if there was no FAULT. */
    private static final class YearsReader {
        static final int MOST_DEPTH = 3;

        final Tokens tokens;
        final Years years;
        final int[] open = new int[MOST_DEPTH];
        int depth;
        int first;
        int second;
        int third;

        YearsReader(Tokens tokens, Years years) {
            this.tokens = tokens;
            this.years = years;
        }

        boolean readText(int n) {
            years.beginAnew();
            depth = 0;
            tokens.open(n);
            for (int i = 0; i <= n && tokens.token != Tokens.TEXT_END; i++) {
                boolean taken = tokens.token == Tokens.END ? readEnd() : readStep();
                if (!taken) {
                    return false;
                }
            }
            if (depth > 0) {
                return tokens.fail(Tokens.F_NOT_THERE);
            }
            years.isThere = true;
            return true;
        }

        private boolean readEnd() {
            if (depth <= 0) {
                return tokens.fail(Tokens.F_NOT_THERE);
            }
            tokens.advance();
            if (!tokens.take(Tokens.SEMICOLON) || !years.add(Tokens.END, 0, 0, 0)) {
                return false;
            }
            depth--;
            years.join(open[depth], years.rows - 1);
            return true;
        }

        private boolean readStep() {
            int word = tokens.token;
            boolean isStep = word >= Tokens.MONTH && word <= Tokens.STOP && word != Tokens.OWES;
            boolean opens = word == Tokens.WHEN || word == Tokens.LOOP;
            if (!isStep) {
                return tokens.fail(Tokens.F_NOT_THERE);
            }
            if (years.steps >= Years.MOST_STEPS) {
                return tokens.fail(Tokens.F_TOO_MANY);
            }
            if (opens && depth >= MOST_DEPTH) {
                return tokens.fail(Tokens.F_TOO_DEEP);
            }
            tokens.advance();
            first = 0;
            second = 0;
            third = 0;
            boolean isWhole = word == Tokens.WHEN ? takeTest() : word == Tokens.SWEAR ? takeSworn() : takeNumbers(word);
            boolean taken = isWhole && tokens.take(Tokens.SEMICOLON) && years.add(word, first, second, third);
            if (taken && opens) {
                open[depth] = years.rows - 1;
                depth++;
            }
            return taken;
        }

        private boolean takeNumbers(int word) {
            switch (word) {
                case Tokens.MONTH: first = tokens.takeNumber(1, 24); break;
                case Tokens.CARRY:
                    first = tokens.takeNumber(1, 20);
                    second = first == NONE ? NONE : tokens.takeNumber(1, 20);
                    break;
                case Tokens.PAY: first = tokens.takeNumber(0, Debts.MOST - 1); break;
                case Tokens.LOOP: first = tokens.takeNumber(1, 99); break;
                default: break;
            }
            return first != NONE && second != NONE;
        }

        private boolean takeSworn() {
            first = tokens.takeSide();
            second = first == NONE ? NONE : tokens.takeNumber(1, Debts.MOST_SUM);
            third = second == NONE ? NONE : tokens.takeNumber(1, Debts.MOST_LEFT);
            return third != NONE;
        }

        /** A TEST of a chest is known by how it compares, so that three numbers are enough. */
        private boolean takeTest() {
            int word = tokens.token;
            if (word != Tokens.LIES && word != Tokens.OWES && word != Tokens.CHEST) {
                return tokens.fail(Tokens.F_NOT_THERE);
            }
            first = word;
            tokens.advance();
            second = tokens.takeSide();
            if (second == NONE || word != Tokens.CHEST) {
                return second != NONE;
            }
            first = tokens.token;
            if (first != Tokens.LESS && first != Tokens.MORE && first != Tokens.EQUAL) {
                return tokens.fail(Tokens.F_NOT_THERE);
            }
            tokens.advance();
            third = tokens.takeNumber(0, Parish.FULL_CHEST);
            return third != NONE;
        }
    }

    /** Does the YEARS of a PARISH to it, and tells what came of that. */
    private static final class Life {
        static final int MOST_DONE = 300;
        /** Far above 300 STEPS with the ends of a loop of nothing, 99 times, behind each. */
        static final int MOST_ROWS_DONE = 1000000;

        final int[] rest = new int[Years.MOST_ROWS];
        int drawn;
        int steps;
        int missed;
        int months;
        int carried;
        int lapsed;
        int stepLeft;
        boolean wasRun;

        void run(Parish parish, int seed) {
            Years years = parish.years;
            begin(parish, seed);
            int at = 0;
            for (int i = 0; i < MOST_ROWS_DONE && at < years.rows && stepLeft == 0; i++) {
                int word = years.word[at];
                if (word == Tokens.END) {
                    at = behindEnd(years, at);
                } else if (steps >= MOST_DONE) {
                    stepLeft = 1;
                } else {
                    steps++;
                    if (!isDone(parish, at)) {
                        missed++;
                    }
                    at = behindStep(parish, at);
                }
            }
            finish(parish);
        }

        /** What was before is kept below 0, so that what is behind can be added to it. */
        private void begin(Parish parish, int seed) {
            drawn = seed;
            steps = 0;
            missed = 0;
            stepLeft = 0;
            wasRun = true;
            months = -parish.month;
            carried = -parish.carried;
            lapsed = -parish.debts.lapsed;
        }

        private void finish(Parish parish) {
            months += parish.month;
            carried += parish.carried;
            lapsed += parish.debts.lapsed;
        }

        private int behindEnd(Years years, int at) {
            int opening = years.partner[at];
            if (years.word[opening] == Tokens.LOOP) {
                rest[opening]--;
                if (rest[opening] > 0) {
                    return opening + 1;
                }
            }
            return at + 1;
        }

        private int behindStep(Parish parish, int at) {
            Years years = parish.years;
            switch (years.word[at]) {
                case Tokens.WHEN: return holds(parish, at) ? at + 1 : years.partner[at] + 1;
                case Tokens.LOOP:
                    rest[at] = years.first[at];
                    return at + 1;
                case Tokens.STOP: return years.rows;
                default: return at + 1;
            }
        }

        private boolean isDone(Parish parish, int at) {
            Years years = parish.years;
            int first = years.first[at];
            switch (years.word[at]) {
                case Tokens.MONTH: return parish.passMonths(first);
                case Tokens.CARRY: return parish.carryBy(first, years.second[at]);
                case Tokens.SWEAR: return parish.debts.add(first, years.second[at], years.third[at]);
                case Tokens.PAY: return parish.payDebt(first);
                case Tokens.ANY: return isAnyDone(parish);
                default: return true;
            }
        }

        private boolean isAnyDone(Parish parish) {
            int east = drawBy(4) + 1;
            int west = drawBy(4) + 1;
            boolean carries = drawBy(16) < parish.odds;
            return carries ? parish.carryBy(east, west) : parish.passMonths(1);
        }

        private int drawBy(int n) {
            drawn = (drawn * 2971 + 10939) & 65535;
            return n > 0 ? (drawn >> 3) % n : 0;
        }

        private boolean holds(Parish parish, int at) {
            int side = parish.years.second[at];
            int number = parish.years.third[at];
            switch (parish.years.first[at]) {
                case Tokens.LIES: return parish.lies == side;
                case Tokens.OWES: return parish.debts.owedBy(side) > 0;
                case Tokens.LESS: return parish.chests[side] < number;
                case Tokens.MORE: return parish.chests[side] > number;
                default: return parish.chests[side] == number;
            }
        }
    }

    /**
     * What PLANS are worth. Each RIGHT looks, in each of its MONTHS, at where he LIES in one MONTH
     * of the PLAN alone; so a GAIN is a sum over the MONTHS of the PLAN, and the sums over each
     * half of the year are kept, that all PLANS may be gone through quickly.
     */
    private static final class Plans {
        static final int FAIR = 0;
        static final int TREATY = 1;
        static final int HALF = 6;
        static final int HALF_PLANS = 64;
        static final int HALF_MASK = 63;
        /** Above any GAIN, NET: 8 RIGHTS of 50 in 12 MONTHS are 4,800. */
        static final int FAR = 1000000;

        /** By SIDE, MONTH, the SIDE with which he LIES in it. */
        final int[] bearing = new int[2 * YEAR * 2];
        final int[] lowGain = new int[2 * HALF_PLANS];
        final int[] highGain = new int[2 * HALF_PLANS];
        /** MONTHS for which, by any PLAN without them, a SIDE would go to WAR. */
        final int[] fought = new int[2];
        int toll;
        int lies;

        void weigh(Parish parish) {
            toll = parish.toll;
            lies = parish.lies;
            for (int i = 0; i < bearing.length; i++) {
                bearing[i] = 0;
            }
            for (int i = 0; i < parish.rights.count; i++) {
                weighRight(parish.rights, i);
            }
            for (int side = EAST; side <= WEST; side++) {
                sumHalf(lowGain, side, 0);
                sumHalf(highGain, side, HALF);
                fought[side] = foughtBy(side, parish.war);
            }
        }

        private int foughtBy(int side, int war) {
            int months = 0;
            for (int month = 0; month < YEAR; month++) {
                int more = bearing[bearingAt(side, month, side)] - bearing[bearingAt(side, month, WEST - side)];
                if (more > war) {
                    months |= 1 << month;
                }
            }
            return months;
        }

        private void weighRight(Rights rights, int right) {
            int side = rights.side[right];
            int with = rights.kind[right] == Rights.AWAY ? WEST - side : side;
            for (int month = 0; month < YEAR; month++) {
                if (rights.isIn(right, month)) {
                    int looked = (month + YEAR - rights.lag[right]) % YEAR;
                    bearing[bearingAt(side, looked, with)] += rights.worth[right];
                }
            }
        }

        private static int bearingAt(int side, int month, int with) {
            return (side * YEAR + month) * 2 + with;
        }

        private void sumHalf(int[] sums, int side, int firstMonth) {
            int base = side * HALF_PLANS;
            sums[base] = 0;
            for (int month = firstMonth; month < firstMonth + HALF; month++) {
                sums[base] += bearing[bearingAt(side, month, WEST)];
            }
            for (int i = 0; i < HALF; i++) {
                int month = firstMonth + i;
                int more = bearing[bearingAt(side, month, EAST)] - bearing[bearingAt(side, month, WEST)];
                for (int set = 0; set < 1 << i; set++) {
                    sums[base + set + (1 << i)] = sums[base + set] + more;
                }
            }
        }

        int gainOf(int side, int plan) {
            return lowGain[side * HALF_PLANS + (plan & HALF_MASK)]
                    + highGain[side * HALF_PLANS + (plan >> HALF & HALF_MASK)];
        }

        static int changesOf(int plan) {
            int monthAhead = (plan << 1 | plan >> (YEAR - 1)) & ALL_MONTHS;
            return Integer.bitCount(plan ^ monthAhead);
        }

        int netOf(int plan) {
            return gainOf(EAST, plan) + gainOf(WEST, plan) - toll * changesOf(plan);
        }

        int bestWithin(int most) {
            int best = 0;
            int greatest = netOf(0);
            for (int plan = 1; plan <= ALL_MONTHS; plan++) {
                if (changesOf(plan) <= most && netOf(plan) > greatest) {
                    best = plan;
                    greatest = netOf(plan);
                }
            }
            return best;
        }

        boolean isOf(int plan, int what) {
            return what == FAIR ? isFair(plan) : isTreaty(plan);
        }

        private boolean isFair(int plan) {
            int other = ALL_MONTHS ^ plan;
            return gainOf(EAST, other) <= gainOf(EAST, plan) && gainOf(WEST, other) <= gainOf(WEST, plan);
        }

        private boolean isTreaty(int plan) {
            return (fought[EAST] & ~plan) == 0 && (fought[WEST] & plan) == 0;
        }

        int countOf(int what) {
            int found = 0;
            for (int plan = 0; plan <= ALL_MONTHS; plan++) {
                if (isOf(plan, what)) {
                    found++;
                }
            }
            return found;
        }

        int bestAmong(int what) {
            int best = NONE;
            int greatest = -FAR;
            for (int plan = 0; plan <= ALL_MONTHS; plan++) {
                if (netOf(plan) > greatest && isOf(plan, what)) {
                    best = plan;
                    greatest = netOf(plan);
                }
            }
            return best;
        }

        int evenPlan() {
            int best = 0;
            int greatest = -FAR;
            for (int plan = 0; plan <= ALL_MONTHS; plan++) {
                int lesser = Math.min(gainOf(EAST, plan), gainOf(WEST, plan));
                if (lesser > greatest) {
                    best = plan;
                    greatest = lesser;
                }
            }
            return best;
        }

        /** Only PLANS with this MONTH as the one ahead are asked, since CHANGES count it so. */
        int greatestWithout(int month, int away) {
            int ahead = (month + YEAR - 1) % YEAR;
            int greatest = -FAR;
            for (int plan = 0; plan <= ALL_MONTHS; plan++) {
                int inEast = plan >> month & 1;
                if (inEast == (plan >> ahead & 1)) {
                    int with = inEast == 1 ? EAST : WEST;
                    int lost = bearing[bearingAt(EAST, month, with)] + bearing[bearingAt(WEST, month, with)];
                    greatest = Math.max(greatest, netOf(plan) - lost + away);
                }
            }
            return greatest;
        }

        int playedOut(int turns) {
            return bestPlay(this, 0, 0, turns, true, -FAR, FAR);
        }

        int firstMove(int turns) {
            int move = NONE;
            int greatest = -FAR;
            for (int month = 0; month < YEAR; month++) {
                int value = bestPlay(this, 1 << month, 0, turns - 1, false, greatest, FAR);
                if (value > greatest) {
                    move = month;
                    greatest = value;
                }
            }
            int ofNone = bestPlay(this, 0, 0, turns - 1, false, greatest, FAR);
            return ofNone > greatest ? NONE : move;
        }

        /**
         * What EAST has more in the end, if it has these MONTHS, and WEST those. What is not above
         * the floor, or not below the roof, is as good as these: the other one won't let it come.
         */
        private static int bestPlay(Plans plans, int east, int west, int turns, boolean isEast, int floor, int roof) {
            if (turns <= 0) {
                return plans.leadOf(east, west);
            }
            int best = bestPlay(plans, east, west, turns - 1, !isEast, floor, roof);
            for (int month = 0; month < YEAR; month++) {
                int bit = 1 << month;
                int low = isEast ? Math.max(floor, best) : floor;
                int high = isEast ? roof : Math.min(roof, best);
                if (low >= high) {
                    break;
                }
                if (((east | west) & bit) != 0) {
                    continue;
                }
                int value = bestPlay(plans, isEast ? east | bit : east, isEast ? west : west | bit,
                        turns - 1, !isEast, low, high);
                best = isEast ? Math.max(best, value) : Math.min(best, value);
            }
            return best;
        }

        private int leadOf(int east, int west) {
            int plan = lies == EAST ? ALL_MONTHS & ~west : east;
            return gainOf(EAST, plan) - gainOf(WEST, plan);
        }
    }
}
