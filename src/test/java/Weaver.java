import java.util.Random;

/** Makes texts at random that are mostly without a FAULT: a PARISH of many PARTS, YEARS within YEARS. */
final class Weaver {
    private static final String[] NAMES = {"a", "bones", "abcdefgh", "toll", "oddss", "q", "notx", "in", "wests"};
    private static final String[] WRONG = {"", " ", "\n", ";", "x", "0", "9", "not ", "east ", "<", "!", "A", " end;", "99999"};

    private final Random random;
    private int steps;

    Weaver(Random random) {
        this.random = random;
    }

    String parish() {
        StringBuilder text = new StringBuilder();
        text.append(some("odds ", 0, 16)).append(some("toll ", 0, random.nextBoolean() ? 5 : 99)).append(some("war ", 0, random.nextBoolean() ? 9 : 99));
        text.append(random.nextBoolean() ? "" : "lies " + side() + ";");
        text.append(some("chest east ", 0, 999)).append(some("chest west ", 0, 999));
        int rights = random.nextInt(random.nextInt(8) == 0 ? 10 : 7);
        int asked = random.nextInt(random.nextInt(8) == 0 ? 8 : 6);
        for (int i = 0; i < rights; i++) {
            text.append(right());
        }
        for (int i = random.nextInt(random.nextInt(6) == 0 ? 7 : 4); i > 0; i--) {
            text.append("debt ").append(side()).append(" sum ").append(number(1, 99)).append(" left ").append(number(1, 24)).append(';');
        }
        for (int i = 0; i < asked; i++) {
            text.append("ask ").append(name(i)).append(';');
        }
        for (int i = random.nextInt(random.nextInt(6) == 0 ? 10 : 8); i > 0 && asked > 0; i--) {
            text.append(clause(asked));
        }
        for (int i = random.nextInt(random.nextInt(6) == 0 ? 8 : 6); i > 0; i--) {
            text.append("witness ").append(number(0, 16)).append(' ').append(number(0, 16)).append(';');
        }
        return turned(text, 900);
    }

    private String side() {
        return random.nextBoolean() ? "east" : "west";
    }

    private int number(int least, int most) {
        return least + random.nextInt(most - least + (random.nextInt(60) == 0 ? 2 : 1));
    }

    private String some(String words, int least, int most) {
        return random.nextBoolean() ? "" : words + number(least, most) + ";";
    }

    /** Names that are no NAMES come seldom: a text would hardly ever be taken. */
    private String name(int i) {
        return random.nextInt(60) == 0 ? NAMES[random.nextInt(NAMES.length)] : "" + (char) ('a' + i);
    }

    private String right() {
        String[] kinds = {"here", "away", "late " + number(1, 6)};
        StringBuilder text = new StringBuilder("right " + side() + " " + kinds[random.nextInt(3)] + " worth " + number(1, 50) + " in");
        int often = 1 + random.nextInt(4);
        for (int month = 0; month < 12; month++) {
            text.append(random.nextInt(often) == 0 ? " " + month : "");
        }
        return text.append(random.nextInt(90) == 0 ? " 3;" : ";").toString();
    }

    private String clause(int asked) {
        StringBuilder text = new StringBuilder("clause");
        for (int i = random.nextInt(random.nextInt(30) == 0 ? 4 : 3); i >= 0; i--) {
            text.append(random.nextBoolean() ? " not " : " ").append(name(random.nextInt(asked)));
        }
        return text.append(';').toString();
    }

    String years() {
        steps = random.nextInt(12) == 0 ? 33 : 4 + random.nextInt(16);
        return turned(new StringBuilder(block(0)), 300);
    }

    private String block(int depth) {
        StringBuilder text = new StringBuilder();
        for (int i = depth == 0 ? steps : random.nextInt(4); i > 0 && steps > 0; i--) {
            steps--;
            text.append(step(depth));
        }
        return text.toString();
    }

    private String step(int depth) {
        boolean mayOpen = depth < 3 || random.nextInt(30) == 0;
        switch (random.nextInt(mayOpen ? 11 : 7)) {
            case 0: return "month " + number(1, random.nextBoolean() ? 3 : 24) + ";";
            case 1: return "carry " + number(1, 2) + " " + number(1, 2) + ";";
            case 2: return "swear " + side() + " " + number(1, 99) + " " + number(1, 24) + ";";
            case 3: return "pay " + number(0, 4) + ";";
            case 4:
            case 5: return "any;";
            case 6: return random.nextInt(6) == 0 ? "stop;" : "any;";
            case 7:
            case 8: return "loop " + number(1, random.nextInt(3) == 0 ? 99 : 9) + ";" + block(depth + 1) + "end;";
            default: return "when " + test() + ";" + block(depth + 1) + "end;";
        }
    }

    private String test() {
        String compares = "<>=".substring(random.nextInt(3)).substring(0, 1);
        String[] tests = {"lies " + side(), "owes " + side(), "chest " + side() + compares + number(0, random.nextBoolean() ? 300 : 9999)};
        return tests[random.nextInt(3)];
    }

    private String turned(StringBuilder text, int longest) {
        for (int i = random.nextInt(8) == 0 ? 2 : 0; i > 0 && text.length() > 0; i--) {
            int at = random.nextInt(text.length());
            text.replace(at, at + random.nextInt(2), WRONG[random.nextInt(WRONG.length)]);
        }
        String blanks = text.toString().replace(";", random.nextInt(4) == 0 ? " ;\n" : ";");
        return blanks.length() <= longest || random.nextInt(20) == 0 ? blanks : blanks.substring(0, blanks.lastIndexOf(';', longest - 1) + 1);
    }
}
