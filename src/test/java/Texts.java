import java.util.ArrayList;
import java.util.List;

/** Makes bridge texts, legal ones and broken ones. */
final class Texts {
    private static final String[] WORDS = {
        "bridge", "lane", "span", "gang", "weather", "closed", "paint", "none", "la", "sa", "ga", "sb", "x",
        "abcdefgh", "abcdefghi", "0", "1", "7", "100", "999", "1000", "12345", "0003", "00003", ";", ";;", "A", "-", "\t",
        "\n", "span:", "\u00e9", "\u0000", "lane la 3;", "span none none 1 1 1 1;", "gang ga 3 3;", "bridge 3 3 3;", "paint 1 sa ga;paint 1 sa ga;", "paint 0 sb gb;paint 00 sb gb;"
    };

    private Texts() { }

    /** A legal text of at most 900 bytes. */
    static String legal(Numbers numbers) {
        String text;
        do {
            List<String> made = numbers.percent(8) ? hardStatements(numbers) : statements(numbers);
            text = String.join(numbers.percent(50) ? "\n" : "", made);
        } while (text.length() > 900);
        return text;
    }

    /** A legal text with many lanes, spans and gangs, most numbers of which are at or beside the ends of their ranges. */
    static String extreme(Numbers numbers) {
        List<String> made;
        do {
            made = extremeStatements(numbers);
        } while (String.join("", made).length() > 900);
        return String.join("", made);
    }

    private static List<String> extremeStatements(Numbers numbers) {
        List<String> made = new ArrayList<>();
        int years = numbers.nearEnd(1, 12);
        made.add("bridge " + years + " " + numbers.nearEnd(1, 4) + " " + numbers.nearEnd(0, 10) + ";");
        int lanes = numbers.nearEnd(0, 4);
        for (int lane = 0; lane < lanes; lane++) {
            made.add("lane l" + letter(lane) + " " + numbers.nearEnd(0, 999) + ";");
        }
        int spans = numbers.nearEnd(0, 12);
        for (int span = 0; span < spans; span++) {
            String lane = lanes == 0 || numbers.percent(20) ? "none" : "l" + letter(numbers.below(lanes));
            made.add("span s" + letter(span) + " " + lane + " " + numbers.nearEnd(1, 99) + " " + numbers.nearEnd(0, 100) + " "
                    + numbers.nearEnd(1, 50) + " " + numbers.nearEnd(1, 100) + ";");
        }
        int gangs = numbers.nearEnd(0, 5);
        for (int gang = 0; gang < gangs; gang++) {
            made.add("gang g" + letter(gang) + " " + numbers.nearEnd(1, 50) + " " + numbers.nearEnd(0, 99) + ";");
        }
        for (int count = numbers.below(15); count > 0; count--) {
            made.add("weather " + numbers.below(years) + " " + numbers.nearEnd(0, 200) + ";");
        }
        for (int count = lanes == 0 ? 0 : numbers.below(6); count > 0; count--) {
            made.add("closed l" + letter(numbers.below(lanes)) + " " + numbers.below(years) + ";");
        }
        return made;
    }

    private static List<String> statements(Numbers numbers) {
        List<String> made = new ArrayList<>();
        int years = 8;
        if (numbers.percent(85)) {
            years = numbers.percent(80) ? numbers.from(2, 7) : numbers.from(1, 12);
            made.add("bridge " + years + " " + numbers.from(1, 4) + " " + numbers.from(0, numbers.percent(70) ? 4 : 10) + ";");
        }
        int lanes = numbers.from(0, 4);
        int spans = numbers.percent(70) ? numbers.from(2, 7) : numbers.from(0, 12);
        int gangs = numbers.percent(80) ? numbers.from(1, 4) : numbers.from(0, 5);
        boolean weak = numbers.percent(60);
        for (int lane = 0; lane < lanes; lane++) {
            made.add("lane l" + letter(lane) + " " + numbers.from(0, 30) + ";");
        }
        int slow = numbers.from(0, 2);
        for (int span = 0; span < spans; span++) {
            String lane = lanes == 0 || numbers.percent(20) ? "none" : "l" + letter(numbers.below(lanes));
            made.add("span s" + letter(span) + " " + lane + " " + numbers.from(1, numbers.percent(50) ? 30 : 99) + " "
                    + numbers.from(0, numbers.percent(80) ? 60 : 100) + " " + numbers.from(1, slow == 0 ? 50 : 20) + " "
                    + numbers.from(numbers.percent(80) ? 50 : 1, 100) + ";");
        }
        for (int gang = 0; gang < gangs; gang++) {
            made.add("gang g" + letter(gang) + " " + numbers.from(1, weak ? 3 : 50) + " " + numbers.from(0, 99) + ";");
        }
        for (int count = numbers.below(weak ? 6 : 3); count > 0; count--) {
            made.add("weather " + numbers.below(years) + " " + numbers.from(0, numbers.percent(70) ? 60 : 200) + ";");
        }
        for (int count = lanes == 0 ? 0 : numbers.below(5); count > 0; count--) {
            made.add("closed l" + letter(numbers.below(lanes)) + " " + numbers.below(years) + ";");
        }
        boolean[] painted = new boolean[12 * 12];
        for (int count = spans == 0 || gangs == 0 ? 0 : numbers.below(9); count > 0; count--) {
            int year = numbers.below(years);
            int span = numbers.below(spans);
            if (!painted[12 * year + span]) {
                painted[12 * year + span] = true;
                made.add("paint " + year + " s" + letter(span) + " g" + letter(numbers.below(gangs)) + ";");
            }
        }
        return made;
    }

    /** Many spans that are past late, and gangs with few days: the search for a safe plan is long. */
    private static List<String> hardStatements(Numbers numbers) {
        List<String> made = new ArrayList<>();
        int years = numbers.from(6, 12);
        made.add("bridge " + years + " " + numbers.from(1, 3) + " " + numbers.from(3, 10) + ";");
        int lanes = numbers.from(1, 3);
        for (int lane = 0; lane < lanes; lane++) {
            made.add("lane l" + letter(lane) + " 1;");
        }
        int spans = numbers.from(6, 12);
        for (int span = 0; span < spans; span++) {
            made.add("span s" + letter(span) + " l" + letter(numbers.below(lanes)) + " " + numbers.from(3, 9) + " "
                    + numbers.from(0, 50) + " " + numbers.from(8, 12) + " " + numbers.from(85, 99) + ";");
        }
        int gangs = numbers.from(1, 2);
        for (int gang = 0; gang < gangs; gang++) {
            made.add("gang g" + letter(gang) + " 1 1;");
        }
        for (int year = 0; year < years; year++) {
            made.add("weather " + year + " " + numbers.from(0, 20) + ";");
        }
        return made;
    }

    private static char letter(int number) {
        return (char) ('a' + number);
    }

    /** A text with one or more faults, mostly. */
    static String broken(Numbers numbers) {
        StringBuilder text = new StringBuilder(legal(numbers));
        for (int count = numbers.from(1, 2); count > 0; count--) {
            int from = numbers.below(text.length() + 1);
            int to = Math.min(text.length(), from + numbers.below(6));
            switch (numbers.below(5)) {
                case 0 -> text.delete(from, to);
                case 1 -> text.insert(from, " " + WORDS[numbers.below(WORDS.length)] + " ");
                case 2 -> text.replace(from, to, WORDS[numbers.below(WORDS.length)]);
                case 3 -> replaceToken(text, numbers);
                default -> text.setLength(from);
            }
        }
        if (text.length() > 900) {
            text.setLength(900);
        }
        return text.toString();
    }

    /** Puts a word for the token at a place. */
    private static void replaceToken(StringBuilder text, Numbers numbers) {
        if (text.length() == 0) {
            return;
        }
        int from = numbers.below(text.length());
        int to = from;
        while (from > 0 && Character.isLetterOrDigit(text.charAt(from - 1))) {
            from--;
        }
        while (to < text.length() && Character.isLetterOrDigit(text.charAt(to))) {
            to++;
        }
        text.replace(from, to, WORDS[numbers.below(WORDS.length)]);
    }
}
