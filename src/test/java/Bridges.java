/** Texts of bridges that several tests use. */
final class Bridges {
    private Bridges() { }

    /** Statements of 4 lanes la to ld of the same TRAFFIC. */
    static String lanes(int traffic) {
        StringBuilder text = new StringBuilder();
        for (int lane = 0; lane < 4; lane++) {
            text.append("lane l").append((char) ('a' + lane)).append(' ').append(traffic).append(';');
        }
        return text.toString();
    }

    /** Statements of 12 spans sa to sl, each with the same numbers; the lanes la to ld take turns. */
    static String spans(String numbers) {
        StringBuilder text = new StringBuilder();
        for (int span = 0; span < 12; span++) {
            text.append("span s").append((char) ('a' + span)).append(" l").append((char) ('a' + span % 4)).append(' ')
                    .append(numbers).append(';');
        }
        return text.toString();
    }

    /** Statements of 5 gangs ga to ge, each with the same numbers. */
    static String gangs(String numbers) {
        StringBuilder text = new StringBuilder();
        for (int gang = 0; gang < 5; gang++) {
            text.append("gang g").append((char) ('a' + gang)).append(' ').append(numbers).append(';');
        }
        return text.toString();
    }

    /** The same DAYS in 12 years. */
    static String weather(int days) {
        StringBuilder text = new StringBuilder();
        for (int year = 0; year < 12; year++) {
            text.append("weather ").append(year).append(' ').append(days).append(';');
        }
        return text.toString();
    }

    /** A bridge with as much of everything as there may be; spans have the numbers AREA RUST RATE LIMIT. */
    static String largest(int guard, String spanNumbers) {
        return "bridge 12 4 " + guard + ";" + lanes(999) + spans(spanNumbers) + gangs("50 99");
    }

    /** As a text of so many bytes, blanks in front. */
    static String padded(String text, int length) {
        return " ".repeat(length - text.length()) + text;
    }
}
