/** Promises 6 to 18. */
public final class RustTest {
    /** Without the plan, a rusts 20 50 80 100 100 100, b 0 15 30 45 60 75, c 50 57 64 71 78 85. */
    private static final String BRIDGE = "bridge 5 1 2;lane north 10;lane south 3;span a north 10 20 30 60;"
            + "span b south 7 0 15 100;span c none 33 50 7 63;gang red 4 5;gang blue 9 2;weather 1 20;";

    public static void main(String[] arguments) throws Exception {
        Due.runAll(RustTest.class);
    }

    private static void rusts(SpanPainter painter, int span, int... due) {
        for (int year = 0; year < due.length - 1; year++) {
            Due.is("rustBefore(" + span + ", " + year + ")", painter.rustBefore(span, year), due[year]);
            Due.is("rustAfter(" + span + ", " + year + ")", painter.rustAfter(span, year), due[year + 1]);
        }
    }

    static void promise06RustBefore() {
        SpanPainter painter = Due.bridge(BRIDGE + "paint 1 a red;paint 3 c red;");
        int[] due = {20, 50, 0, 0, 0};
        for (int year = 0; year < 5; year++) {
            Due.is("rustBefore(0, " + year + ")", painter.rustBefore(0, year), due[year]);
        }
        Due.is("rustBefore(2, 3)", painter.rustBefore(2, 3), 71);
        Due.is("rustBefore(2, 4)", painter.rustBefore(2, 4), 0);
        Due.noIndexBeyond("rustBefore span", 3, span -> painter.rustBefore(span, 0));
        Due.noIndexBeyond("rustBefore year", 5, year -> painter.rustBefore(0, year));
    }

    static void promise07RustAfter() {
        SpanPainter painter = Due.bridge(BRIDGE);
        rusts(painter, 0, 20, 50, 80, 100, 100, 100);
        rusts(painter, 1, 0, 15, 30, 45, 60, 75);
        rusts(painter, 2, 50, 57, 64, 71, 78, 85);
        Due.noIndexBeyond("rustAfter span", 3, span -> painter.rustAfter(span, 0));
        Due.noIndexBeyond("rustAfter year", 5, year -> painter.rustAfter(0, year));
        // guarded in two years after the painting; a painting in a guarded year guards anew
        rusts(Due.bridge(BRIDGE + "paint 1 a red;"), 0, 20, 50, 0, 0, 0, 30);
        rusts(Due.bridge(BRIDGE + "paint 0 b red;paint 2 b blue;"), 1, 0, 0, 0, 0, 0, 0);
        rusts(Due.bridge("bridge 4 1 0;span a none 1 90 7 50;gang g 1 1;paint 1 a g;"), 0, 90, 97, 0, 7, 14);
        rusts(Due.bridge("bridge 3 1 0;span a none 1 93 7 50;gang g 1 1;"), 0, 93, 100, 100, 100);
    }

    static void promise08GuardLeft() {
        SpanPainter painter = Due.bridge(BRIDGE + "paint 0 a red;paint 1 a red;paint 1 b red;");
        int[] due = {0, 2, 2, 1, 0};
        int[] dueOther = {0, 0, 2, 1, 0};
        for (int year = 0; year < 5; year++) {
            Due.is("guardLeft(0, " + year + ")", painter.guardLeft(0, year), due[year]);
            Due.is("guardLeft(1, " + year + ")", painter.guardLeft(1, year), dueOther[year]);
            Due.is("guardLeft(2, " + year + ")", painter.guardLeft(2, year), 0);
        }
        Due.noIndexBeyond("guardLeft span", 3, span -> painter.guardLeft(span, 0));
        Due.noIndexBeyond("guardLeft year", 5, year -> painter.guardLeft(0, year));
        // the years behind the last one count, too
        Due.is("GUARD 10", Due.bridge("bridge 2 1 10;span a none 1 1 1 1;gang g 1 1;paint 0 a g;").guardLeft(0, 1), 10);
        Due.is("GUARD 0", Due.bridge("bridge 2 1 0;span a none 1 1 1 1;gang g 1 1;paint 0 a g;").guardLeft(0, 1), 0);
    }

    static void promise09PastYear() {
        SpanPainter painter = Due.bridge(BRIDGE);
        Due.is("pastYear(0)", painter.pastYear(0), 1);
        Due.is("pastYear(1)", painter.pastYear(1), Due.NOT_FOUND);
        Due.is("pastYear(2)", painter.pastYear(2), 1);
        Due.noIndexBeyond("pastYear", 3, painter::pastYear);
        painter.paint(0, 0, 0);
        // 0, guarded, guarded, 30, 60: not greater than 60
        Due.is("pastYear(0) painted", painter.pastYear(0), Due.NOT_FOUND);
        painter.setRate(0, 31);
        Due.is("pastYear(0) with rate 31", painter.pastYear(0), 4);
    }

    static void promise10PastCount() {
        SpanPainter painter = Due.bridge(BRIDGE);
        Due.is("pastCount()", painter.pastCount(), 2);
        painter.paint(0, 2, 0);
        Due.is("pastCount() with c painted", painter.pastCount(), 1);
        painter.paint(0, 0, 0);
        Due.is("pastCount() with a painted", painter.pastCount(), 0);
        // past only in a year in the middle
        Due.is("pastCount()", Due.bridge(BRIDGE + "paint 3 a red;").pastCount(), 2);
    }

    static void promise11PastSpans() {
        SpanPainter painter = Due.bridge(BRIDGE + "paint 3 a red;");
        int[] due = {0, 5, 5, 4, 4};
        for (int year = 0; year < 5; year++) {
            Due.is("pastSpans(" + year + ")", painter.pastSpans(year), due[year]);
        }
        Due.noIndexBeyond("pastSpans", 5, painter::pastSpans);
    }

    static void promise12Rustiest() {
        SpanPainter painter = Due.bridge(BRIDGE + "paint 1 a red;paint 4 c red;");
        int[] due = {2, 2, 2, 2, 1};
        for (int year = 0; year < 5; year++) {
            Due.is("rustiest(" + year + ")", painter.rustiest(year), due[year]);
        }
        Due.noIndexBeyond("rustiest", 5, painter::rustiest);
        SpanPainter equal = Due.bridge("bridge 2 1 2;span a none 1 1 1 1;span b none 1 2 5 1;span c none 1 2 5 1;gang g 9 1;"
                + "paint 1 a g;paint 1 b g;paint 1 c g;");
        Due.is("the first of several", equal.rustiest(0), 1);
        Due.is("the first of all with rust 0", equal.rustiest(1), 0);
        Due.is("no spans", new SpanPainter().rustiest(7), Due.NOT_FOUND);
        Due.noIndex("no spans, no year", () -> new SpanPainter().rustiest(8));
    }

    static void promise13AverageRust() {
        SpanPainter painter = Due.bridge(BRIDGE + "paint 1 a red;");
        Due.is("averageRust(0)", painter.averageRust(0), (10 * 50 + 7 * 15 + 33 * 57) / 50.0);
        Due.is("averageRust(1)", painter.averageRust(1), (7 * 30 + 33 * 64) / 50.0);
        Due.is("averageRust(4)", painter.averageRust(4), (10 * 30 + 7 * 75 + 33 * 85) / 50.0);
        Due.noIndexBeyond("averageRust", 5, painter::averageRust);
        Due.is("thirds", Due.bridge("bridge 1 1 1;span a none 1 0 1 1;span b none 2 0 2 2;").averageRust(0), 5.0 / 3.0);
        Due.is("no spans", new SpanPainter().averageRust(0), 0.0);
        Due.noIndex("no spans, no year", () -> new SpanPainter().averageRust(8));
    }

    static void promise14Urgent() {
        // first years past: a 3, b never, c 1, d 3, e never, f 3, g 1; rust at the end: d more than a, f as a, e more than b
        SpanPainter painter = Due.bridge("bridge 4 1 9;span a none 1 10 10 49;span b none 1 0 10 99;span c none 1 40 10 59;"
                + "span d none 1 20 10 59;span e none 1 1 10 99;span f none 1 10 10 49;span g none 1 89 1 90;");
        int[] due = {6, 2, 3, 0, 5, 4, 1};
        for (int rank = 0; rank < due.length; rank++) {
            Due.is("urgent(" + rank + ")", painter.urgent(rank), due[rank]);
        }
        Due.noIndexBeyond("urgent", 7, painter::urgent);
        Due.noIndexBeyond("urgent without spans", 0, new SpanPainter()::urgent);
    }

    static void promise14UrgentInTheLastYear() {
        // past in the last year stands before never, whatever the rust
        SpanPainter painter = Due.bridge("bridge 12 1 9;span a none 1 99 1 100;span b none 1 0 1 11;gang g 9 9;");
        Due.is("urgent(0)", painter.urgent(0), 1);
        Due.is("urgent(1)", painter.urgent(1), 0);
    }

    static void promise15UnpaintedPast() {
        SpanPainter painter = Due.bridge(BRIDGE + "paint 0 a red;paint 0 c red;");
        Due.is("unpaintedPast(0)", painter.unpaintedPast(0), 1);
        Due.is("unpaintedPast(1)", painter.unpaintedPast(1), Due.NOT_FOUND);
        Due.is("unpaintedPast(2)", painter.unpaintedPast(2), 1);
        painter.setRate(2, 3);
        Due.is("unpaintedPast(2) with rate 3", painter.unpaintedPast(2), 4);
        Due.noIndexBeyond("unpaintedPast", 3, painter::unpaintedPast);
        Due.is("LIMIT 100", Due.bridge("span a none 1 100 50 100;").unpaintedPast(0), Due.NOT_FOUND);
        Due.is("at once", Due.bridge("span a none 1 100 50 99;").unpaintedPast(0), 0);
    }

    static void promise16CoatsNeeded() {
        SpanPainter painter = Due.bridge(BRIDGE + "paint 0 a red;");
        Due.is("coatsNeeded(0)", painter.coatsNeeded(0), 1);
        Due.is("coatsNeeded(1)", painter.coatsNeeded(1), 0);
        Due.is("coatsNeeded(2)", painter.coatsNeeded(2), 1);
        Due.noIndexBeyond("coatsNeeded", 3, painter::coatsNeeded);
        Due.is("each year", Due.bridge("bridge 12 1 0;span a none 1 100 50 1;").coatsNeeded(0), 12);
        Due.is("each second year", Due.bridge("bridge 11 1 1;span a none 1 100 50 1;").coatsNeeded(0), 6);
        Due.is("each third year", Due.bridge("bridge 11 1 1;span a none 1 100 50 50;").coatsNeeded(0), 4);
    }

    static void promise17LatestPainting() {
        // 40 70 99 -> painted at 2, guarded at 3 and 4, 30 60 90 at 5, 6, 7 -> 8
        SpanPainter painter = Due.bridge("bridge 12 1 2;span a none 1 10 30 95;span b none 1 0 1 50;gang g 1 1;paint 0 a g;");
        Due.is("latestPainting(0, 0)", painter.latestPainting(0, 0), 2);
        Due.is("latestPainting(0, 1)", painter.latestPainting(0, 1), 8);
        Due.is("latestPainting(0, 2)", painter.latestPainting(0, 2), Due.NOT_FOUND);
        Due.is("latestPainting(0, -1)", painter.latestPainting(0, -1), Due.NOT_FOUND);
        Due.is("latestPainting(0, MIN)", painter.latestPainting(0, Integer.MIN_VALUE), Due.NOT_FOUND);
        Due.is("latestPainting(0, MAX)", painter.latestPainting(0, Integer.MAX_VALUE), Due.NOT_FOUND);
        Due.is("latestPainting(1, 0)", painter.latestPainting(1, 0), Due.NOT_FOUND);
        Due.noIndexBeyond("latestPainting", 2, span -> painter.latestPainting(span, 0));
        Due.noIndex("latestPainting(2, -1)", () -> painter.latestPainting(2, -1));
    }

    static void promise18HarmlessRate() {
        // four years: 20 + 4 * 10 = 60; 0 + 4 * 25 = 100; 50 + 4 * 3 = 62
        SpanPainter painter = Due.bridge("bridge 4 1 2;span a none 1 20 30 60;span b none 1 0 50 99;span c none 1 50 1 63;"
                + "span d none 1 50 1 100;span e none 1 50 1 53;span f none 1 50 1 54;gang g 1 1;paint 0 e g;");
        int[] due = {10, 24, 3, 50, Due.NOT_FOUND, 1};
        for (int span = 0; span < due.length; span++) {
            Due.is("harmlessRate(" + span + ")", painter.harmlessRate(span), due[span]);
        }
        Due.is("RATE is as before", painter.rustAfter(2, 0), 51);
        Due.noIndexBeyond("harmlessRate", 6, painter::harmlessRate);
    }
}
