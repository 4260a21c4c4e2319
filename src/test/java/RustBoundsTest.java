/** The boundary cases of the section RUST and of promises 6 to 18. */
public final class RustBoundsTest {
    public static void main(String[] arguments) throws Exception {
        Due.runAll(RustBoundsTest.class);
    }

    /** The rust of span 0 at the beginning of year 0 and at the end of each year. */
    private static void rusts(String text, int... due) {
        SpanPainter painter = Due.bridge(text);
        for (int year = 0; year < due.length - 1; year++) {
            Due.is("rustBefore(0, " + year + "): " + text, painter.rustBefore(0, year), due[year]);
            Due.is("rustAfter(0, " + year + "): " + text, painter.rustAfter(0, year), due[year + 1]);
        }
    }

    // ---- RUST

    /** "The rust of a span is 0 to 100"; "its rust increases by RATE, but to at most 100". */
    static void sectionRustIs0To100() {
        rusts("bridge 3 1 1;span a none 1 0 50 1;", 0, 50, 100, 100);
        rusts("bridge 3 1 1;span a none 1 1 50 1;", 1, 51, 100, 100);
        rusts("bridge 3 1 1;span a none 1 99 1 1;", 99, 100, 100, 100);
        rusts("bridge 3 1 1;span a none 1 99 2 1;", 99, 100, 100, 100);
        rusts("bridge 3 1 1;span a none 1 98 1 1;", 98, 99, 100, 100);
        rusts("bridge 3 1 1;span a none 1 100 50 1;", 100, 100, 100, 100);
        rusts("bridge 1 1 1;span a none 1 100 1 1;", 100, 100);
        rusts("bridge 12 1 1;span a none 1 0 1 1;", 0, 1, 2, 3, 4, 5, 6, 7, 8, 9, 10, 11, 12);
        rusts("bridge 12 1 1;span a none 1 0 9 1;", 0, 9, 18, 27, 36, 45, 54, 63, 72, 81, 90, 99, 100);
    }

    /** "If the span is painted, its rust at the end of the year is 0, and it is guarded for the next GUARD years." */
    static void sectionRustOfPaintedSpans() {
        String span = "span a none 1 5 7 99;gang g 1 1;";
        rusts("bridge 4 1 0;" + span + "paint 0 a g;", 5, 0, 7, 14, 21);
        rusts("bridge 4 1 1;" + span + "paint 0 a g;", 5, 0, 0, 7, 14);
        rusts("bridge 4 1 2;" + span + "paint 0 a g;", 5, 0, 0, 0, 7);
        rusts("bridge 4 1 3;" + span + "paint 0 a g;", 5, 0, 0, 0, 0);
        rusts("bridge 4 1 10;" + span + "paint 0 a g;", 5, 0, 0, 0, 0);
        rusts("bridge 4 1 0;" + span + "paint 3 a g;", 5, 12, 19, 26, 0);
        rusts("bridge 4 1 10;" + span + "paint 3 a g;", 5, 12, 19, 26, 0);
        rusts("bridge 4 1 1;" + span + "paint 1 a g;", 5, 12, 0, 0, 7);
        rusts("bridge 12 1 10;" + span + "paint 0 a g;", 5, 0, 0, 0, 0, 0, 0, 0, 0, 0, 0, 0, 7);
        rusts("bridge 12 1 9;" + span + "paint 0 a g;", 5, 0, 0, 0, 0, 0, 0, 0, 0, 0, 0, 7, 14);
    }

    /** A painting in a guarded year guards anew; one in the first year behind the guard, too. */
    static void sectionRustOfSpansPaintedAgain() {
        String span = "span a none 1 5 7 99;gang g 1 1;";
        rusts("bridge 6 1 2;" + span + "paint 0 a g;paint 1 a g;", 5, 0, 0, 0, 0, 7, 14);
        rusts("bridge 6 1 2;" + span + "paint 0 a g;paint 2 a g;", 5, 0, 0, 0, 0, 0, 7);
        rusts("bridge 6 1 2;" + span + "paint 0 a g;paint 3 a g;", 5, 0, 0, 0, 0, 0, 0);
        rusts("bridge 6 1 0;" + span + "paint 0 a g;paint 1 a g;paint 3 a g;", 5, 0, 0, 7, 0, 7, 14);
    }

    /** "A span is past in a year if its rust at the end of this year is greater than its LIMIT": not if it is equal. */
    static void sectionRustPastItsLimit() {
        // at the ends 10 20 30 40
        int[] limits = {1, 9, 10, 11, 19, 20, 29, 30, 39, 40, 41, 100};
        int[] first = {0, 0, 1, 1, 1, 2, 2, 3, 3, Due.NOT_FOUND, Due.NOT_FOUND, Due.NOT_FOUND};
        for (int index = 0; index < limits.length; index++) {
            SpanPainter painter = Due.bridge("bridge 4 1 1;span a none 1 0 10 " + limits[index] + ";");
            Due.is("pastYear(0), LIMIT " + limits[index], painter.pastYear(0), first[index]);
            Due.is("unpaintedPast(0), LIMIT " + limits[index], painter.unpaintedPast(0), first[index]);
            Due.is("pastCount(), LIMIT " + limits[index], painter.pastCount(), first[index] < 0 ? 0 : 1);
            for (int year = 0; year < 4; year++) {
                int due = first[index] >= 0 && year >= first[index] ? 1 : 0;
                Due.is("pastSpans(" + year + "), LIMIT " + limits[index], painter.pastSpans(year), due);
            }
        }
    }

    /** The rust "at the end of this year" counts, not that at the beginning. */
    static void sectionRustPastAtTheEnd() {
        SpanPainter painter = Due.bridge("bridge 2 1 0;span a none 1 100 50 1;span b none 1 100 50 100;gang g 9 1;paint 0 a g;");
        Due.is("painted in the first year", painter.pastSpans(0), 0);
        Due.is("past in the last year", painter.pastYear(0), 1);
        Due.is("LIMIT 100", painter.pastYear(1), Due.NOT_FOUND);
        painter.paint(1, 0, 0);
        Due.is("painted in each year", painter.pastCount(), 0);
        painter.unpaint(0, 0);
        Due.is("past in the first year alone", painter.pastYear(0), 0);
        Due.is("pastSpans(1)", painter.pastSpans(1), 0);
    }

    // ---- promises 6 to 18

    /** The first and the last index of the largest bridge, and those beside them. */
    static void promise06To08InTheLargestBridge() {
        StringBuilder text = new StringBuilder("bridge 12 4 10;");
        for (int span = 0; span < 12; span++) {
            text.append("span s").append((char) ('a' + span)).append(" none 1 ").append(span + 1).append(" 2 100;");
        }
        SpanPainter painter = Due.bridge(text + Bridges.gangs("9 9") + "paint 10 sl ge;paint 0 sa ga;");
        for (int span = 1; span < 11; span++) {
            Due.is("rustBefore of span " + span, painter.rustBefore(span, 0), span + 1);
            Due.is("rustBefore of span " + span, painter.rustBefore(span, 11), span + 23);
            Due.is("rustAfter of span " + span, painter.rustAfter(span, 0), span + 3);
            Due.is("rustAfter of span " + span, painter.rustAfter(span, 11), span + 25);
            Due.is("guardLeft of span " + span, painter.guardLeft(span, 11), 0);
        }
        Due.is("rustBefore(11, 10)", painter.rustBefore(11, 10), 32);
        Due.is("rustAfter(11, 10)", painter.rustAfter(11, 10), 0);
        Due.is("rustAfter(11, 11)", painter.rustAfter(11, 11), 0);
        Due.is("guardLeft(11, 11)", painter.guardLeft(11, 11), 10);
        Due.is("rustBefore(0, 0)", painter.rustBefore(0, 0), 1);
        Due.is("rustAfter(0, 0)", painter.rustAfter(0, 0), 0);
        Due.is("guardLeft(0, 0)", painter.guardLeft(0, 0), 0);
        Due.is("guardLeft(0, 1)", painter.guardLeft(0, 1), 10);
        Due.is("guardLeft(0, 10)", painter.guardLeft(0, 10), 1);
        Due.is("guardLeft(0, 11)", painter.guardLeft(0, 11), 0);
        Due.is("rustAfter(0, 10)", painter.rustAfter(0, 10), 0);
        Due.is("rustAfter(0, 11)", painter.rustAfter(0, 11), 2);
        Due.noIndexBeyond("rustBefore span", 12, span -> painter.rustBefore(span, 11));
        Due.noIndexBeyond("rustBefore year", 12, year -> painter.rustBefore(11, year));
        Due.noIndexBeyond("rustAfter span", 12, span -> painter.rustAfter(span, 11));
        Due.noIndexBeyond("rustAfter year", 12, year -> painter.rustAfter(11, year));
        Due.noIndexBeyond("guardLeft span", 12, span -> painter.guardLeft(span, 11));
        Due.noIndexBeyond("guardLeft year", 12, year -> painter.guardLeft(11, year));
    }

    /** "The number of years, this one included, for which a span is still guarded." */
    static void promise08GuardLeftDownToNothing() {
        String span = "span a none 1 5 7 99;gang g 1 1;";
        int[][] due = {{0, 0, 0, 0}, {0, 1, 0, 0}, {0, 2, 1, 0}, {0, 3, 2, 1}, {0, 4, 3, 2}};
        for (int guard = 0; guard < due.length; guard++) {
            SpanPainter painter = Due.bridge("bridge 4 1 " + guard + ";" + span + "paint 0 a g;");
            for (int year = 0; year < 4; year++) {
                Due.is("guardLeft(0, " + year + "), GUARD " + guard, painter.guardLeft(0, year), due[guard][year]);
            }
        }
        SpanPainter again = Due.bridge("bridge 4 1 2;" + span + "paint 0 a g;paint 2 a g;");
        Due.is("the last guarded year, painted again", again.guardLeft(0, 2), 1);
        Due.is("guarded anew", again.guardLeft(0, 3), 2);
        Due.is("painted in the last year", Due.bridge("bridge 4 1 2;" + span + "paint 3 a g;").guardLeft(0, 3), 0);
    }

    /** None, all, the first and the last of 12 spans; the first and the last of 12 years. */
    static void promise09To11InTheLargestBridge() {
        SpanPainter all = Due.bridge(Bridges.largest(10, "99 100 50 1"));
        SpanPainter none = Due.bridge(Bridges.largest(10, "99 100 50 100"));
        // past in the last year alone
        SpanPainter last = Due.bridge(Bridges.largest(10, "99 0 1 11"));
        for (int span = 0; span < 12; span++) {
            Due.is("pastYear(" + span + ")", all.pastYear(span), 0);
            Due.is("pastYear(" + span + ")", none.pastYear(span), Due.NOT_FOUND);
            Due.is("pastYear(" + span + ")", last.pastYear(span), 11);
        }
        for (int year = 0; year < 12; year++) {
            Due.is("pastSpans(" + year + ")", all.pastSpans(year), 4095);
            Due.is("pastSpans(" + year + ")", none.pastSpans(year), 0);
            Due.is("pastSpans(" + year + ")", last.pastSpans(year), year == 11 ? 4095 : 0);
        }
        Due.is("pastCount()", all.pastCount(), 12);
        Due.is("pastCount()", none.pastCount(), 0);
        Due.is("pastCount()", last.pastCount(), 12);
        last.paint(11, 0, 0);
        Due.is("pastSpans(11)", last.pastSpans(11), 4094);
        last.paint(11, 11, 0);
        Due.is("pastSpans(11)", last.pastSpans(11), 2046);
        Due.is("pastCount()", last.pastCount(), 10);
        Due.noIndexBeyond("pastYear", 12, all::pastYear);
        Due.noIndexBeyond("pastSpans", 12, all::pastSpans);
    }

    /** "The first of several; NOT_FOUND if there are no spans." */
    static void promise12RustiestInTheLargestBridge() {
        SpanPainter painter = Due.bridge(Bridges.largest(0, "1 100 1 100"));
        Due.is("all with rust 100", painter.rustiest(0), 0);
        Due.is("all with rust 100", painter.rustiest(11), 0);
        for (int span = 0; span < 11; span++) {
            painter.paint(11, span, 0);
            Due.is("behind painted ones", painter.rustiest(11), span + 1);
        }
        painter.paint(11, 11, 0);
        Due.is("all with rust 0", painter.rustiest(11), 0);
        Due.is("in the year before", painter.rustiest(10), 0);
        Due.noIndexBeyond("rustiest", 12, painter::rustiest);
        Due.is("no spans", Due.bridge("bridge 1 1 1;gang g 1 1;lane l 1;").rustiest(0), Due.NOT_FOUND);
    }

    /** The least and the greatest average, one that is no whole number, and that of no spans. */
    static void promise13AverageRustAtTheEnds() {
        SpanPainter most = Due.bridge(Bridges.largest(0, "99 100 50 100"));
        Due.is("rust 100", most.averageRust(0), 100.0);
        Due.is("rust 100", most.averageRust(11), 100.0);
        Due.noIndexBeyond("averageRust", 12, most::averageRust);
        for (int span = 0; span < 11; span++) {
            most.paint(0, span, span % 5);
        }
        Due.is("one of 12", most.averageRust(0), 9900.0 / 1188.0);
        most.paint(0, 11, 4);
        Due.is("rust 0", most.averageRust(0), 0.0);
        Due.is("one span of AREA 1", Due.bridge("bridge 1 1 1;span a none 1 0 1 1;").averageRust(0), 1.0);
        Due.is("sevenths", Due.bridge("bridge 1 1 1;span a none 3 0 1 1;span b none 4 0 2 2;").averageRust(0), 11.0 / 7.0);
        Due.is("no spans", Due.bridge("bridge 1 1 1;gang g 1 1;").averageRust(0), 0.0);
    }

    /** The ranks of 12 spans; years and rust at the ends of their ranges. */
    static void promise14UrgentInTheLargestBridge() {
        SpanPainter equal = Due.bridge(Bridges.largest(0, "1 100 50 1"));
        SpanPainter never = Due.bridge(Bridges.largest(0, "1 100 50 100"));
        for (int rank = 0; rank < 12; rank++) {
            Due.is("all are equal", equal.urgent(rank), rank);
            Due.is("all are never past", never.urgent(rank), rank);
        }
        Due.noIndexBeyond("urgent", 12, equal::urgent);
        // the greater the number, the sooner past: 0 at 11, 1 at 10, but 10 and 11 at 1
        StringBuilder text = new StringBuilder("bridge 12 1 0;");
        for (int span = 0; span < 12; span++) {
            text.append("span s").append((char) ('a' + span)).append(" none 1 0 1 ").append(Math.max(1, 11 - span)).append(';');
        }
        SpanPainter reversed = Due.bridge(text.toString());
        int[] due = {10, 11, 9, 8, 7, 6, 5, 4, 3, 2, 1, 0};
        for (int rank = 0; rank < 12; rank++) {
            Due.is("urgent(" + rank + ")", reversed.urgent(rank), due[rank]);
        }
    }

    /** "Then of decreasing rust at the end of the last year": by one, and from 0 to 100. */
    static void promise14UrgentByRust() {
        // all are past at 0; at the end a and c have 0, the others 100
        SpanPainter painter = Due.bridge("bridge 2 1 0;span a none 1 100 1 99;span b none 1 100 1 99;span c none 1 100 1 99;"
                + "span d none 1 98 1 98;span e none 1 100 1 99;gang g 9 9;paint 1 a g;paint 1 c g;");
        int[] dueOfPainted = {1, 3, 4, 0, 2};
        for (int rank = 0; rank < 5; rank++) {
            Due.is("0 or 100 at the end", painter.urgent(rank), dueOfPainted[rank]);
        }
        SpanPainter other = Due.bridge("bridge 1 1 0;span a none 1 97 1 97;span b none 1 99 1 97;span c none 1 98 1 97;");
        int[] due = {1, 2, 0};
        for (int rank = 0; rank < 3; rank++) {
            Due.is("98, 100 and 99", other.urgent(rank), due[rank]);
        }
        SpanPainter never = Due.bridge("bridge 1 1 0;span a none 1 0 1 100;span b none 1 99 1 100;span c none 1 0 2 100;");
        int[] dueOfNever = {1, 2, 0};
        for (int rank = 0; rank < 3; rank++) {
            Due.is("never past, with 1, 100 and 2", never.urgent(rank), dueOfNever[rank]);
        }
    }

    /** "Never after all years": also with more rust than a span that is past in the last year. */
    static void promise14UrgentNeverAfterAllYears() {
        for (int years = 1; years <= 12; years++) {
            SpanPainter painter = Due.bridge("bridge " + years + " 1 0;span a none 1 100 50 100;span b none 1 "
                    + (12 - years) + " 1 11;");
            Due.is("pastYear(1)", painter.pastYear(1), years - 1);
            Due.is("urgent(0) of " + years + " years", painter.urgent(0), 1);
            Due.is("urgent(1) of " + years + " years", painter.urgent(1), 0);
            Due.noIndexBeyond("urgent", 2, painter::urgent);
        }
    }

    /** The first year, the last one, and one more than there are; the plan does not count. */
    static void promise15UnpaintedPastAtTheEnds() {
        for (int years = 1; years <= 12; years++) {
            SpanPainter painter = Due.bridge("bridge " + years + " 1 0;span a none 1 0 1 " + years + ";span b none 1 1 1 " + years
                    + ";span c none 1 100 1 99;gang g 9 9;paint 0 c g;");
            Due.is("never", painter.unpaintedPast(0), Due.NOT_FOUND);
            Due.is("the last of " + years, painter.unpaintedPast(1), years - 1);
            Due.is("the first of " + years, painter.unpaintedPast(2), 0);
        }
        SpanPainter largest = Due.bridge(Bridges.largest(10, "99 0 1 11") + "paint 11 sl ge;");
        Due.is("unpaintedPast(11)", largest.unpaintedPast(11), 11);
        Due.noIndexBeyond("unpaintedPast", 12, largest::unpaintedPast);
    }

    /** "The least number of paintings of a span, 0 to YEARS, with which it is never past." */
    static void promise16CoatsNeededFrom0ToYears() {
        for (int years = 1; years <= 12; years++) {
            SpanPainter painter = Due.bridge("bridge " + years + " 1 0;span a none 1 100 50 1;span b none 1 100 50 100;"
                    + "span c none 1 0 1 " + years + ";span d none 1 1 1 " + years + ";");
            Due.is("YEARS", painter.coatsNeeded(0), years);
            Due.is("none", painter.coatsNeeded(1), 0);
            Due.is("just none", painter.coatsNeeded(2), 0);
            Due.is("just one", painter.coatsNeeded(3), 1);
        }
        // painted at 0, past again at 11, or at 10
        Due.is("GUARD 10", Due.bridge("bridge 11 1 10;span a none 1 100 50 1;").coatsNeeded(0), 1);
        Due.is("GUARD 10, a year more", Due.bridge("bridge 12 1 10;span a none 1 100 50 1;").coatsNeeded(0), 2);
        Due.is("GUARD 9", Due.bridge("bridge 11 1 9;span a none 1 100 50 1;").coatsNeeded(0), 2);
        Due.is("GUARD 10, 50 is not past", Due.bridge("bridge 12 1 10;span a none 1 100 50 50;").coatsNeeded(0), 1);
        Due.noIndexBeyond("coatsNeeded", 12, Due.bridge(Bridges.largest(0, "1 1 1 1"))::coatsNeeded);
    }

    /** "If gangs, lanes and weather do not matter." */
    static void promise16CoatsNeededWithoutGangs() {
        SpanPainter painter = Due.bridge("bridge 3 1 0;lane l 1;span a l 99 100 50 1;weather 0 0;closed l 0;closed l 1;closed l 2;");
        Due.is("coatsNeeded(0)", painter.coatsNeeded(0), 3);
        Due.is("latestPainting(0, 2)", painter.latestPainting(0, 2), 2);
    }

    /** "NOT_FOUND if index is negative, or if there are not so many paintings." */
    static void promise17LatestPaintingAtTheEnds() {
        SpanPainter most = Due.bridge(Bridges.largest(0, "99 100 50 1"));
        for (int index = 0; index < 12; index++) {
            Due.is("latestPainting(11, " + index + ")", most.latestPainting(11, index), index);
        }
        int[] none = {-1, 12, 13, 16, 32, 256, 65536, -16, -32, Integer.MIN_VALUE, Integer.MIN_VALUE + 1, Integer.MAX_VALUE};
        SpanPainter never = Due.bridge(Bridges.largest(0, "99 100 50 100"));
        for (int index : none) {
            Due.is("latestPainting(0, " + index + ")", most.latestPainting(0, index), Due.NOT_FOUND);
            Due.is("latestPainting(0, " + index + ")", never.latestPainting(0, index), Due.NOT_FOUND);
            Due.noIndex("latestPainting(12, " + index + ")", () -> most.latestPainting(12, index));
            Due.noIndex("latestPainting(-1, " + index + ")", () -> most.latestPainting(-1, index));
        }
        Due.is("latestPainting(0, 0)", never.latestPainting(0, 0), Due.NOT_FOUND);
        // past at 11 alone
        SpanPainter last = Due.bridge(Bridges.largest(0, "99 0 1 11"));
        Due.is("latestPainting(11, 0)", last.latestPainting(11, 0), 11);
        Due.is("latestPainting(11, 1)", last.latestPainting(11, 1), Due.NOT_FOUND);
    }

    /** "Paints a span in each year in which it would otherwise be past": with each GUARD from its last year on. */
    static void promise17LatestPaintingByGuard() {
        for (int guard = 0; guard <= 10; guard++) {
            SpanPainter painter = Due.bridge("bridge 12 1 " + guard + ";span a none 1 100 50 1;");
            int count = 0;
            for (int year = 0; year < 12; year += guard + 1) {
                Due.is("GUARD " + guard, painter.latestPainting(0, count), year);
                count++;
            }
            Due.is("GUARD " + guard, painter.latestPainting(0, count), Due.NOT_FOUND);
            Due.is("coatsNeeded(0), GUARD " + guard, painter.coatsNeeded(0), count);
        }
    }

    /** "In each year in which it would otherwise be past": the rust behind a painting is 0, and as much as LIMIT is not past. */
    static void promise17LatestPaintingByLimit() {
        int[] limits = {28, 29, 30, 31, 39, 40};
        int[] steps = {3, 3, 4, 4, 4, 5};
        for (int index = 0; index < limits.length; index++) {
            SpanPainter painter = Due.bridge("bridge 12 1 0;span a none 1 100 10 " + limits[index] + ";");
            for (int count = 0; count * steps[index] < 12; count++) {
                Due.is("LIMIT " + limits[index], painter.latestPainting(0, count), count * steps[index]);
            }
            Due.is("coatsNeeded(0), LIMIT " + limits[index], painter.coatsNeeded(0), (11 + steps[index]) / steps[index]);
        }
    }

    /** "The greatest RATE, 1 to 50, with which a span would not be past"; "NOT_FOUND if there is none". */
    static void promise18HarmlessRateAtTheEnds() {
        String one = "bridge 1 1 0;span a none 1 ";
        Due.is("50", Due.bridge(one + "0 1 50;").harmlessRate(0), 50);
        Due.is("49", Due.bridge(one + "0 1 49;").harmlessRate(0), 49);
        Due.is("50 and no more", Due.bridge(one + "0 1 51;").harmlessRate(0), 50);
        Due.is("1", Due.bridge(one + "49 9 50;").harmlessRate(0), 1);
        Due.is("none: at the limit", Due.bridge(one + "50 1 50;").harmlessRate(0), Due.NOT_FOUND);
        Due.is("none: past the limit", Due.bridge(one + "51 1 50;").harmlessRate(0), Due.NOT_FOUND);
        Due.is("LIMIT 100", Due.bridge(one + "100 1 100;").harmlessRate(0), 50);
        Due.is("LIMIT 99", Due.bridge(one + "98 50 99;").harmlessRate(0), 1);
        Due.is("LIMIT 1", Due.bridge(one + "0 50 1;").harmlessRate(0), 1);
        Due.is("12 years", Due.bridge("bridge 12 1 0;span a none 1 0 1 12;").harmlessRate(0), 1);
        Due.is("12 years", Due.bridge("bridge 12 1 0;span a none 1 0 1 11;").harmlessRate(0), Due.NOT_FOUND);
        Due.is("12 years", Due.bridge("bridge 12 1 0;span a none 1 0 1 23;").harmlessRate(0), 1);
        Due.is("12 years", Due.bridge("bridge 12 1 0;span a none 1 0 1 24;").harmlessRate(0), 2);
        SpanPainter largest = Due.bridge(Bridges.largest(0, "99 100 50 100"));
        Due.is("harmlessRate(11)", largest.harmlessRate(11), 50);
        Due.noIndexBeyond("harmlessRate", 12, largest::harmlessRate);
    }
}
