/** The boundary cases of the section WORK and of promises 19 to 42. */
public final class WorkBoundsTest {
    public static void main(String[] arguments) throws Exception {
        Due.runAll(WorkBoundsTest.class);
    }

    /** One span of an AREA and a RUST, painted in the first year by a gang of a SPEED. */
    private static SpanPainter painted(int area, int rust, int speed, String more) {
        return Due.bridge("bridge 1 1 0;lane l 3;span a l " + area + " " + rust + " 1 100;gang g " + speed + " 5;paint 0 a g;" + more);
    }

    /** The largest bridge, GUARD 0, with each span painted in each year by the gang of its number modulo 5. */
    private static SpanPainter allPainted() {
        SpanPainter painter = Due.bridge(Bridges.largest(0, "99 100 50 49") + Bridges.weather(200));
        for (int year = 0; year < 12; year++) {
            for (int span = 0; span < 12; span++) {
                painter.paint(year, span, span % 5);
            }
        }
        return painter;
    }

    // ---- WORK

    /** "All divisions round down, unless it is said that they round up": the effort, at the ends of AREA and rust. */
    static void sectionWorkEffort() {
        int[][] due = {{1, 0, 1}, {1, 99, 1}, {1, 100, 2}, {2, 49, 2}, {2, 50, 3}, {2, 99, 3}, {2, 100, 4}, {99, 0, 99},
            {99, 1, 99}, {99, 2, 100}, {99, 99, 197}, {99, 100, 198}, {50, 1, 50}, {50, 2, 51}, {3, 33, 3}, {3, 34, 4}};
        for (int[] one : due) {
            SpanPainter painter = painted(one[0], one[1], 1, "");
            Due.is("effort of AREA " + one[0] + " and rust " + one[1], painter.effort(0, 0), one[2]);
            Due.is("loadOf(0, 0)", painter.loadOf(0, 0), one[2]);
            Due.is("daysUsed(0, 0) of SPEED 1", painter.daysUsed(0, 0), one[2]);
        }
    }

    /** "A painting takes effort / SPEED days of its gang, rounded up." */
    static void sectionWorkDaysRoundUp() {
        // effort, SPEED, days
        int[][] due = {{1, 1, 1}, {1, 2, 1}, {1, 50, 1}, {49, 50, 1}, {50, 50, 1}, {51, 50, 2}, {99, 50, 2}, {99, 49, 3}, {98, 49, 2},
            {99, 33, 3}, {99, 34, 3}, {99, 32, 4}, {99, 1, 99}};
        for (int[] one : due) {
            SpanPainter painter = painted(one[0], 0, one[1], "");
            Due.is("days of " + one[0] + " by " + one[1], painter.daysUsed(0, 0), one[2]);
            Due.is("lane days of " + one[0] + " by " + one[1], painter.laneDays(0, 0), one[2]);
            Due.is("wages of " + one[0] + " by " + one[1], painter.wages(0), 5 * one[2]);
            Due.is("loss of " + one[0] + " by " + one[1], painter.trafficLoss(0), 3 * one[2]);
        }
        // each painting is rounded up, not their sum
        SpanPainter two = Due.bridge("bridge 1 1 0;lane l 3;span a l 1 0 1 9;span b l 1 0 1 9;span c none 1 0 1 9;gang g 50 5;"
                + "paint 0 a g;paint 0 b g;paint 0 c g;");
        Due.is("daysUsed(0, 0)", two.daysUsed(0, 0), 3);
        Due.is("laneDays(0, 0)", two.laneDays(0, 0), 2);
    }

    /** "A lane is shut in a year if a span with this lane is painted in this year": a span without a lane shuts none. */
    static void sectionWorkLanesShut() {
        String text = "bridge 2 4 0;" + Bridges.lanes(1) + "span a la 1 0 1 9;span b ld 1 0 1 9;span c ld 1 0 1 9;span d none 1 0 1 9;"
                + "gang g 9 1;";
        SpanPainter painter = Due.bridge(text);
        Due.is("no paintings", painter.lanesShut(0), 0);
        painter.paint(0, 3, 0);
        Due.is("a span without a lane", painter.lanesShut(0), 0);
        painter.paint(0, 0, 0);
        Due.is("the first lane", painter.lanesShut(0), 1);
        painter.paint(0, 1, 0);
        painter.paint(0, 2, 0);
        Due.is("the last lane, twice", painter.lanesShut(0), 9);
        painter.unpaint(0, 1);
        Due.is("once", painter.lanesShut(0), 9);
        painter.unpaint(0, 2);
        Due.is("not any more", painter.lanesShut(0), 1);
        Due.is("another year", painter.lanesShut(1), 0);
    }

    /** "Refused for the first of these reasons that applies": of each two that apply, the smaller one. */
    static void sectionWorkFirstReason() {
        String start = "bridge 1 1 0;lane k 1;lane l 1;span a k 9 0 1 9;span b l 9 0 1 9;span c l 9 0 1 9;gang g 9 1;gang h 9 1;";
        Due.is("none", Due.bridge(start).refusal(0, 1, 0), 0);
        Due.is("1", Due.bridge(start + "paint 0 b g;").refusal(0, 1, 0), 1);
        Due.is("1 by another gang", Due.bridge(start + "paint 0 b g;").refusal(0, 1, 1), 1);
        Due.is("2", Due.bridge(start + "closed l 0;").refusal(0, 1, 0), 2);
        Due.is("3", Due.bridge(start + "paint 0 a g;").refusal(0, 1, 0), 3);
        Due.is("4", Due.bridge(start + "weather 0 0;").refusal(0, 1, 0), 4);
        Due.is("1 and 2", Due.bridge(start + "paint 0 b g;closed l 0;").refusal(0, 1, 0), 1);
        Due.is("1 and 3", Due.bridge(start + "paint 0 b g;paint 0 a g;").refusal(0, 1, 0), 1);
        Due.is("1 and 4", Due.bridge(start + "paint 0 b g;weather 0 0;").refusal(0, 1, 0), 1);
        Due.is("2 and 3", Due.bridge(start + "paint 0 a g;closed l 0;").refusal(0, 1, 0), 2);
        Due.is("2 and 4", Due.bridge(start + "weather 0 0;closed l 0;").refusal(0, 1, 0), 2);
        Due.is("3 and 4", Due.bridge(start + "paint 0 a g;weather 0 0;").refusal(0, 1, 0), 3);
        Due.is("all", Due.bridge(start + "paint 0 a g;paint 0 b g;weather 0 0;closed l 0;").refusal(0, 1, 0), 1);
        Due.is("all but the first", Due.bridge(start + "paint 0 a g;weather 0 0;closed l 0;").refusal(0, 1, 0), 2);
        Due.is("another lane closed", Due.bridge(start + "closed k 0;").refusal(0, 1, 0), 0);
        Due.is("its lane is shut already", Due.bridge(start + "paint 0 b g;").refusal(0, 2, 0), 0);
        Due.is("its lane is shut already, but closed", Due.bridge(start + "paint 0 b g;closed l 0;").refusal(0, 2, 0), 2);
    }

    /** "With its lane more than SHUT lanes would be shut": as many as SHUT are not more. */
    static void sectionWorkShutLanes() {
        for (int shut = 1; shut <= 4; shut++) {
            SpanPainter painter = Due.bridge("bridge 1 " + shut + " 0;" + Bridges.lanes(1) + Bridges.spans("1 0 1 9") + "gang g 50 1;");
            for (int span = 0; span < 4; span++) {
                Due.is("refusal with " + span + " lanes of " + shut, painter.refusal(0, span, 0), span < shut ? 0 : 3);
                int due = span < shut ? 0 : Due.REFUSED;
                Due.is("paint with " + span + " lanes of " + shut, painter.paint(0, span, 0), due);
            }
            Due.is("lanesShut(0)", painter.lanesShut(0), (1 << shut) - 1);
            Due.is("a lane that is shut", painter.refusal(0, 4, 0), 0);
        }
    }

    /** "The load of the gang would be greater than its capacity": as great is not greater. */
    static void sectionWorkLoadAndCapacity() {
        String start = "bridge 1 1 0;span a none 20 0 1 9;span b none 30 0 1 9;gang g 2 1;gang h 1 1;weather 0 ";
        Due.is("a load as great", Due.bridge(start + "10;").refusal(0, 0, 0), 0);
        Due.is("a load greater by one", Due.bridge(start + "10;span c none 21 0 1 9;").refusal(0, 2, 0), 4);
        Due.is("capacity 18", Due.bridge(start + "9;").refusal(0, 0, 0), 4);
        Due.is("both as great", Due.bridge(start + "25;paint 0 a g;").refusal(0, 1, 0), 0);
        Due.is("both greater", Due.bridge(start + "24;paint 0 a g;").refusal(0, 1, 0), 4);
        Due.is("by another gang", Due.bridge(start + "30;paint 0 a g;").refusal(0, 1, 1), 0);
        Due.is("too much by another gang", Due.bridge(start + "29;paint 0 a g;").refusal(0, 1, 1), 4);
        Due.is("no days", Due.bridge(start + "0;").refusal(0, 0, 0), 4);
        // the days would be rounded up to 8, the load fits into 7 days and a half
        Due.is("days do not matter", Due.bridge("bridge 1 1 0;span a none 7 0 1 9;span b none 8 0 1 9;gang g 5 1;weather 0 3;"
                + "paint 0 a g;").refusal(0, 1, 0), 0);
    }

    // ---- promises 19 to 42

    /** The first and the last index of the largest bridge, and those beside them. */
    static void promise19To24InTheLargestBridge() {
        SpanPainter painter = allPainted();
        for (int span = 0; span < 12; span++) {
            Due.is("effort(" + span + ", 0)", painter.effort(span, 0), 198);
            Due.is("effort(" + span + ", 1)", painter.effort(span, 1), 99);
            Due.is("effort(" + span + ", 11)", painter.effort(span, 11), 99);
            Due.is("gangOf(" + span + ", 0)", painter.gangOf(span, 0), span % 5);
            Due.is("gangOf(" + span + ", 11)", painter.gangOf(span, 11), span % 5);
        }
        for (int gang = 0; gang < 5; gang++) {
            int spans = gang < 2 ? 3 : 2;
            Due.is("capacity(" + gang + ", 0)", painter.capacity(gang, 0), 10000);
            Due.is("capacity(" + gang + ", 11)", painter.capacity(gang, 11), 10000);
            Due.is("loadOf(" + gang + ", 0)", painter.loadOf(gang, 0), 198 * spans);
            Due.is("loadOf(" + gang + ", 11)", painter.loadOf(gang, 11), 99 * spans);
            Due.is("daysUsed(" + gang + ", 0)", painter.daysUsed(gang, 0), 4 * spans);
            Due.is("daysUsed(" + gang + ", 11)", painter.daysUsed(gang, 11), 2 * spans);
        }
        for (int year = 0; year < 12; year++) {
            Due.is("paintedSpans(" + year + ")", painter.paintedSpans(year), 4095);
            Due.is("lanesShut(" + year + ")", painter.lanesShut(year), 15);
        }
        Due.noIndexBeyond("effort span", 12, span -> painter.effort(span, 11));
        Due.noIndexBeyond("effort year", 12, year -> painter.effort(11, year));
        Due.noIndexBeyond("capacity gang", 5, gang -> painter.capacity(gang, 11));
        Due.noIndexBeyond("capacity year", 12, year -> painter.capacity(4, year));
        Due.noIndexBeyond("loadOf gang", 5, gang -> painter.loadOf(gang, 11));
        Due.noIndexBeyond("loadOf year", 12, year -> painter.loadOf(4, year));
        Due.noIndexBeyond("gangOf span", 12, span -> painter.gangOf(span, 11));
        Due.noIndexBeyond("gangOf year", 12, year -> painter.gangOf(11, year));
        Due.noIndexBeyond("paintedSpans", 12, painter::paintedSpans);
        Due.noIndexBeyond("lanesShut", 12, painter::lanesShut);
    }

    /** One year, but 12 spans and 5 gangs. */
    static void promise19To42InAWideBridge() {
        SpanPainter painter = Due.bridge("bridge 1 4 0;" + Bridges.lanes(7) + Bridges.spans("10 0 1 1") + Bridges.gangs("1 2")
                + "weather 0 30;");
        Due.is("possibleGangs(0, 11)", painter.possibleGangs(0, 11), 31);
        Due.is("firstPossible(11)", painter.firstPossible(11), 0);
        for (int span = 0; span < 12; span++) {
            Due.is("paint", painter.paint(0, span, span % 5), 0);
        }
        Due.is("paintedSpans(0)", painter.paintedSpans(0), 4095);
        Due.is("lanesShut(0)", painter.lanesShut(0), 15);
        Due.is("paintings()", painter.paintings(), 12);
        Due.is("needlessPaintings(0)", painter.needlessPaintings(0), 4095);
        Due.is("loadOf(4, 0)", painter.loadOf(4, 0), 20);
        Due.is("laneDays(3, 0)", painter.laneDays(3, 0), 30);
        Due.is("totalLoss()", painter.totalLoss(), 7 * 120);
        Due.is("totalWages()", painter.totalWages(), 2 * 120);
        Due.is("idleDays(4)", painter.idleDays(4), 10);
        Due.is("shutYears(3)", painter.shutYears(3), 1);
        Due.is("busiestYear()", painter.busiestYear(), 0);
        Due.is("exchange(0, 11, 4)", painter.exchange(0, 11, 4), 0);
        painter.setWeather(0, 19);
        Due.is("overloads()", painter.overloads(), 5);
        Due.is("firstOverload()", painter.firstOverload(), 0);
        Due.is("sufficientSpeed(4)", painter.sufficientSpeed(4), 2);
        Due.is("unpaint(0, 11)", painter.unpaint(0, 11), 4);
        Due.is("bestPainting(11)", painter.bestPainting(11), Due.NOT_FOUND);
    }

    /** 12 years, but one span and one gang. */
    static void promise19To42InALongBridge() {
        SpanPainter painter = Due.bridge("bridge 12 1 0;lane l 3;span a l 10 0 50 100;gang g 1 5;");
        for (int year = 0; year < 12; year++) {
            Due.is("paint", painter.paint(year, 0, 0), 0);
        }
        Due.is("paintings()", painter.paintings(), 12);
        Due.is("paintedSpans(11)", painter.paintedSpans(11), 1);
        Due.is("totalWages()", painter.totalWages(), 5 * 120);
        Due.is("totalLoss()", painter.totalLoss(), 3 * 120);
        Due.is("idleDays(0)", painter.idleDays(0), 12 * 90);
        Due.is("shutYears(0)", painter.shutYears(0), 4095);
        Due.is("needlessPaintings(11)", painter.needlessPaintings(11), 1);
        Due.is("busiestYear()", painter.busiestYear(), 0);
        painter.unpaint(10, 0);
        Due.is("busiestYear(): the effort at 11 is 15", painter.busiestYear(), 11);
        painter.setWeather(11, 14);
        Due.is("overloads()", painter.overloads(), 1);
        Due.is("firstOverload()", painter.firstOverload(), 110);
        Due.is("sufficientSpeed(0)", painter.sufficientSpeed(0), 2);
        Due.is("firstPossible(0)", painter.firstPossible(0), 100);
        Due.is("movePainting(0, 11, 10)", painter.movePainting(0, 11, 10), 0);
        Due.is("bestPainting(0): the effort at 11 is 10", painter.bestPainting(0), 110);
        painter.setWeather(11, 9);
        Due.is("bestPainting(0)", painter.bestPainting(0), Due.NOT_FOUND);
    }

    /** "The gang that paints a span in a year; NOT_FOUND if it is not painted": the first and the last gang. */
    static void promise22GangOfTheFirstAndTheLast() {
        SpanPainter painter = Due.bridge(Bridges.largest(0, "1 1 1 99") + "paint 11 sl ge;paint 0 sa ga;paint 0 sl ge;paint 11 sa ga;");
        for (int span = 0; span < 12; span++) {
            for (int year = 0; year < 12; year++) {
                boolean corner = (span == 0 || span == 11) && (year == 0 || year == 11);
                Due.is("gangOf(" + span + ", " + year + ")", painter.gangOf(span, year),
                        !corner ? Due.NOT_FOUND : span == 0 ? 0 : 4);
            }
        }
        Due.is("paintedSpans(0)", painter.paintedSpans(0), 2049);
        Due.is("paintedSpans(11)", painter.paintedSpans(11), 2049);
        Due.is("paintedSpans(10)", painter.paintedSpans(10), 0);
    }

    /** The greatest sums that there are, and none. */
    static void promise25To31InTheLargestBridge() {
        SpanPainter painter = allPainted();
        Due.is("paintings()", painter.paintings(), 144);
        for (int lane = 0; lane < 4; lane++) {
            Due.is("laneDays(" + lane + ", 0)", painter.laneDays(lane, 0), 12);
            Due.is("laneDays(" + lane + ", 11)", painter.laneDays(lane, 11), 6);
        }
        Due.is("trafficLoss(0)", painter.trafficLoss(0), 999 * 48);
        Due.is("trafficLoss(11)", painter.trafficLoss(11), 999 * 24);
        Due.is("wages(0)", painter.wages(0), 99 * 48);
        Due.is("wages(11)", painter.wages(11), 99 * 24);
        Due.is("totalLoss()", painter.totalLoss(), 999 * (48 + 11 * 24));
        Due.is("totalWages()", painter.totalWages(), 99 * (48 + 11 * 24));
        for (int gang = 0; gang < 5; gang++) {
            painter.setSpeed(gang, 1);
        }
        Due.is("trafficLoss(0), SPEED 1", painter.trafficLoss(0), 999 * 12 * 198);
        Due.is("totalLoss(), SPEED 1", painter.totalLoss(), 999 * 12 * (198 + 11 * 99));
        Due.is("totalWages(), SPEED 1", painter.totalWages(), 99 * 12 * (198 + 11 * 99));
        Due.noIndexBeyond("daysUsed gang", 5, gang -> painter.daysUsed(gang, 11));
        Due.noIndexBeyond("daysUsed year", 12, year -> painter.daysUsed(4, year));
        Due.noIndexBeyond("laneDays lane", 4, lane -> painter.laneDays(lane, 11));
        Due.noIndexBeyond("laneDays year", 12, year -> painter.laneDays(3, year));
        Due.noIndexBeyond("trafficLoss", 12, painter::trafficLoss);
        Due.noIndexBeyond("wages", 12, painter::wages);
        SpanPainter empty = Due.bridge(Bridges.largest(0, "99 100 50 49"));
        Due.is("paintings()", empty.paintings(), 0);
        Due.is("totalLoss()", empty.totalLoss(), 0);
        Due.is("totalWages()", empty.totalWages(), 0);
        Due.is("daysUsed(4, 11)", empty.daysUsed(4, 11), 0);
        Due.is("laneDays(3, 11)", empty.laneDays(3, 11), 0);
    }

    /** "The first of several": also where no gang has a load, and where the greatest load is in the last year. */
    static void promise32BusiestYearAtTheEnds() {
        SpanPainter painter = Due.bridge(Bridges.largest(0, "1 0 1 100"));
        Due.is("no loads", painter.busiestYear(), 0);
        painter.paint(11, 0, 0);
        Due.is("the last year", painter.busiestYear(), 11);
        painter.paint(10, 11, 4);
        Due.is("the first of two", painter.busiestYear(), 10);
        painter.paint(11, 11, 4);
        Due.is("the sum of the first and the last gang", painter.busiestYear(), 11);
        Due.is("no spans", Due.bridge("bridge 3 1 1;gang g 1 1;").busiestYear(), 0);
        Due.is("no gangs", Due.bridge("bridge 3 1 1;span a none 1 1 1 1;").busiestYear(), 0);
    }

    /** "The sum of the loads of all gangs": of five gangs where there are fewer years, spans and lanes. */
    static void promise32BusiestYearOfMoreGangs() {
        String text = "bridge 3 1 0;span a none 10 0 1 9;span b none 10 0 1 9;" + Bridges.gangs("50 1");
        for (int gang = 0; gang < 5; gang++) {
            SpanPainter painter = Due.bridge(text);
            painter.paint(1, 0, gang);
            Due.is("gang " + gang + " alone", painter.busiestYear(), 1);
            painter.paint(0, 0, (gang + 1) % 5);
            Due.is("as great a load in year 0", painter.busiestYear(), 0);
            painter.paint(2, 1, gang);
            painter.paint(2, 0, (gang + 2) % 5);
            Due.is("two loads", painter.busiestYear(), 2);
        }
    }

    /** "DAYS - daysUsed(), where this is greater than 0." */
    static void promise33IdleDaysDownToNothing() {
        // 10 days are used in year 0
        String text = "bridge 1 1 0;span a none 10 0 1 9;gang g 1 1;gang h 1 1;paint 0 a g;weather 0 ";
        Due.is("11 days", Due.bridge(text + "11;").idleDays(0), 1);
        Due.is("10 days", Due.bridge(text + "10;").idleDays(0), 0);
        Due.is("9 days", Due.bridge(text + "9;").idleDays(0), 0);
        Due.is("no days", Due.bridge(text + "0;").idleDays(0), 0);
        Due.is("no days, no painting", Due.bridge(text + "0;").idleDays(1), 0);
        Due.is("a day, no painting", Due.bridge(text + "1;").idleDays(1), 1);
        SpanPainter largest = Due.bridge(Bridges.largest(0, "1 0 1 100") + Bridges.weather(200));
        Due.is("idleDays(4)", largest.idleDays(4), 2400);
        largest.paint(11, 11, 4);
        Due.is("idleDays(4)", largest.idleDays(4), 2399);
        Due.is("idleDays(0)", largest.idleDays(0), 2400);
        Due.noIndexBeyond("idleDays", 5, largest::idleDays);
    }

    /** "A load greater than the capacity": none, as great, and all the pairs of the largest bridge. */
    static void promise34And35FromNoneToAll() {
        SpanPainter painter = allPainted();
        Due.is("overloads()", painter.overloads(), 0);
        Due.is("firstOverload()", painter.firstOverload(), Due.NOT_FOUND);
        for (int year = 11; year >= 0; year--) {
            painter.setWeather(year, 0);
            Due.is("overloads()", painter.overloads(), 5 * (12 - year));
            Due.is("firstOverload()", painter.firstOverload(), 10 * year);
        }
    }

    /** "10 * year + gang ... with the smallest such number": the last gang of the last year, and others before it. */
    static void promise35FirstOverloadOfTheLast() {
        SpanPainter painter = Due.bridge(Bridges.largest(0, "10 0 1 100") + Bridges.weather(0) + "paint 11 sl ge;paint 11 sk gd;"
                + "paint 1 sa ge;");
        Due.is("firstOverload()", painter.firstOverload(), 14);
        painter.setWeather(1, 1);
        Due.is("firstOverload()", painter.firstOverload(), 113);
        painter.unpaint(11, 10);
        Due.is("firstOverload()", painter.firstOverload(), 114);
        Due.is("overloads()", painter.overloads(), 1);
        painter.setWeather(11, 1);
        Due.is("firstOverload()", painter.firstOverload(), Due.NOT_FOUND);
        Due.is("overloads()", painter.overloads(), 0);
        // a load as great as the capacity, and one greater by one
        SpanPainter tight = Due.bridge("bridge 1 1 0;span a none 50 0 2 9;gang g 5 1;weather 0 10;paint 0 a g;");
        Due.is("50 of 50", tight.overloads(), 0);
        Due.is("50 of 50", tight.firstOverload(), Due.NOT_FOUND);
        SpanPainter over = Due.bridge("bridge 1 1 0;span a none 51 0 2 9;gang g 5 1;weather 0 10;paint 0 a g;");
        Due.is("51 of 50", over.overloads(), 1);
        Due.is("51 of 50", over.firstOverload(), 0);
    }

    /** The ends of the largest bridge, and the indexes beside them. */
    static void promise36To38InTheLargestBridge() {
        SpanPainter painter = Due.bridge(Bridges.largest(0, "10 0 1 100") + Bridges.weather(0) + "closed ld 11;");
        Due.is("refusal(11, 11, 4)", painter.refusal(11, 11, 4), 2);
        Due.is("refusal(11, 10, 4)", painter.refusal(11, 10, 4), 4);
        Due.is("refusal(10, 11, 4)", painter.refusal(10, 11, 4), 4);
        Due.is("possibleGangs(11, 11)", painter.possibleGangs(11, 11), 0);
        Due.is("firstPossible(11)", painter.firstPossible(11), Due.NOT_FOUND);
        painter.setWeather(11, 1);
        Due.is("refusal(11, 10, 4)", painter.refusal(11, 10, 4), 0);
        Due.is("firstPossible(11), closed", painter.firstPossible(11), Due.NOT_FOUND);
        Due.is("firstPossible(10)", painter.firstPossible(10), 110);
        painter.setClosed(3, 11, false);
        Due.is("possibleGangs(11, 11)", painter.possibleGangs(11, 11), 31);
        Due.is("firstPossible(11)", painter.firstPossible(11), 110);
        // the effort is 10 * 111 / 100
        for (int gang = 0; gang < 4; gang++) {
            painter.setSpeed(gang, 11);
            Due.is("just enough by " + gang, painter.possibleGangs(11, 11), 31 & -1 << gang);
            painter.setSpeed(gang, 10);
            Due.is("too little by " + gang, painter.possibleGangs(11, 11), 31 & -1 << gang + 1);
            Due.is("firstPossible(11)", painter.firstPossible(11), 111 + gang);
        }
        painter.setSpeed(4, 10);
        Due.is("possibleGangs(11, 11)", painter.possibleGangs(11, 11), 0);
        Due.is("firstPossible(11)", painter.firstPossible(11), Due.NOT_FOUND);
        Due.noIndexBeyond("refusal year", 12, year -> painter.refusal(year, 11, 4));
        Due.noIndexBeyond("refusal span", 12, span -> painter.refusal(11, span, 4));
        Due.noIndexBeyond("refusal gang", 5, gang -> painter.refusal(11, 11, gang));
        Due.noIndexBeyond("possibleGangs year", 12, year -> painter.possibleGangs(year, 11));
        Due.noIndexBeyond("possibleGangs span", 12, span -> painter.possibleGangs(11, span));
        Due.noIndexBeyond("firstPossible", 12, painter::firstPossible);
    }

    /** Without gangs nothing is possible, whatever else there is. */
    static void promise36To39WithoutGangs() {
        SpanPainter painter = Due.bridge("bridge 2 1 0;lane l 1;span a l 1 1 1 1;");
        Due.noIndexBeyond("refusal gang", 0, gang -> painter.refusal(0, 0, gang));
        Due.is("possibleGangs(0, 0)", painter.possibleGangs(0, 0), 0);
        Due.is("firstPossible(0)", painter.firstPossible(0), Due.NOT_FOUND);
        Due.is("bestPainting(0)", painter.bestPainting(0), Due.NOT_FOUND);
    }

    /** "The smallest such number of several; NOT_FOUND if there is no possible painting": the first and the last one. */
    static void promise39BestPaintingAtTheEnds() {
        // all are past at 11, unless they are painted
        SpanPainter painter = Due.bridge(Bridges.largest(0, "10 0 1 11"));
        Due.is("the first of all", painter.bestPainting(11), 0);
        for (int year = 0; year < 11; year++) {
            painter.setWeather(year, 0);
        }
        Due.is("the first of the last year", painter.bestPainting(11), 110);
        painter.setWeather(11, 1);
        for (int gang = 0; gang < 4; gang++) {
            painter.setSpeed(gang, 1);
        }
        Due.is("the last of all", painter.bestPainting(11), 114);
        Due.is("the last of all", painter.bestPainting(0), 114);
        painter.setWeather(11, 0);
        Due.is("none", painter.bestPainting(11), Due.NOT_FOUND);
        // the rust is past in year 0 already: the number of past spans is the same with each painting
        SpanPainter past = Due.bridge("bridge 3 1 0;lane l 1;span a l 10 50 1 10;gang g 9 1;closed l 0;");
        Due.is("none is better, the first possible one", past.bestPainting(0), 10);
        // 12 past spans are 12 with a painting of a span that is past all the same
        SpanPainter all = Due.bridge(Bridges.largest(0, "1 100 50 1"));
        Due.is("all stay past", all.bestPainting(11), 0);
        Due.noIndexBeyond("bestPainting", 12, all::bestPainting);
    }

    /** "The possible painting of a span": its own lane, effort and paintings count, not those of other spans. */
    static void promise39BestPaintingOfTheSpanItself() {
        String start = "bridge 2 1 0;lane k 1;lane l 1;span a k 10 0 1 1;span b k 10 0 1 1;span c l 20 0 1 99;gang g 1 1;gang h 2 1;";
        Due.is("its lane is closed", Due.bridge(start + "closed l 0;").bestPainting(2), 10);
        Due.is("another lane is closed", Due.bridge(start + "closed k 0;").bestPainting(2), 0);
        Due.is("its effort is greater", Due.bridge(start + "weather 0 10;").bestPainting(2), 1);
        Due.is("it is painted already", Due.bridge(start + "paint 0 c h;").bestPainting(2), 10);
        Due.is("others are painted", Due.bridge("bridge 2 2 0;" + start.substring(13) + "paint 0 a h;paint 0 b g;").bestPainting(2), 0);
    }

    /** The first and the last lane and year, all years and none. */
    static void promise40ShutYearsInTheLargestBridge() {
        SpanPainter painter = allPainted();
        for (int lane = 0; lane < 4; lane++) {
            Due.is("shutYears(" + lane + ")", painter.shutYears(lane), 4095);
        }
        painter.unpaint(11, 3);
        painter.unpaint(11, 7);
        Due.is("shutYears(3)", painter.shutYears(3), 4095);
        painter.unpaint(11, 11);
        Due.is("shutYears(3)", painter.shutYears(3), 2047);
        Due.is("shutYears(2)", painter.shutYears(2), 4095);
        Due.noIndexBeyond("shutYears", 4, painter::shutYears);
        SpanPainter empty = Due.bridge(Bridges.largest(0, "1 1 1 1"));
        Due.is("shutYears(0)", empty.shutYears(0), 0);
        Due.is("shutYears(3)", empty.shutYears(3), 0);
    }

    /** All spans and none; the first and the last span and year. */
    static void promise41NeedlessPaintingsInTheLargestBridge() {
        // each is needed in each year: LIMIT 49, RATE 50
        SpanPainter needed = allPainted();
        Due.is("needlessPaintings(0)", needed.needlessPaintings(0), 0);
        Due.is("needlessPaintings(11)", needed.needlessPaintings(11), 0);
        needed.unpaint(5, 11);
        Due.is("past all the same", needed.needlessPaintings(11), 2048);
        Due.is("past all the same", needed.needlessPaintings(0), 2048);
        Due.is("not painted", needed.needlessPaintings(5), 0);
        needed.setRate(0, 49);
        Due.is("not past without it", needed.needlessPaintings(11), 2049);
        Due.is("not past without it, but in the first year", needed.needlessPaintings(0), 2048);
        SpanPainter needless = Due.bridge(Bridges.largest(0, "1 0 1 99"));
        Due.is("no paintings", needless.needlessPaintings(11), 0);
        for (int span = 0; span < 12; span++) {
            needless.paint(11, span, 0);
        }
        Due.is("all", needless.needlessPaintings(11), 4095);
        Due.is("none painted", needless.needlessPaintings(10), 0);
        Due.noIndexBeyond("needlessPaintings", 12, needless::needlessPaintings);
    }

    /** "The smallest SPEED of a gang, 1 to 50 ...; NOT_FOUND if there is none." */
    static void promise42SufficientSpeedAtTheEnds() {
        String text = "bridge 2 1 0;span a none 50 0 1 99;span b none 1 0 1 99;gang g 7 1;";
        Due.is("no load", Due.bridge(text).sufficientSpeed(0), 1);
        Due.is("no load, no days", Due.bridge(text + "weather 0 0;weather 1 0;").sufficientSpeed(0), 1);
        String painted = text + "paint 0 a g;";
        Due.is("50 in 50 days", Due.bridge(painted + "weather 0 50;weather 1 0;").sufficientSpeed(0), 1);
        Due.is("50 in 49 days", Due.bridge(painted + "weather 0 49;").sufficientSpeed(0), 2);
        Due.is("50 in a day", Due.bridge(painted + "weather 0 1;").sufficientSpeed(0), 50);
        Due.is("51 in a day", Due.bridge(painted + "weather 0 1;paint 0 b g;").sufficientSpeed(0), Due.NOT_FOUND);
        Due.is("50 in no days", Due.bridge(painted + "weather 0 0;").sufficientSpeed(0), Due.NOT_FOUND);
        Due.is("the last year decides", Due.bridge(painted + "paint 1 b g;weather 1 0;").sufficientSpeed(0), Due.NOT_FOUND);
        SpanPainter largest = Due.bridge(Bridges.largest(0, "45 0 1 99") + "paint 11 sl ge;weather 11 1;");
        Due.is("sufficientSpeed(4): 45 * 111 / 100 in a day", largest.sufficientSpeed(4), 49);
        Due.is("sufficientSpeed(3)", largest.sufficientSpeed(3), 1);
        Due.noIndexBeyond("sufficientSpeed", 5, largest::sufficientSpeed);
    }
}
