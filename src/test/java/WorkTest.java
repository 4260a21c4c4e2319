/** Promises 19 to 42. */
public final class WorkTest {
    /**
     * Before the years, a rusts 33 53 73 93, b 0 50 100 100, c 50 57 64 71, d 10 15 20 25 without the plan; with it
     * a 33 0 0 20, c 50 0 0 0 and d 10 0 0 5 (painted at 0, c again at 1). The efforts of the paintings are
     * a 17, d 5 and c 49 at 0, c 33 at 1, b 20 at 3.
     */
    private static final String SETTING = "bridge 4 2 1;lane n 10;lane s 3;lane w 1;span a n 13 33 20 90;"
            + "span b s 10 0 50 100;span c none 33 50 7 63;span d n 5 10 5 99;span e w 1 0 1 100;"
            + "gang red 4 5;gang blue 9 2;weather 1 20;weather 2 0;closed s 1;";
    private static final String BRIDGE = SETTING + "paint 0 a red;paint 3 b blue;paint 0 c blue;paint 0 d red;paint 1 c red;";

    public static void main(String[] arguments) throws Exception {
        Due.runAll(WorkTest.class);
    }

    static void promise19Effort() {
        SpanPainter bare = Due.bridge(SETTING);
        int[][] due = {{17, 19, 22, 25}, {10, 15, 20, 20}, {49, 51, 54, 56}, {5, 5, 6, 6}, {1, 1, 1, 1}};
        for (int span = 0; span < 5; span++) {
            for (int year = 0; year < 4; year++) {
                Due.is("effort(" + span + ", " + year + ")", bare.effort(span, year), due[span][year]);
            }
        }
        SpanPainter painter = Due.bridge(BRIDGE);
        Due.is("effort(0, 0)", painter.effort(0, 0), 17);
        Due.is("effort(0, 2)", painter.effort(0, 2), 13);
        Due.is("effort(0, 3)", painter.effort(0, 3), 15);
        Due.is("effort(2, 1)", painter.effort(2, 1), 33);
        Due.noIndexBeyond("effort span", 5, span -> painter.effort(span, 0));
        Due.noIndexBeyond("effort year", 4, year -> painter.effort(0, year));
    }

    static void promise20Capacity() {
        SpanPainter painter = Due.bridge(BRIDGE);
        int[][] due = {{400, 80, 0, 400}, {900, 180, 0, 900}};
        for (int gang = 0; gang < 2; gang++) {
            for (int year = 0; year < 4; year++) {
                Due.is("capacity(" + gang + ", " + year + ")", painter.capacity(gang, year), due[gang][year]);
            }
        }
        Due.noIndexBeyond("capacity gang", 2, gang -> painter.capacity(gang, 0));
        Due.noIndexBeyond("capacity year", 4, year -> painter.capacity(0, year));
    }

    static void promise21LoadOf() {
        SpanPainter painter = Due.bridge(BRIDGE);
        int[][] due = {{22, 33, 0, 0}, {49, 0, 0, 20}};
        for (int gang = 0; gang < 2; gang++) {
            for (int year = 0; year < 4; year++) {
                Due.is("loadOf(" + gang + ", " + year + ")", painter.loadOf(gang, year), due[gang][year]);
            }
        }
        Due.noIndexBeyond("loadOf gang", 2, gang -> painter.loadOf(gang, 0));
        Due.noIndexBeyond("loadOf year", 4, year -> painter.loadOf(0, year));
    }

    static void promise22GangOf() {
        SpanPainter painter = Due.bridge(BRIDGE);
        Due.is("gangOf(0, 0)", painter.gangOf(0, 0), 0);
        Due.is("gangOf(2, 0)", painter.gangOf(2, 0), 1);
        Due.is("gangOf(2, 1)", painter.gangOf(2, 1), 0);
        Due.is("gangOf(2, 2)", painter.gangOf(2, 2), Due.NOT_FOUND);
        Due.is("gangOf(1, 3)", painter.gangOf(1, 3), 1);
        Due.noIndexBeyond("gangOf span", 5, span -> painter.gangOf(span, 0));
        Due.noIndexBeyond("gangOf year", 4, year -> painter.gangOf(0, year));
    }

    static void promise23PaintedSpans() {
        SpanPainter painter = Due.bridge(BRIDGE);
        int[] due = {13, 4, 0, 2};
        for (int year = 0; year < 4; year++) {
            Due.is("paintedSpans(" + year + ")", painter.paintedSpans(year), due[year]);
        }
        Due.noIndexBeyond("paintedSpans", 4, painter::paintedSpans);
    }

    static void promise24LanesShut() {
        SpanPainter painter = Due.bridge(BRIDGE + "paint 3 e red;paint 3 a red;");
        int[] due = {1, 0, 0, 7};
        for (int year = 0; year < 4; year++) {
            Due.is("lanesShut(" + year + ")", painter.lanesShut(year), due[year]);
        }
        Due.noIndexBeyond("lanesShut", 4, painter::lanesShut);
    }

    static void promise25Paintings() {
        Due.is("paintings()", Due.bridge(SETTING).paintings(), 0);
        Due.is("paintings()", Due.bridge(BRIDGE).paintings(), 5);
    }

    static void promise26DaysUsed() {
        SpanPainter painter = Due.bridge(BRIDGE);
        // 17 and 5 of effort at a speed of 4 take 5 and 2 days
        int[][] due = {{7, 9, 0, 0}, {6, 0, 0, 3}};
        for (int gang = 0; gang < 2; gang++) {
            for (int year = 0; year < 4; year++) {
                Due.is("daysUsed(" + gang + ", " + year + ")", painter.daysUsed(gang, year), due[gang][year]);
            }
        }
        Due.is("an effort that the speed divides", Due.bridge("span a none 8 0 1 9;gang g 4 1;paint 0 a g;").daysUsed(0, 0), 2);
        Due.noIndexBeyond("daysUsed gang", 2, gang -> painter.daysUsed(gang, 0));
        Due.noIndexBeyond("daysUsed year", 4, year -> painter.daysUsed(0, year));
    }

    static void promise27LaneDays() {
        SpanPainter painter = Due.bridge(BRIDGE);
        int[][] due = {{7, 0, 0, 0}, {0, 0, 0, 3}, {0, 0, 0, 0}};
        for (int lane = 0; lane < 3; lane++) {
            for (int year = 0; year < 4; year++) {
                Due.is("laneDays(" + lane + ", " + year + ")", painter.laneDays(lane, year), due[lane][year]);
            }
        }
        Due.noIndexBeyond("laneDays lane", 3, lane -> painter.laneDays(lane, 0));
        Due.noIndexBeyond("laneDays year", 4, year -> painter.laneDays(0, year));
        SpanPainter two = Due.bridge("lane n 1;span a n 8 0 1 9;span b n 9 0 1 9;gang g 4 1;gang h 2 1;paint 0 a g;paint 0 b h;");
        Due.is("two gangs on a lane", two.laneDays(0, 0), 2 + 5);
    }

    static void promise28TrafficLoss() {
        SpanPainter painter = Due.bridge(BRIDGE + "paint 0 b red;");
        // lane n 7 days, lane s 3 days; span c, without a lane, costs nothing
        Due.is("trafficLoss(0)", painter.trafficLoss(0), 10 * 7 + 3 * 3);
        Due.is("trafficLoss(1)", painter.trafficLoss(1), 0);
        Due.is("trafficLoss(3)", painter.trafficLoss(3), 3 * 2);
        Due.noIndexBeyond("trafficLoss", 4, painter::trafficLoss);
    }

    static void promise29Wages() {
        SpanPainter painter = Due.bridge(BRIDGE);
        int[] due = {5 * 7 + 2 * 6, 5 * 9, 0, 2 * 3};
        for (int year = 0; year < 4; year++) {
            Due.is("wages(" + year + ")", painter.wages(year), due[year]);
        }
        Due.noIndexBeyond("wages", 4, painter::wages);
    }

    static void promise30TotalWages() {
        Due.is("totalWages()", Due.bridge(BRIDGE).totalWages(), 47 + 45 + 6);
        Due.is("totalWages()", Due.bridge(SETTING).totalWages(), 0);
    }

    static void promise31TotalLoss() {
        Due.is("totalLoss()", Due.bridge(BRIDGE).totalLoss(), 70 + 9);
        Due.is("totalLoss()", Due.bridge(SETTING).totalLoss(), 0);
    }

    static void promise32BusiestYear() {
        Due.is("busiestYear()", Due.bridge(BRIDGE).busiestYear(), 0);
        Due.is("without paintings", Due.bridge(SETTING).busiestYear(), 0);
        Due.is("the sum of gangs", Due.bridge("span a none 8 0 1 100;span b none 7 0 1 100;span c none 9 0 1 100;gang g 1 1;"
                + "gang h 1 1;paint 1 c g;paint 2 a g;paint 2 b h;").busiestYear(), 2);
        Due.is("the first of several", Due.bridge("span a none 8 0 1 100;span b none 8 0 1 100;gang g 1 1;gang h 1 1;"
                + "paint 1 a g;paint 3 b h;").busiestYear(), 1);
        // more days, but less effort: the gang is slower
        Due.is("efforts count, not days", Due.bridge("span a none 8 0 1 100;span b none 9 0 1 100;gang g 1 1;gang h 9 1;"
                + "paint 1 a g;paint 2 b h;").busiestYear(), 2);
    }

    static void promise33IdleDays() {
        SpanPainter painter = Due.bridge(BRIDGE);
        Due.is("idleDays(0)", painter.idleDays(0), 93 + 11 + 0 + 100);
        Due.is("idleDays(1)", painter.idleDays(1), 94 + 20 + 0 + 97);
        painter.setWeather(0, 6);
        Due.is("idleDays(0) with a year of too few days", painter.idleDays(0), 11 + 100);
        Due.is("idleDays(1) with a year of just enough days", painter.idleDays(1), 20 + 97);
        Due.noIndexBeyond("idleDays", 2, painter::idleDays);
    }

    static void promise34Overloads() {
        SpanPainter painter = Due.bridge(BRIDGE);
        Due.is("overloads()", painter.overloads(), 0);
        painter.setSpeed(0, 1);
        Due.is("the load 33 and 20 days of speed 1", painter.overloads(), 1);
        painter.setWeather(0, 22);
        Due.is("a load as great as the capacity", painter.overloads(), 1);
        painter.setWeather(0, 21);
        Due.is("a load greater than the capacity", painter.overloads(), 2);
        painter.setWeather(0, 5);
        Due.is("both gangs", painter.overloads(), 3);
        painter.setWeather(3, 2);
        Due.is("another year", painter.overloads(), 4);
    }

    static void promise35FirstOverload() {
        SpanPainter painter = Due.bridge(BRIDGE);
        Due.is("firstOverload()", painter.firstOverload(), Due.NOT_FOUND);
        painter.setWeather(3, 2);
        Due.is("firstOverload()", painter.firstOverload(), 31);
        painter.setSpeed(0, 1);
        Due.is("firstOverload()", painter.firstOverload(), 10);
        painter.setWeather(0, 5);
        Due.is("firstOverload()", painter.firstOverload(), 0);
        painter.setSpeed(0, 50);
        Due.is("firstOverload()", painter.firstOverload(), 1);
    }

    static void promise36Refusal() {
        SpanPainter painter = Due.bridge(BRIDGE);
        Due.is("painted", painter.refusal(0, 0, 1), 1);
        Due.is("its lane is shut already", painter.refusal(3, 1, 0), 1);
        Due.is("closed", painter.refusal(1, 1, 0), 2);
        Due.is("closed in another year", painter.refusal(0, 1, 0), 0);
        Due.is("another lane of that year", painter.refusal(1, 4, 0), 0);
        Due.is("no days", painter.refusal(2, 4, 0), 4);
        painter.paint(0, 1, 0);
        Due.is("a third lane", painter.refusal(0, 4, 0), 3);
        painter.unpaint(0, 3);
        Due.is("a lane that is shut already", painter.refusal(0, 3, 0), 0);
        painter.setClosed(2, 0, true);
        Due.is("closed before lanes", painter.refusal(0, 4, 0), 2);
        painter.setClosed(0, 0, true);
        Due.is("painted before closed", painter.refusal(0, 0, 0), 1);
        painter.setClosed(0, 0, false);
        painter.setShut(1);
        Due.is("too many lanes are shut already", painter.refusal(0, 3, 0), 3);
        painter.setWeather(0, 0);
        Due.is("lanes before load", painter.refusal(0, 3, 0), 3);
        Due.noIndexBeyond("refusal year", 4, year -> painter.refusal(year, 0, 0));
        Due.noIndexBeyond("refusal span", 5, span -> painter.refusal(0, span, 0));
        Due.noIndexBeyond("refusal gang", 2, gang -> painter.refusal(0, 0, gang));
    }

    static void promise36RefusalForLoad() {
        // efforts 12 and 8 at 0, 13 and 9 at 1
        SpanPainter painter = Due.bridge("bridge 3 1 0;span a none 10 20 10 99;span b none 8 10 10 99;gang g 1 1;gang h 2 1;"
                + "weather 0 20;weather 1 12;");
        Due.is("enough", painter.refusal(0, 0, 0), 0);
        painter.paint(0, 0, 0);
        Due.is("just enough for both", painter.refusal(0, 1, 0), 0);
        painter.setWeather(0, 19);
        Due.is("too little for both", painter.refusal(0, 1, 0), 4);
        Due.is("the other gang", painter.refusal(0, 1, 1), 0);
        painter.setWeather(1, 9);
        Due.is("a painted before: 10 of effort", painter.refusal(1, 0, 0), 4);
        Due.is("b at 1", painter.refusal(1, 1, 0), 0);
        painter.setWeather(1, 10);
        Due.is("a painted before: 10 of effort", painter.refusal(1, 0, 0), 0);
    }

    static void promise36SpanWithoutLane() {
        SpanPainter painter = Due.bridge("lane l 1;lane m 1;span a l 1 1 1 9;span b m 1 1 1 9;span c none 1 1 1 9;gang g 9 9;"
                + "paint 0 a g;paint 0 b g;closed l 0;closed m 0;");
        painter.setShut(1);
        Due.is("neither closed nor one lane too many", painter.refusal(0, 2, 0), 0);
        painter.setWeather(0, 0);
        Due.is("but no days", painter.refusal(0, 2, 0), 4);
    }

    static void promise37PossibleGangs() {
        SpanPainter painter = Due.bridge("bridge 2 1 0;lane l 1;span a l 10 20 10 99;span b none 8 10 10 99;gang g 1 1;"
                + "gang h 2 1;gang i 1 1;gang j 3 1;weather 0 6;closed l 1;");
        Due.is("possibleGangs(0, 0)", painter.possibleGangs(0, 0), 2 + 8);
        Due.is("possibleGangs(0, 1)", painter.possibleGangs(0, 1), 2 + 8);
        Due.is("possibleGangs(1, 1)", painter.possibleGangs(1, 1), 15);
        Due.is("possibleGangs(1, 0)", painter.possibleGangs(1, 0), 0);
        painter.paint(0, 1, 1);
        Due.is("possibleGangs(0, 0)", painter.possibleGangs(0, 0), 8);
        Due.is("possibleGangs(0, 1)", painter.possibleGangs(0, 1), 0);
        Due.noIndexBeyond("possibleGangs year", 2, year -> painter.possibleGangs(year, 0));
        Due.noIndexBeyond("possibleGangs span", 2, span -> painter.possibleGangs(0, span));
    }

    static void promise38FirstPossible() {
        SpanPainter painter = Due.bridge("bridge 12 1 0;span a none 10 20 10 99;gang g 1 1;gang h 2 1;weather 0 5;weather 1 11;");
        Due.is("firstPossible(0)", painter.firstPossible(0), 11);
        painter.setWeather(0, 12);
        Due.is("firstPossible(0)", painter.firstPossible(0), 0);
        for (int year = 0; year < 11; year++) {
            painter.setWeather(year, 0);
        }
        Due.is("firstPossible(0)", painter.firstPossible(0), 110);
        painter.setWeather(11, 0);
        Due.is("firstPossible(0)", painter.firstPossible(0), Due.NOT_FOUND);
        Due.noIndexBeyond("firstPossible", 1, painter::firstPossible);
        Due.is("no gangs", Due.bridge("span a none 1 1 1 1;").firstPossible(0), Due.NOT_FOUND);
    }

    static void promise39BestPainting() {
        // painted at 0: 0 30 60 90; at 1: 30 0 30 60; at 2: 30 60 0 30; at 3: 30 60 90 0
        SpanPainter painter = Due.bridge("bridge 4 1 0;span a none 10 0 30 60;span b none 1 0 1 50;gang g 50 1;gang h 50 1;");
        Due.is("bestPainting(0)", painter.bestPainting(0), 10);
        Due.is("bestPainting(1): none changes anything", painter.bestPainting(1), 0);
        Due.is("nothing has changed", painter.paintings(), 0);
        Due.is("nothing has changed", painter.pastYear(0), 2);
        painter.setWeather(1, 0);
        Due.is("bestPainting(0)", painter.bestPainting(0), 20);
        painter.setSpeed(0, 1);
        painter.setWeather(2, 8);
        Due.is("bestPainting(0) by the second gang", painter.bestPainting(0), 21);
        painter.setWeather(2, 0);
        Due.is("bestPainting(0) where none is enough", painter.bestPainting(0), 0);
        painter.setWeather(0, 0);
        painter.setWeather(3, 0);
        Due.is("bestPainting(0)", painter.bestPainting(0), Due.NOT_FOUND);
        Due.noIndexBeyond("bestPainting", 2, painter::bestPainting);
    }

    static void promise40ShutYears() {
        SpanPainter painter = Due.bridge(BRIDGE + "paint 2 a blue;paint 2 e red;");
        Due.is("shutYears(0)", painter.shutYears(0), 1 + 4);
        Due.is("shutYears(1)", painter.shutYears(1), 8);
        Due.is("shutYears(2)", painter.shutYears(2), 4);
        Due.noIndexBeyond("shutYears", 3, painter::shutYears);
    }

    static void promise41NeedlessPaintings() {
        // a is past without its painting; b never; c is past all the same; d is painted twice, once is enough
        SpanPainter painter = Due.bridge("bridge 3 1 9;span a none 1 0 30 60;span b none 1 0 1 99;span c none 1 50 30 60;"
                + "span d none 1 0 30 60;gang g 50 1;paint 1 a g;paint 1 b g;paint 1 c g;paint 1 d g;paint 2 d g;");
        Due.is("needlessPaintings(0)", painter.needlessPaintings(0), 0);
        Due.is("needlessPaintings(1)", painter.needlessPaintings(1), 2 + 4 + 8);
        Due.is("needlessPaintings(2)", painter.needlessPaintings(2), 8);
        Due.text("nothing has changed", Due.plan(painter), "1:0/0;1:1/0;1:2/0;1:3/0;2:3/0;");
        Due.is("nothing has changed", painter.pastCount(), 1);
        Due.noIndexBeyond("needlessPaintings", 3, painter::needlessPaintings);
    }

    static void promise42SufficientSpeed() {
        SpanPainter painter = Due.bridge("bridge 3 1 9;span a none 99 1 1 99;span b none 99 1 1 99;gang g 1 1;gang h 1 1;"
                + "gang i 7 1;weather 0 33;weather 1 4;weather 2 2;paint 0 a g;paint 1 b g;paint 2 a h;");
        // the loads of g: 99 in 33 days, 100 in 4 days; of h: 99 in 2 days
        Due.is("sufficientSpeed(0)", painter.sufficientSpeed(0), 25);
        Due.is("sufficientSpeed(1)", painter.sufficientSpeed(1), 50);
        Due.is("sufficientSpeed(2)", painter.sufficientSpeed(2), 1);
        Due.is("SPEED is as before", painter.capacity(2, 0), 231);
        painter.setWeather(2, 1);
        Due.is("sufficientSpeed(1)", painter.sufficientSpeed(1), Due.NOT_FOUND);
        painter.setWeather(1, 0);
        Due.is("sufficientSpeed(0)", painter.sufficientSpeed(0), Due.NOT_FOUND);
        Due.noIndexBeyond("sufficientSpeed", 3, painter::sufficientSpeed);
    }
}
