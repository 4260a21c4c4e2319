/** Promises 55 to 63: searches and other settings, which change nothing. */
public final class SearchTest {
    /**
     * All spans are past at 0, efforts 10, 10, 45 and 3, capacities 10, 10 and 50. Automatic: a by g, b by h, c and d
     * by i. Without g or h, b is painted by i, and c is past; without i, c and d are past.
     */
    private static final String GANGS = "bridge 1 1 1;span a none 10 0 30 20;span b none 10 0 30 20;span c none 45 0 30 20;"
            + "span d none 3 0 30 20;gang g 1 1;gang h 1 1;gang i 5 1;weather 0 10;";

    public static void main(String[] arguments) throws Exception {
        Due.runAll(SearchTest.class);
    }

    /** Makes all calls that must not change anything, and looks whether they have. */
    private static void changesNothing(String text) {
        SpanPainter painter = Due.bridge(text);
        String before = story(painter);
        painter.hasSafePlan();
        painter.searchTries();
        painter.autoPast();
        painter.criticalGang();
        painter.worstYear();
        painter.smallestShut();
        painter.fewestGangs();
        painter.extraDays();
        Due.text("all answers behind the searches", story(painter), before);
        Due.is("undo()", painter.undo(), Due.NOT_FOUND);
    }

    private static String story(SpanPainter painter) {
        StringBuilder told = new StringBuilder(Due.plan(painter));
        for (int year = 0; year < 3; year++) {
            told.append(' ').append(painter.pastSpans(year)).append(' ').append(painter.averageRust(year));
            for (int gang = 0; gang < 2; gang++) {
                told.append(' ').append(painter.capacity(gang, year)).append(' ').append(painter.loadOf(gang, year));
                for (int span = 0; span < 3; span++) {
                    told.append(' ').append(painter.refusal(year, span, gang));
                }
            }
        }
        return told.toString();
    }

    static void promise55To63ChangeNothing() {
        changesNothing("bridge 3 1 1;lane l 1;lane m 1;span a l 10 40 30 90;span b m 10 50 30 90;span c none 9 9 9 9;"
                + "gang g 1 1;gang h 2 1;weather 1 15;weather 2 195;closed l 0;paint 1 b h;paint 2 b g;paint 0 a g;");
    }

    static void promise55HasSafePlan() {
        Due.is("no spans", new SpanPainter().hasSafePlan(), 1);
        Due.is("no endangered spans", Due.bridge("span a none 1 1 1 9;").hasSafePlan(), 1);
        Due.is("no gangs", Due.bridge("span a none 1 1 2 9;").hasSafePlan(), 0);
        Due.is("one gang", Due.bridge("span a none 1 1 2 16;gang g 1 1;").hasSafePlan(), 1);
        Due.is("two coats needed", Due.bridge("bridge 9 1 1;span a none 10 0 30 60;gang g 1 1;").hasSafePlan(), 0);
        // the plan of the text does not matter
        Due.is("painted", Due.bridge("bridge 1 1 1;span a none 1 1 2 1;gang g 1 1;paint 0 a g;").hasSafePlan(), 1);
        // both spans are past at 0, the gang has days for one
        String two = "bridge 2 1 9;lane l 1;lane m 1;span a l 9 0 9 1;span b m 9 0 9 1;gang g 1 1;";
        Due.is("one lane too many", Due.bridge(two).hasSafePlan(), 0);
        Due.is("enough days", Due.bridge("bridge 2 2 9;" + two.substring(13) + "weather 0 18;").hasSafePlan(), 1);
        Due.is("too few days", Due.bridge("bridge 2 2 9;" + two.substring(13) + "weather 0 17;").hasSafePlan(), 0);
        Due.is("closed", Due.bridge("bridge 2 2 9;" + two.substring(13) + "closed m 0;").hasSafePlan(), 0);
    }

    static void promise55SearchGoesBack() {
        // b (past at 0) can only be painted at 0, a (past at 1) at 0 or 1; at 1 the days are too few
        String text = "bridge 2 1 9;span a none 10 0 10 19;span b none 10 0 20 19;gang g 1 1;gang h 2 1;weather 1 0;";
        SpanPainter first = Due.bridge(text + "weather 0 10;");
        Due.is("applySafePlan()", first.applySafePlan(), 2);
        Due.text("the plan", Due.plan(first), "0:0/1;0:1/0;");
        // b can only be painted at 0, where the days are too few for both, so a goes to 1
        SpanPainter second = Due.bridge("bridge 2 1 9;lane l 1;span a none 10 0 10 19;span b l 10 0 10 19;gang g 1 1;"
                + "weather 0 10;closed l 1;");
        Due.is("searchTries()", second.searchTries(), 5);
        Due.is("applySafePlan()", second.applySafePlan(), 2);
        Due.text("the plan", Due.plan(second), "0:1/0;1:0/0;");
        // order a b: a by g leaves too little for b, whom h cannot take
        SpanPainter third = Due.bridge("bridge 1 1 9;span a none 10 0 9 1;span b none 15 0 9 1;gang g 2 1;gang h 1 1;weather 0 10;");
        Due.is("searchTries()", third.searchTries(), 5);
        Due.is("applySafePlan()", third.applySafePlan(), 2);
        Due.text("the plan", Due.plan(third), "0:0/1;0:1/0;");
    }

    /**
     * One gang, so that a span that is past at y has y + 1 tries; all are taken but those of the last span, the lane
     * of which is always closed: the tries are the sum of the products of the first numbers.
     */
    private static SpanPainter hopeless(int... firstYears) {
        StringBuilder text = new StringBuilder("bridge 10 1 10;lane l 1;gang g 9 1;");
        for (int year = 0; year < 10; year++) {
            text.append("closed l ").append(year).append(';');
        }
        for (int span = 0; span < firstYears.length; span++) {
            text.append("span s").append((char) ('a' + span)).append(span == firstYears.length - 1 ? " l " : " none ")
                    .append("1 ").append(90 - 10 * firstYears[span]).append(" 10 99;");
        }
        return Due.bridge(text.toString());
    }

    static void promise55And56Limits() {
        SpanPainter all = hopeless(1, 8, 9, 9, 9);
        Due.is("2 + 18 + 180 + 1800 + 18000 tries", all.searchTries(), 20000);
        Due.is("all tries are made", all.hasSafePlan(), 0);
        Due.is("applySafePlan()", all.applySafePlan(), Due.NOT_FOUND);
        SpanPainter more = hopeless(2, 5, 9, 9, 9);
        Due.is("3 + 18 + 180 + 1800 + 18000 tries", more.searchTries(), 20000);
        Due.is("given up", more.hasSafePlan(), Due.GIVEN_UP);
        Due.is("applySafePlan()", more.applySafePlan(), Due.GIVEN_UP);
        Due.is("undo()", more.undo(), Due.NOT_FOUND);
        Due.is("nothing has changed", more.paintings(), 0);
        Due.is("many more", hopeless(9, 9, 9, 9, 9, 9, 9, 9, 9, 9, 9, 9).hasSafePlan(), Due.GIVEN_UP);
    }

    static void promise56SearchTries() {
        Due.is("no spans", new SpanPainter().searchTries(), 0);
        Due.is("no gangs", Due.bridge("span a none 1 1 2 9;").searchTries(), 0);
        // past at 7: years 0 to 7, two gangs, all tries
        String one = "lane l 1;span a l 1 0 2 15;gang g 1 1;gang h 1 1;";
        Due.is("found at once", Due.bridge(one).searchTries(), 1);
        Due.is("found at 1", Due.bridge(one + "weather 0 0;").searchTries(), 3);
        Due.is("found at 7 by h", Due.bridge("lane l 1;span a l 2 0 2 15;gang g 1 1;gang h 2 1;weather 0 0;weather 1 0;"
                + "weather 2 0;weather 3 0;weather 4 0;weather 5 0;weather 6 0;weather 7 1;").searchTries(), 16);
        StringBuilder closed = new StringBuilder(one);
        for (int year = 0; year < 8; year++) {
            closed.append("closed l ").append(year).append(';');
        }
        Due.is("not found", Due.bridge(closed.toString()).searchTries(), 16);
        // painted too early it is past again: 0 guarded 30 60 90
        Due.is("past with this painting alone", Due.bridge("bridge 5 1 1;span a none 1 0 30 60;gang g 1 1;").searchTries(), 2);
        // in the order of years a (number 1) comes before b (number 0)
        Due.is("in order", Due.bridge("bridge 3 1 9;lane l 1;lane m 1;span b l 9 0 9 26;span a m 9 0 9 9;gang g 1 1;closed l 0;"
                + "closed l 1;").searchTries(), 1 + 3);
    }

    static void promise57AutoPast() {
        Due.is("no spans", new SpanPainter().autoPast(), 0);
        Due.is("autoPast()", Due.bridge(GANGS).autoPast(), 0);
        Due.is("the current plan does not matter", Due.bridge(GANGS + "paint 0 a i;").autoPast(), 0);
        // g and h cannot paint a and b any more, so i has not enough left for c
        Due.is("too few days", Due.bridge(GANGS + "weather 0 9;").autoPast(), 1);
        Due.is("no days", Due.bridge(GANGS + "weather 0 0;").autoPast(), 4);
    }

    static void promise58AutoPastWithout() {
        SpanPainter painter = Due.bridge(GANGS);
        Due.is("autoPastWithout(0)", painter.autoPastWithout(0), 1);
        Due.is("autoPastWithout(1)", painter.autoPastWithout(1), 1);
        Due.is("autoPastWithout(2)", painter.autoPastWithout(2), 2);
        Due.noIndexBeyond("autoPastWithout", 3, painter::autoPastWithout);
        Due.is("undo()", painter.undo(), Due.NOT_FOUND);
    }

    static void promise59CriticalGang() {
        Due.is("criticalGang()", Due.bridge(GANGS).criticalGang(), 2);
        Due.is("the first of several", Due.bridge(GANGS + "weather 0 0;").criticalGang(), 0);
        Due.is("no gangs", new SpanPainter().criticalGang(), Due.NOT_FOUND);
        Due.is("the second", Due.bridge("bridge 1 1 1;span a none 10 0 9 1;gang g 1 1;gang h 2 1;gang i 1 1;weather 0 5;")
                .criticalGang(), 1);
    }

    static void promise60WorstYear() {
        // a must be painted at 0, b and c at 2
        String text = "bridge 4 1 9;lane l 1;span a none 10 0 30 20;span b l 5 0 10 39;span c l 5 0 10 39;gang g 1 1;"
                + "closed l 0;closed l 1;closed l 3;";
        Due.is("worstYear()", Due.bridge(text).worstYear(), 2);
        Due.is("as many at 0", Due.bridge(text + "span d none 10 0 30 20;").worstYear(), 0);
        Due.is("c is past in any case", Due.bridge(text + "weather 2 9;").worstYear(), 0);
        Due.is("no spans", new SpanPainter().worstYear(), 0);
        Due.is("the last year", Due.bridge("bridge 3 1 9;lane l 1;span a l 5 0 10 29;gang g 1 1;closed l 0;closed l 1;")
                .worstYear(), 2);
    }

    static void promise61SmallestShut() {
        String text = "bridge 1 1 9;lane k 1;lane l 1;lane m 1;lane n 1;span a k 9 0 9 1;span b l 9 0 9 1;span c none 9 0 9 1;"
                + "gang g 9 1;";
        Due.is("two lanes", Due.bridge(text).smallestShut(), 2);
        Due.is("three lanes", Due.bridge(text + "span d m 9 0 9 1;span e m 9 0 9 1;").smallestShut(), 3);
        SpanPainter four = Due.bridge(text + "span d m 9 0 9 1;span e n 9 0 9 1;");
        Due.is("four lanes", four.smallestShut(), 4);
        Due.is("SHUT is as before", four.setShut(1), Due.UNCHANGED);
        Due.is("closed", Due.bridge(text + "closed k 0;").smallestShut(), Due.NOT_FOUND);
        Due.is("no spans", new SpanPainter().smallestShut(), 1);
    }

    static void promise62FewestGangs() {
        Due.is("all", Due.bridge(GANGS).fewestGangs(), 7);
        SpanPainter strong = Due.bridge(GANGS);
        strong.setSpeed(2, 7);
        Due.is("the third alone", strong.fewestGangs(), 4);
        strong.setSpeed(0, 50);
        strong.setSpeed(1, 50);
        Due.is("the smallest number of several", strong.fewestGangs(), 1);
        strong.setWeather(0, 0);
        Due.is("none can do anything", strong.fewestGangs(), 0);
        // two of three are enough, and only a and c of them: 10 and 20 of effort
        Due.is("two", Due.bridge("bridge 1 1 1;span a none 20 0 9 1;span b none 10 0 9 1;gang g 1 1;gang h 1 1;gang i 2 1;"
                + "weather 0 10;").fewestGangs(), 5);
        // c is past anyway, a and b need a gang each
        Due.is("past in any case", Due.bridge("bridge 1 1 1;span a none 10 0 9 1;span b none 10 0 9 1;span c none 99 0 9 1;"
                + "gang g 1 1;gang h 1 1;gang i 1 1;weather 0 10;weather 0 5;weather 0 10;").fewestGangs(), 3);
        Due.is("no gangs", new SpanPainter().fewestGangs(), 0);
    }

    static void promise63ExtraDays() {
        String text = "bridge 2 1 9;span a none 10 0 30 20;gang g 1 1;";
        Due.is("none", Due.bridge(text).extraDays(), 0);
        Due.is("just enough", Due.bridge(text + "weather 0 10;").extraDays(), 0);
        Due.is("6 more", Due.bridge(text + "weather 0 4;").extraDays(), 6);
        Due.is("in the year of the need", Due.bridge(text + "weather 1 4;").extraDays(), 0);
        String two = "bridge 1 1 9;span a none 99 0 30 20;gang g 1 1;weather 0 0;";
        SpanPainter most = Due.bridge(two + "span b none 1 0 30 20;");
        Due.is("100 more", most.extraDays(), 100);
        Due.is("DAYS are as before", most.setWeather(0, 0), Due.UNCHANGED);
        Due.is("101 more", Due.bridge(two + "span b none 2 0 30 20;").extraDays(), Due.NOT_FOUND);
        Due.is("50 more are 200", Due.bridge(two + "weather 0 150;span b none 99 0 30 20;span c none 2 0 30 20;").extraDays(), 50);
        Due.is("at most 200", Due.bridge(two + "weather 0 150;span b none 99 0 30 20;span c none 3 0 30 20;").extraDays(),
                Due.NOT_FOUND);
        // 200 at 0 already, the other year needs 3 more
        Due.is("where one year has 200", Due.bridge("bridge 2 1 9;lane l 1;lane m 1;span a l 10 0 30 20;span b m 10 0 30 59;"
                + "gang g 1 1;weather 0 200;weather 1 10;closed m 0;").extraDays(), 3);
        Due.is("no spans", new SpanPainter().extraDays(), 0);
    }

    static void promise60To63InTheLargestBridge() {
        StringBuilder text = new StringBuilder("bridge 12 4 0;lane la 1;lane lb 1;lane lc 1;lane ld 1;span sa lc 10 0 1 11;");
        for (int span = 1; span < 11; span++) {
            text.append("span s").append((char) ('a' + span)).append(" none 10 0 1 99;");
        }
        text.append("span sl ld 10 0 1 11;gang ga 1 1;gang gb 1 1;gang gc 1 1;gang gd 1 1;gang ge 2 1;");
        // the first and the last span are past at 11; before 11 there are no days
        for (int year = 0; year < 11; year++) {
            text.append("weather ").append(year).append(" 0;");
        }
        SpanPainter painter = Due.bridge(text + "weather 11 6;");
        // 11 of effort each, and only the last gang has 12 of capacity
        Due.is("autoPast()", painter.autoPast(), 1);
        Due.is("worstYear()", painter.worstYear(), 11);
        Due.is("extraDays(): 10 of capacity at 9, 11 at 11", painter.extraDays(), 5);
        Due.is("criticalGang()", painter.criticalGang(), 4);
        Due.is("fewestGangs()", painter.fewestGangs(), 16);
        Due.is("smallestShut()", painter.smallestShut(), Due.NOT_FOUND);
        painter.setWeather(11, 11);
        Due.is("smallestShut()", painter.smallestShut(), 2);
        Due.is("fewestGangs(): 22 of capacity", painter.fewestGangs(), 16);
        painter.setClosed(3, 11, true);
        Due.is("smallestShut()", painter.smallestShut(), Due.NOT_FOUND);
        // at 9 the last gang takes the first span (10 of effort), at 10 the last span (11)
        Due.is("extraDays()", painter.extraDays(), 6);
        painter.setClosed(3, 11, false);
        painter.setSpeed(4, 1);
        Due.is("fewestGangs(): a gang each", painter.fewestGangs(), 3);
    }
}
