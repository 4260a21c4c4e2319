/** The boundary cases of the sections AUTOMATIC PLAN and SAFE PLAN and of promises 55 to 65. */
public final class SearchBoundsTest {
    public static void main(String[] arguments) throws Exception {
        Due.runAll(SearchBoundsTest.class);
    }

    private static void automatic(String text, String plan) {
        SpanPainter painter = Due.bridge(text);
        painter.autoPlan();
        Due.text("the automatic plan of " + text, Due.plan(painter), plan);
        Due.is("autoPast() of " + text, Due.bridge(text).autoPast(), painter.pastCount());
    }

    /** The numbers AREA RUST RATE LIMIT of a span that is past in a year (0 to 11) and the years behind it. */
    private static String pastAt(int area, int year) {
        return area + " " + (50 - year) + " 1 50;";
    }

    private static String closed(String lane, int from, int to) {
        StringBuilder text = new StringBuilder();
        for (int year = from; year <= to; year++) {
            text.append("closed ").append(lane).append(' ').append(year).append(';');
        }
        return text.toString();
    }

    // ---- what it is

    /** "An object is used for at most 512 calls": the dearest ones end, and the 512th answers as the first one did. */
    static void sectionWhatItIsOf512Calls() {
        String text = Bridges.largest(0, "99 100 50 1") + Bridges.weather(100);
        int fed = (text.length() + 19) / 20;
        SpanPainter days = Due.bridge(text + "closed la 11;");
        SpanPainter gangs = Due.bridge(text);
        SpanPainter search = longSearch(8);
        for (int call = fed + 2; call <= 512; call++) {
            Due.is("extraDays()", days.extraDays(), Due.NOT_FOUND);
            Due.is("fewestGangs()", gangs.fewestGangs(), 1);
            Due.is("hasSafePlan()", search.hasSafePlan(), Due.GIVEN_UP);
        }
    }

    // ---- AUTOMATIC PLAN

    /** "The first of these years being at most y + 2": a span that is past at p is painted at p - 2, or else at 0. */
    static void sectionAutomaticPlanTwoYearsBefore() {
        for (int past = 0; past < 12; past++) {
            automatic("bridge 12 1 10;span a none " + pastAt(1, past) + "gang g 9 1;", Math.max(0, past - 2) + ":0/0;");
            automatic("bridge " + (past + 1) + " 1 10;span a none " + pastAt(1, past) + "gang g 9 1;", Math.max(0, past - 2) + ":0/0;");
            if (past > 0) {
                // the year in which it would be past does not exist
                automatic("bridge " + past + " 1 10;span a none " + pastAt(1, past) + "gang g 9 1;", "");
            }
        }
    }

    /** "(And at least y)": where the lane is closed until the year before, in it, or longer than the span is not past. */
    static void sectionAutomaticPlanNotBehindThePastYear() {
        String text = "bridge 12 1 10;lane l 1;span a l " + pastAt(1, 5) + "gang g 9 1;";
        automatic(text, "3:0/0;");
        automatic(text + closed("l", 0, 2), "3:0/0;");
        automatic(text + closed("l", 3, 3), "4:0/0;");
        automatic(text + closed("l", 3, 4), "5:0/0;");
        automatic(text + closed("l", 3, 5), "");
        automatic(text + closed("l", 3, 11), "");
        Due.is("autoPast()", Due.bridge(text + closed("l", 3, 4)).autoPast(), 0);
        Due.is("autoPast()", Due.bridge(text + closed("l", 3, 5)).autoPast(), 1);
    }

    /** "Spans ... that ... are past in some year": those that never are, are not painted; none are with no spans. */
    static void sectionAutomaticPlanOfNoCandidates() {
        automatic("", "");
        automatic("gang g 1 1;", "");
        automatic("span a none 9 99 50 100;gang g 9 1;", "");
        automatic("span a none 9 99 50 99;", "");
        automatic("bridge 1 1 0;span a none 9 49 1 50;gang g 9 1;", "");
        automatic("bridge 1 1 0;span a none 9 50 1 50;gang g 9 1;", "0:0/0;");
    }

    /** "Taken in the order of these first years; ... decreasing rust at the beginning of year y, then of their numbers." */
    static void sectionAutomaticPlanOrder() {
        // a lane a year, all past at 2
        String start = "bridge 3 1 10;" + Bridges.lanes(1) + "gang g 50 1;";
        automatic(start + "span a la 1 48 1 50;span b lb 1 48 1 50;span c lc 1 48 1 50;", "0:0/0;1:1/0;2:2/0;");
        automatic(start + "span a la 1 47 1 49;span b lb 1 48 1 50;span c lc 1 48 1 50;", "0:1/0;1:2/0;2:0/0;");
        automatic(start + "span a la 1 46 1 48;span b lb 1 47 1 49;span c lc 1 48 1 50;", "0:2/0;1:1/0;2:0/0;");
        // rust 0 and 100 at the beginning, both past at 0
        automatic("bridge 1 1 10;" + Bridges.lanes(1) + "gang g 50 1;span a la 1 0 50 1;span b lb 1 100 1 99;", "0:1/0;");
        automatic("bridge 1 1 10;" + Bridges.lanes(1) + "gang g 50 1;span a la 1 99 50 1;span b lb 1 100 1 99;", "0:1/0;");
        automatic("bridge 1 1 10;" + Bridges.lanes(1) + "gang g 50 1;span a la 1 100 50 1;span b lb 1 100 1 99;", "0:0/0;");
        // rust 0 and past at 0 goes before rust 98 and past at 1
        automatic("bridge 3 1 10;" + Bridges.lanes(1) + "gang g 50 1;span a la 1 98 1 99;span b lb 1 0 50 1;", "0:1/0;1:0/0;");
        // the rust of year y decides, not that at the beginning: at 1 b has more than a
        automatic("bridge 5 1 10;" + Bridges.lanes(1) + "gang g 50 1;span a la 1 40 2 48;span b lb 1 30 10 70;" + closed("la", 0, 1)
                + closed("lb", 0, 1), "2:1/0;3:0/0;");
    }

    /** All 12 spans in the order of their numbers, as many in each year as the days allow. */
    static void sectionAutomaticPlanOf12Spans() {
        StringBuilder text = new StringBuilder("bridge 12 1 10;gang g 10 1;");
        for (int span = 0; span < 12; span++) {
            text.append("span s").append((char) ('a' + span)).append(" none 10 0 1 2;");
        }
        // all are past at 2: four of them each year, the efforts are 10 each, in 4 days of speed 10
        automatic(text + "weather 0 4;weather 1 4;weather 2 4;",
                "0:0/0;0:1/0;0:2/0;0:3/0;1:4/0;1:5/0;1:6/0;1:7/0;2:8/0;2:9/0;2:10/0;2:11/0;");
        Due.is("autoPast()", Due.bridge(text + "weather 0 4;weather 1 4;weather 2 3;").autoPast(), 1);
        Due.is("autoPast()", Due.bridge(text + "weather 0 0;weather 1 0;weather 2 0;").autoPast(), 12);
    }

    /** "The least capacity left after it, the one with the smallest number of several; if there is none, ... not painted". */
    static void sectionAutomaticPlanGangs() {
        String start = "bridge 1 1 10;span a none 20 0 1 1;weather 0 10;";
        String past = "span b none 10 50 1 50;";
        Due.is("pastCount()", Due.bridge(start + past).pastCount(), 1);
        // b alone is past, its effort is 15: capacities 20, 10, 20, 30 and 20
        automatic(start + past + "gang f 2 1;gang g 1 1;gang h 2 1;gang i 3 1;gang j 2 1;", "0:1/0;");
        automatic(start + past + "gang f 3 1;gang g 1 1;gang h 2 1;gang i 3 1;gang j 2 1;", "0:1/2;");
        automatic(start + past + "gang f 3 1;gang g 1 1;gang h 3 1;gang i 3 1;gang j 2 1;", "0:1/4;");
        automatic(start + past + "gang f 1 1;gang g 1 1;gang h 1 1;gang i 1 1;gang j 1 1;", "");
        // no capacity left: 15 of 15
        automatic("bridge 1 1 10;span b none 10 50 1 50;gang f 4 1;gang g 3 1;weather 0 5;", "0:0/1;");
        automatic("bridge 1 1 10;span b none 10 50 1 50;gang f 4 1;gang g 3 1;weather 0 4;", "0:0/0;");
        automatic("bridge 1 1 10;span b none 10 50 1 50;gang f 4 1;gang g 3 1;weather 0 3;", "");
        // what is left behind other paintings: f has 30 - 15, so that it is as tight as g for c, and then tighter
        automatic("bridge 1 1 10;span b none 10 50 1 50;span c none 2 50 1 50;span d none 2 50 1 50;gang f 3 1;gang g 4 1;weather 0 5;",
                "0:0/0;0:1/1;0:2/1;");
    }

    /** "The least capacity left after it": that of this year and behind the gang's own load, whatever its days are. */
    static void sectionAutomaticPlanCapacityLeft() {
        // in year 0, g alone can take a (30 of 40); for b (5) it has 5 left then, and f has 15
        String text = "bridge 3 1 10;span a none 30 0 50 49;span b none 5 0 50 49;gang f 2 1;gang g 4 1;weather 0 10;";
        automatic(text, "0:0/1;0:1/1;");
        automatic(text + "weather 1 1;weather 2 200;", "0:0/1;0:1/1;");
        automatic(text + "weather 1 0;weather 2 0;", "0:0/1;0:1/1;");
        // a and b cannot be painted before year 1; then f has 7 of 10 left behind b (3), and g has 40 - 3 less that of a
        String later = "bridge 3 1 10;lane l 1;span b l 2 0 50 99;gang f 1 1;gang g 4 1;weather 1 10;closed l 0;span a l ";
        automatic(later + "15 1 50 99;", "1:0/0;1:1/1;");
        automatic(later + "15 1 50 99;weather 0 0;weather 2 0;", "1:0/0;1:1/1;");
        for (int area = 18; area <= 22; area++) {
            automatic(later + area + " 1 50 99;", "1:0/" + (area < 21 ? 0 : 1) + ";1:1/1;");
        }
    }

    /** "Its painting is not refused": each reason keeps a candidate from being painted in a year. */
    static void sectionAutomaticPlanRefusals() {
        String start = "bridge 2 1 10;lane k 1;lane l 1;gang g 1 1;span a k 10 40 10 49;span b l 10 40 10 49;";
        automatic(start, "0:0/0;");
        automatic(start + "closed k 0;", "0:1/0;");
        automatic(start + "weather 0 13;", "");
        automatic(start + "weather 0 14;", "0:0/0;");
        Due.is("SHUT 2", Due.bridge("bridge 2 2 10;" + start.substring(14)).autoPast(), 0);
        Due.is("SHUT 2, too few days for both", Due.bridge("bridge 2 2 10;" + start.substring(14) + "weather 0 27;").autoPast(), 1);
        Due.is("SHUT 2, enough days for both", Due.bridge("bridge 2 2 10;" + start.substring(14) + "weather 0 28;").autoPast(), 0);
    }

    // ---- SAFE PLAN

    /** "It tries the years from 0 to that first year, and in each year the gangs in the order of their numbers." */
    static void sectionSafePlanYearsAndGangs() {
        for (int past = 0; past < 12; past++) {
            String text = "bridge 12 1 10;lane l 1;gang g 9 1;gang h 9 1;gang i 9 1;span a l " + pastAt(1, past);
            for (int first = 0; first <= past + 1 && first < 12; first++) {
                SpanPainter painter = Due.bridge(text + closed("l", 0, first - 1));
                boolean found = first <= past;
                Due.is("tries of a span past at " + past + ", open at " + first, painter.searchTries(),
                        found ? 3 * first + 1 : 3 * past + 3);
                Due.is("hasSafePlan()", painter.hasSafePlan(), found ? 1 : 0);
                Due.is("applySafePlan()", painter.applySafePlan(), found ? 1 : Due.NOT_FOUND);
                Due.text("the plan", Due.plan(painter), found ? first + ":0/0;" : "");
            }
        }
    }

    /** The gangs of a year are tried to the last one, then those of the next year. */
    static void sectionSafePlanLastGang() {
        String text = "bridge 2 1 10;gang e 1 1;gang f 1 1;gang g 1 1;gang h 1 1;gang i 2 1;span a none 10 49 1 50;weather 0 ";
        SpanPainter first = Due.bridge(text + "14;weather 1 15;");
        Due.is("effort 14 of 14", first.searchTries(), 1);
        SpanPainter last = Due.bridge(text + "13;weather 1 15;");
        Due.is("effort 14 of 13, 26 by the last gang", last.searchTries(), 5);
        Due.is("applySafePlan()", last.applySafePlan(), 1);
        Due.text("the plan", Due.plan(last), "0:0/4;");
        SpanPainter next = Due.bridge(text + "6;weather 1 15;");
        Due.is("the first gang of the next year", next.searchTries(), 6);
        Due.is("applySafePlan()", next.applySafePlan(), 1);
        Due.text("the plan", Due.plan(next), "1:0/0;");
        Due.is("none", Due.bridge(text + "6;weather 1 7;").searchTries(), 10);
        Due.is("none", Due.bridge(text + "6;weather 1 7;").hasSafePlan(), 0);
        Due.is("the last gang of the last year", Due.bridge(text + "6;weather 1 8;").searchTries(), 10);
        Due.is("the last gang of the last year", Due.bridge(text + "6;weather 1 8;").hasSafePlan(), 1);
    }

    /** "In the order of the first year in which they are past without painting, then of their numbers." */
    static void sectionSafePlanOrder() {
        // each year has days for one: who comes first takes year 0
        String start = "bridge 12 4 10;gang g 1 1;" + Bridges.weather(15);
        String[] plans = {"0:0/0;1:1/0;2:2/0;", "0:2/0;1:1/0;2:0/0;", "0:1/0;1:0/0;2:2/0;", "0:0/0;1:2/0;2:1/0;"};
        int[][] past = {{4, 4, 4}, {6, 5, 4}, {5, 4, 5}, {4, 11, 10}};
        for (int index = 0; index < plans.length; index++) {
            String text = start + "span a none " + pastAt(10, past[index][0]) + "span b none " + pastAt(10, past[index][1])
                    + "span c none " + pastAt(10, past[index][2]);
            SpanPainter painter = Due.bridge(text);
            Due.is("tries", painter.searchTries(), 1 + 2 + 3);
            Due.is("applySafePlan()", painter.applySafePlan(), 3);
            Due.text("the plan of " + text, Due.plan(painter), plans[index]);
        }
    }

    /** "If it fails there, it continues with the next try": what was chosen before is not painted any more. */
    static void sectionSafePlanGoesBack() {
        // b comes first and is tried in 0, but a can be painted in 0 alone, where the days are enough for one
        SpanPainter painter = Due.bridge("bridge 4 2 10;lane l 1;span a l 10 47 1 50;span b none 10 48 1 50;gang g 1 1;weather 0 15;"
                + closed("l", 1, 3));
        Due.is("searchTries()", painter.searchTries(), 1 + 4 + 1 + 1);
        Due.is("applySafePlan()", painter.applySafePlan(), 2);
        Due.text("the plan", Due.plan(painter), "0:0/0;1:1/0;");
        // two steps back: c, b, a in this order; a can be painted in 0 alone, b in 0 and 1
        SpanPainter two = Due.bridge("bridge 4 3 10;lane l 1;lane m 1;span a l 10 47 1 50;span b m 10 48 1 50;span c none 10 49 1 50;"
                + "gang g 1 1;weather 0 15;weather 1 15;weather 2 15;" + closed("l", 1, 3) + closed("m", 2, 3));
        Due.is("no place for c at 0 or 1", two.hasSafePlan(), 0);
        two.setWeather(1, 35);
        Due.is("c and b at 1", two.applySafePlan(), 3);
        Due.text("the plan", Due.plan(two), "0:0/0;1:1/0;1:2/0;");
    }

    /** "Exactly one painting of each endangered span and no others": whatever is painted now. */
    static void sectionSafePlanOfEndangeredSpans() {
        String text = "bridge 2 1 10;gang g 9 1;span a none 1 49 1 51;span b none 1 49 1 50;span c none 1 50 1 52;span d none 1 50 1 51;";
        SpanPainter painter = Due.bridge(text + "paint 0 a g;paint 1 b g;paint 1 a g;");
        Due.is("searchTries()", painter.searchTries(), 2);
        Due.is("applySafePlan()", painter.applySafePlan(), 2);
        Due.text("the plan", Due.plan(painter), "0:1/0;0:3/0;");
    }

    /** "If the span is past in some year with this painting alone": as much rust as the LIMIT is not past. */
    static void sectionSafePlanPastWithOnePainting() {
        // painted at y it is guarded at y + 1 and has 30 at y + 2, 60 at y + 3
        String text = "bridge 5 1 1;gang g 9 1;span a none 1 0 30 ";
        Due.is("LIMIT 90: at 0", Due.bridge(text + "90;").searchTries(), 1);
        Due.is("LIMIT 89: past at 2, at 0 it has 90 at 4", Due.bridge(text + "89;").searchTries(), 2);
        Due.is("LIMIT 60: at 1 it has 60 at 4", Due.bridge(text + "60;").searchTries(), 2);
        Due.is("LIMIT 59: past at 1", Due.bridge(text + "59;").searchTries(), 2);
        Due.is("LIMIT 60", Due.bridge(text + "60;").hasSafePlan(), 1);
        Due.is("LIMIT 59", Due.bridge(text + "59;").hasSafePlan(), 0);
    }

    /**
     * The search paints a at 0, and then b to g (past at 3, 3, 4, 4, 4, 4; their lane is closed at 0) in all years, but z
     * (past at 6; its lane is open at 0 alone) finds no days left at 0. These are 1 + 19969 tries. It goes on with a at 1,
     * b to g at 1 and z at 0: 1 + 12 + 1 tries. The last two spans are painted in the first year in which their lanes are
     * open, 7 and openFrom: these are 8 and openFrom + 1 tries.
     */
    static SpanPainter longSearch(int openFrom) {
        StringBuilder text = new StringBuilder("bridge 12 4 10;" + Bridges.lanes(1) + "gang x 1 1;weather 0 20;span a none " + pastAt(10, 3));
        int[] past = {3, 3, 4, 4, 4, 4};
        for (int span = 0; span < past.length; span++) {
            text.append("span ").append((char) ('b' + span)).append(" la ").append(pastAt(1, past[span]));
        }
        text.append("span z lb ").append(pastAt(10, 6)).append("span y lc ").append(pastAt(1, 11)).append("span w ld ").append(pastAt(1, 11));
        text.append(closed("la", 0, 0)).append(closed("lb", 1, 11)).append(closed("lc", 0, 6)).append(closed("ld", 0, openFrom - 1));
        return Due.bridge(text.toString());
    }

    /** "If the 20001st try would be made, the search is given up": a safe plan may be found with the 20000th. */
    static void sectionSafePlanOf20000Tries() {
        SpanPainter fewer = longSearch(6);
        Due.is("found with the 19999th try", fewer.searchTries(), 19999);
        Due.is("hasSafePlan()", fewer.hasSafePlan(), 1);
        SpanPainter just = longSearch(7);
        Due.is("found with the 20000th try", just.searchTries(), 20000);
        Due.is("hasSafePlan()", just.hasSafePlan(), 1);
        Due.is("applySafePlan()", just.applySafePlan(), 10);
        Due.text("the plan", Due.plan(just), "0:7/0;1:0/0;1:1/0;1:2/0;1:3/0;1:4/0;1:5/0;1:6/0;7:8/0;7:9/0;");
        Due.is("applySafePlan()", just.applySafePlan(), Due.UNCHANGED);
        SpanPainter more = longSearch(8);
        Due.is("it would be found with the 20001st try", more.searchTries(), 20000);
        Due.is("hasSafePlan()", more.hasSafePlan(), Due.GIVEN_UP);
        Due.is("applySafePlan()", more.applySafePlan(), Due.GIVEN_UP);
        Due.is("paintings()", more.paintings(), 0);
        Due.is("undo()", more.undo(), Due.NOT_FOUND);
        // a search that is given up leaves nothing for the next one
        more.setClosed(3, 7, false);
        Due.is("searchTries()", more.searchTries(), 20000);
        Due.is("hasSafePlan()", more.hasSafePlan(), 1);
    }

    /** The largest bridge: 12 spans, each painted by the last gang in the last year, with the last of 60 tries. */
    static void sectionSafePlanInTheLargestBridge() {
        String text = "bridge 12 4 10;" + Bridges.lanes(1) + Bridges.spans("9 0 1 11") + "gang ga 1 1;gang gb 1 1;gang gc 1 1;gang gd 1 1;"
                + "gang ge 50 1;" + Bridges.weather(0);
        SpanPainter painter = Due.bridge(text);
        painter.setWeather(11, 8);
        Due.is("searchTries()", painter.searchTries(), 12 * 60);
        Due.is("hasSafePlan()", painter.hasSafePlan(), 1);
        Due.is("applySafePlan()", painter.applySafePlan(), 12);
        for (int span = 0; span < 12; span++) {
            Due.is("gangOf(" + span + ", 11)", painter.gangOf(span, 11), 4);
        }
        // 108 of effort
        painter.setWeather(11, 2);
        Due.is("capacity 100: the last span finds none, and so on", painter.hasSafePlan(), 0);
        Due.is("searchTries()", painter.searchTries(), 12 * 60);
        painter.setWeather(11, 8);
        painter.setShut(3);
        Due.is("a lane too many", painter.hasSafePlan(), 0);
        Due.is("searchTries()", painter.searchTries(), 4 * 60);
    }

    // ---- promises 55 to 63

    /** A bridge without spans, gangs or lanes. */
    static void promise55To63InAnEmptyBridge() {
        for (String text : new String[] {"", "bridge 1 1 0;", "bridge 12 4 10;", "gang g 1 1;gang h 1 1;", "lane l 1;closed l 0;",
            "weather 0 0;"}) {
            SpanPainter painter = Due.bridge(text);
            boolean gangs = text.startsWith("gang");
            Due.is("hasSafePlan()", painter.hasSafePlan(), 1);
            Due.is("searchTries()", painter.searchTries(), 0);
            Due.is("autoPast()", painter.autoPast(), 0);
            Due.noIndexBeyond("autoPastWithout", gangs ? 2 : 0, painter::autoPastWithout);
            Due.is("criticalGang()", painter.criticalGang(), gangs ? 0 : Due.NOT_FOUND);
            Due.is("worstYear()", painter.worstYear(), 0);
            Due.is("smallestShut()", painter.smallestShut(), 1);
            Due.is("fewestGangs()", painter.fewestGangs(), 0);
            Due.is("extraDays()", painter.extraDays(), 0);
        }
    }

    /** Spans, but no gangs to paint them. */
    static void promise55To63WithoutGangs() {
        SpanPainter painter = Due.bridge("bridge 2 4 10;span a none 1 49 1 50;span b none 1 49 1 51;");
        Due.is("hasSafePlan()", painter.hasSafePlan(), 0);
        Due.is("searchTries()", painter.searchTries(), 0);
        Due.is("autoPast()", painter.autoPast(), 1);
        Due.is("criticalGang()", painter.criticalGang(), Due.NOT_FOUND);
        Due.is("worstYear()", painter.worstYear(), 0);
        Due.is("smallestShut()", painter.smallestShut(), Due.NOT_FOUND);
        Due.is("fewestGangs()", painter.fewestGangs(), 0);
        Due.is("extraDays()", painter.extraDays(), Due.NOT_FOUND);
    }

    /** Five gangs, each needed, and each first and last of several. */
    static void promise58And59InTheLargestBridge() {
        // all past at 0: efforts 10 to 50, and a gang for each
        StringBuilder text = new StringBuilder("bridge 1 1 10;weather 0 10;");
        for (int number = 1; number <= 5; number++) {
            text.append("span s").append((char) ('a' + number)).append(" none ").append(10 * number).append(" 0 2 1;");
        }
        String spans = text.toString();
        for (int critical = 0; critical < 5; critical++) {
            StringBuilder gangs = new StringBuilder(spans);
            for (int gang = 0; gang < 5; gang++) {
                gangs.append("gang g").append((char) ('a' + gang)).append(' ').append(gang == critical ? 15 : 1).append(" 1;");
            }
            SpanPainter painter = Due.bridge(gangs.toString());
            Due.is("autoPast()", painter.autoPast(), 0);
            for (int gang = 0; gang < 5; gang++) {
                Due.is("autoPastWithout(" + gang + ")", painter.autoPastWithout(gang), gang == critical ? 4 : 0);
            }
            Due.is("criticalGang()", painter.criticalGang(), critical);
            Due.is("fewestGangs()", painter.fewestGangs(), 1 << critical);
            Due.noIndexBeyond("autoPastWithout", 5, painter::autoPastWithout);
        }
        SpanPainter none = Due.bridge(spans + Bridges.gangs("1 1") + "weather 0 0;");
        Due.is("all equal, the first", none.criticalGang(), 0);
        Due.is("autoPastWithout(4)", none.autoPastWithout(4), 5);
        Due.is("no gangs are enough", none.fewestGangs(), 0);
        SpanPainter two = Due.bridge(spans + "gang ga 1 1;gang gb 15 1;gang gc 1 1;gang gd 15 1;gang ge 1 1;");
        Due.is("all equal, the first", two.criticalGang(), 0);
        Due.is("the first of two", two.fewestGangs(), 2);
    }

    /** Each gang is needed: all five. */
    static void promise62FewestGangsFromNoneToAll() {
        StringBuilder text = new StringBuilder("bridge 1 1 10;weather 0 10;");
        for (int span = 0; span < 12; span++) {
            text.append("span s").append((char) ('a' + span)).append(" none 10 0 2 1;");
        }
        // an effort of 10 each, capacities of 10 * SPEED
        Due.is("all of five", Due.bridge(text + Bridges.gangs("1 1")).fewestGangs(), 31);
        Due.is("autoPast()", Due.bridge(text + Bridges.gangs("1 1")).autoPast(), 7);
        Due.is("four of five", Due.bridge(text + Bridges.gangs("3 1")).fewestGangs(), 15);
        Due.is("three of five", Due.bridge(text + Bridges.gangs("4 1")).fewestGangs(), 7);
        Due.is("two of five", Due.bridge(text + Bridges.gangs("6 1")).fewestGangs(), 3);
        Due.is("one of five", Due.bridge(text + Bridges.gangs("12 1")).fewestGangs(), 1);
        Due.is("none", Due.bridge(text + Bridges.gangs("50 1") + "weather 0 0;").fewestGangs(), 0);
        String start = text + "gang a 1 1;gang b 2 1;gang c 1 1;gang d ";
        Due.is("the last two", Due.bridge(start + "6 1;gang e 6 1;").fewestGangs(), 24);
        Due.is("the second and the last", Due.bridge(start + "1 1;gang e 10 1;").fewestGangs(), 18);
        Due.is("the last", Due.bridge(start + "1 1;gang e 12 1;").fewestGangs(), 16);
        Due.is("the fourth", Due.bridge(start + "12 1;gang e 12 1;").fewestGangs(), 8);
    }

    /** All gangs but one are needed, of one to five gangs: the first, the last or another one is not. */
    static void promise62FewestGangsAllButOne() {
        for (int count = 1; count <= 5; count++) {
            for (int other = 0; other < count; other++) {
                StringBuilder text = new StringBuilder("bridge 1 1 10;weather 0 5;");
                for (int gang = 0; gang < count; gang++) {
                    text.append("gang g").append((char) ('a' + gang)).append(gang == other ? " 1 1;" : " 2 1;");
                }
                for (int span = 1; span < count; span++) {
                    text.append("span s").append((char) ('a' + span)).append(" none 10 0 2 1;");
                }
                // an effort of 10 each, capacities of 5 and 10
                SpanPainter painter = Due.bridge(text.toString());
                Due.is("autoPast()", painter.autoPast(), 0);
                Due.is("all but " + other + " of " + count, painter.fewestGangs(), (1 << count) - 1 - (1 << other));
                Due.is("criticalGang()", painter.criticalGang(), other == 0 && count > 1 ? 1 : 0);
            }
        }
    }

    /** "At most autoPast()": fewer gangs may have less past spans than all. */
    static void promise62FewestGangsBetterThanAll() {
        // g alone can paint a, which shuts b and c out; h alone can paint b and c
        String text = "bridge 1 1 10;weather 0 10;lane k 1;lane l 1;span a k 20 0 2 1;span b l 5 0 2 1;span c l 5 0 2 1;";
        SpanPainter painter = Due.bridge(text + "gang h 1 1;gang g 2 1;");
        Due.is("autoPast()", painter.autoPast(), 2);
        Due.is("without h", painter.autoPastWithout(0), 2);
        Due.is("without g", painter.autoPastWithout(1), 1);
        Due.is("h, as its number is smaller", painter.fewestGangs(), 1);
        Due.is("criticalGang()", painter.criticalGang(), 0);
        SpanPainter turned = Due.bridge(text + "gang g 2 1;gang h 1 1;");
        Due.is("g, as its number is smaller", turned.fewestGangs(), 1);
        Due.is("criticalGang()", turned.criticalGang(), 1);
        SpanPainter one = Due.bridge(text + "gang i 1 1;gang g 3 1;gang h 1 1;closed k 0;");
        Due.is("a lane closed", one.autoPast(), 1);
        Due.is("one of three", one.fewestGangs(), 1);
    }

    /** "The first of several": the first and the last of 12 years. */
    static void promise60WorstYearAtTheEnds() {
        for (int worst = 0; worst < 12; worst++) {
            // a can be painted in one year alone
            String text = "bridge 12 1 10;lane l 1;span a l 1 0 1 11;gang g 1 1;" + closed("l", 0, worst - 1) + closed("l", worst + 1, 11);
            Due.is("worstYear()", Due.bridge(text).worstYear(), worst >= 9 ? worst : 0);
        }
        Due.is("one year", Due.bridge("bridge 1 1 10;span a none 1 0 2 1;gang g 1 1;").worstYear(), 0);
        SpanPainter same = Due.bridge(Bridges.largest(10, "1 0 1 11"));
        Due.is("12 past spans in no year, as they can be painted in another", same.worstYear(), 0);
        SpanPainter none = Due.bridge(Bridges.largest(10, "1 0 1 100"));
        Due.is("no past spans in any year", none.worstYear(), 0);
        SpanPainter last = Due.bridge(Bridges.largest(10, "1 0 1 11") + closed("la", 9, 10) + closed("lb", 9, 10) + closed("lc", 9, 10));
        Due.is("the last year for three lanes of four", last.worstYear(), 11);
        Due.is("DAYS are as before", last.capacity(4, 11), 5000);
    }

    /** "The smallest SHUT, 1 to 4": whatever SHUT is now; "NOT_FOUND if there is none". */
    static void promise61SmallestShutFrom1To4() {
        for (int now = 1; now <= 4; now++) {
            String text = "bridge 1 " + now + " 10;" + Bridges.lanes(1) + "gang g 50 1;span s none 1 0 2 1;";
            String[] lanes = {"la", "lb", "lc", "ld"};
            Due.is("no lane", Due.bridge(text).smallestShut(), 1);
            for (int lane = 0; lane < 4; lane++) {
                text = text + "span s" + lanes[lane] + " " + lanes[lane] + " 1 0 2 1;";
                SpanPainter painter = Due.bridge(text);
                Due.is("smallestShut()", painter.smallestShut(), lane + 1);
                Due.is("SHUT is as before", painter.setShut(now), Due.UNCHANGED);
                Due.is("autoPast()", painter.autoPast(), Math.max(0, lane + 1 - now));
            }
            Due.is("no days", Due.bridge(text + "weather 0 0;").smallestShut(), Due.NOT_FOUND);
            Due.is("closed", Due.bridge(text + "closed ld 0;").smallestShut(), Due.NOT_FOUND);
        }
    }

    /** "The smallest SHUT": a greater one may be too great. */
    static void promise61SmallestShutBelowTooGreatOnes() {
        // 30 days are enough for three: with SHUT 3 these are a, b and c, and d cannot be painted in year 1
        String text = "lane k 1;lane l 1;lane m 1;span a k 10 0 1 1;span b l 10 0 1 1;span c m 10 0 1 1;span d k 10 0 1 1;"
                + "gang g 1 1;weather 0 30;weather 1 20;closed k 1;";
        for (int now = 1; now <= 4; now++) {
            SpanPainter painter = Due.bridge("bridge 2 " + now + " 10;" + text);
            Due.is("autoPast() with SHUT " + now, painter.autoPast(), now == 2 ? 0 : 1);
            Due.is("smallestShut()", painter.smallestShut(), 2);
        }
    }

    /** "The smallest number n, 0 to 100"; "(at most 200)"; "NOT_FOUND if there is none". */
    static void promise63ExtraDaysFrom0To100() {
        // an effort of 99 and one of 99 + 2, so 99 or 200 days by a gang of SPEED 1
        String one = "bridge 1 1 10;gang g 1 1;span a none 99 0 2 1;";
        String two = one + "span b none 99 0 2 1;span c none 2 0 2 1;";
        Due.is("none more", Due.bridge(one + "weather 0 99;").extraDays(), 0);
        Due.is("one more", Due.bridge(one + "weather 0 98;").extraDays(), 1);
        Due.is("99 more", Due.bridge(one + "weather 0 0;").extraDays(), 99);
        Due.is("200 days", Due.bridge(two + "weather 0 200;").extraDays(), 0);
        Due.is("1 more are 200", Due.bridge(two + "weather 0 199;").extraDays(), 1);
        Due.is("100 more are 200", Due.bridge(two + "weather 0 100;").extraDays(), 100);
        Due.is("101 more would be 200", Due.bridge(two + "weather 0 99;").extraDays(), Due.NOT_FOUND);
        String more = two + "span d none 1 0 2 1;";
        Due.is("201 days are too many", Due.bridge(more + "weather 0 200;").extraDays(), Due.NOT_FOUND);
        Due.is("201 days are too many", Due.bridge(more + "weather 0 199;").extraDays(), Due.NOT_FOUND);
        Due.is("201 days are too many", Due.bridge(more + "weather 0 101;").extraDays(), Due.NOT_FOUND);
        // "each year": the last of 12, too
        SpanPainter last = Due.bridge("bridge 12 1 10;lane l 1;gang g 1 1;span a l 50 0 1 11;" + closed("l", 0, 10) + "weather 11 0;");
        Due.is("an effort of 55", last.extraDays(), 55);
        Due.is("DAYS are as before", last.setWeather(11, 0), Due.UNCHANGED);
        Due.is("DAYS are as before", last.setWeather(0, 100), Due.UNCHANGED);
    }

    /** "The smallest number n": more than n days may be too many. */
    static void promise63ExtraDaysThatAreTooMany() {
        // from 30 days on a is painted in year 0, and b, which cannot be painted in year 1, is shut out
        String text = "bridge 2 1 10;lane k 1;lane l 1;span a k 30 1 1 2;span b l 9 0 1 1;gang g 1 1;closed l 1;";
        SpanPainter painter = Due.bridge(text + "weather 0 5;weather 1 40;");
        Due.is("5 days are too few", painter.autoPast(), 1);
        Due.is("extraDays()", painter.extraDays(), 4);
        painter.setWeather(0, 8);
        Due.is("extraDays()", painter.extraDays(), 1);
        painter.setWeather(0, 9);
        Due.is("extraDays()", painter.extraDays(), 0);
        painter.setWeather(0, 29);
        Due.is("extraDays()", painter.extraDays(), 0);
        painter.setWeather(0, 30);
        Due.is("30 days are too many", painter.autoPast(), 1);
        Due.is("extraDays()", painter.extraDays(), Due.NOT_FOUND);
        painter.setWeather(0, 0);
        Due.is("extraDays()", painter.extraDays(), 9);
    }

    /** All of the bridge but for the one setting is as it is: SHUT, and the last span's numbers, too. */
    static void promise60To63OtherSettingsStay() {
        String lanes = "lane k 1;lane l 1;gang g 50 1;span a k 1 0 2 1;span b l 1 0 2 1;";
        SpanPainter painter = Due.bridge("bridge 2 1 10;" + lanes);
        Due.is("one lane, two past at 0", painter.extraDays(), Due.NOT_FOUND);
        Due.is("smallestShut()", painter.smallestShut(), 2);
        Due.is("one lane, two past at 0", painter.extraDays(), Due.NOT_FOUND);
        Due.is("two lanes", Due.bridge("bridge 2 2 10;" + lanes).extraDays(), 0);
        // the last span alone is past, at 2; it can be painted in one of three years
        StringBuilder text = new StringBuilder("bridge 3 1 0;lane l 1;gang g 1 1;");
        for (int span = 0; span < 11; span++) {
            text.append("span s").append((char) ('a' + span)).append(" none 1 0 1 3;");
        }
        String last = text + "span sl l 10 48 1 50;weather 0 0;weather 1 0;weather 2 8;closed l 0;closed l 1;";
        Due.is("an effort of 15, 7 more than 8 days", Due.bridge(last).extraDays(), 7);
        Due.is("none more", Due.bridge(last + "weather 2 15;").extraDays(), 0);
        Due.is("the last year", Due.bridge(last + "weather 2 15;").worstYear(), 2);
        SpanPainter guarded = Due.bridge("bridge 12 1 10;gang g 1 1;span a none 1 50 1 50;");
        Due.is("GUARD 10: the painting of year 0 is all that is needed", guarded.worstYear(), 0);
        Due.is("GUARD 10", guarded.extraDays(), 0);
        guarded.setWeather(0, 0);
        Due.is("GUARD 10", guarded.extraDays(), 1);
    }

    /** Other settings are compared with those of now, whatever was asked or loaded before. */
    static void promise60To63InAnyOrder() {
        String[] texts = {
            "bridge 2 1 10;lane k 1;lane l 1;span a k 10 40 10 49;span b l 10 40 10 59;gang g 1 1;weather 0 9;weather 1 3;",
            "bridge 3 2 0;lane k 1;lane l 1;lane m 1;span a k 10 0 30 29;span b l 10 0 30 29;span c m 5 60 9 70;gang g 1 1;gang h 2 1;"
                + "weather 0 12;weather 1 12;closed m 0;",
            "bridge 4 1 1;lane k 1;span a k 10 90 5 91;span b none 20 5 40 50;gang g 2 1;weather 0 9;weather 2 5;closed k 1;",
            "bridge 12 4 3;span a none 30 0 20 50;gang g 1 1;weather 1 20;weather 5 20;"
        };
        for (String text : texts) {
            SpanPainter painter = Due.bridge(Bridges.largest(0, "99 100 50 1") + Bridges.weather(0) + "closed la 0;closed lb 1;");
            painter.extraDays();
            painter.worstYear();
            Due.load(painter, Bridges.largest(2, "1 7 11 50") + "gang x 1 1;");
            for (int round = 0; round < 2; round++) {
                Due.load(painter, text);
                Due.is("smallestShut()", painter.smallestShut(), Due.bridge(text).smallestShut());
                Due.is("worstYear()", painter.worstYear(), Due.bridge(text).worstYear());
                Due.is("extraDays()", painter.extraDays(), Due.bridge(text).extraDays());
                Due.is("fewestGangs()", painter.fewestGangs(), Due.bridge(text).fewestGangs());
                Due.is("extraDays()", painter.extraDays(), Due.bridge(text).extraDays());
                Due.is("smallestShut()", painter.smallestShut(), Due.bridge(text).smallestShut());
                Due.is("extraDays()", painter.extraDays(), Due.bridge(text).extraDays());
                Due.is("criticalGang()", painter.criticalGang(), Due.bridge(text).criticalGang());
                Due.is("worstYear()", painter.worstYear(), Due.bridge(text).worstYear());
                Due.load(painter, Bridges.largest(0, "99 50 50 49"));
            }
        }
    }

    // ---- promises 64 and 65

    /** No painting, one, and the longest plan; "0 to the number of bytes of the latest output minus 1". */
    static void promise64And65FromNoneToAll() {
        SpanPainter painter = Due.bridge(Bridges.largest(0, "99 100 50 49"));
        Due.noIndexBeyond("outputByte before the first write()", 0, painter::outputByte);
        Due.is("an empty plan", painter.write(), 0);
        Due.noIndexBeyond("outputByte of an empty output", 0, painter::outputByte);
        painter.paint(9, 9, 4);
        Due.noIndexBeyond("outputByte before the next write()", 0, painter::outputByte);
        Due.is("9:9/4;", painter.write(), 6);
        Due.noIndexBeyond("outputByte", 6, painter::outputByte);
        Due.is("the last byte", painter.outputByte(5), ';');
        painter.unpaint(9, 9);
        painter.paint(10, 10, 4);
        Due.is("the output stays", painter.outputByte(0), '9');
        Due.noIndexBeyond("outputByte", 6, painter::outputByte);
        Due.text("10:10/4;", Due.plan(painter), "10:10/4;");
        Due.noIndexBeyond("outputByte", 8, painter::outputByte);
        painter.autoPlan();
        Due.is("all paintings", painter.write(), 912);
        Due.is("the first byte", painter.outputByte(0), '0');
        Due.is("the last byte", painter.outputByte(911), ';');
        Due.is("the year of the last painting", painter.outputByte(904), '1');
        Due.noIndexBeyond("outputByte", 912, painter::outputByte);
        painter.undo();
        Due.is("the output stays", painter.outputByte(911), ';');
        Due.is("a shorter output", painter.write(), 8);
        Due.noIndexBeyond("outputByte", 8, painter::outputByte);
        Due.is("load(0)", painter.load(0), 0);
        Due.is("the output stays", painter.outputByte(7), ';');
        Due.is("write()", painter.write(), 0);
        Due.noIndexBeyond("outputByte", 0, painter::outputByte);
    }

    /** "The year, a colon, the number of the span, a slash, the number of the gang, and a semicolon": 9 and 10, 0 and 11. */
    static void promise64WriteNumbersOfTwoDigits() {
        SpanPainter painter = Due.bridge(Bridges.largest(0, "1 0 1 99"));
        int[] numbers = {0, 1, 9, 10, 11};
        StringBuilder due = new StringBuilder();
        for (int year : numbers) {
            for (int span : numbers) {
                int gang = (year + span) % 5;
                Due.is("paint", painter.paint(year, span, gang), 0);
                due.append(year).append(':').append(span).append('/').append(gang).append(';');
            }
        }
        Due.text("the plan", Due.plan(painter), due.toString());
    }
}
