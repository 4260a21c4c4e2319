/** Promises 43 to 54. */
public final class EditTest {
    /** Without a plan, a rusts 20 50 80 100 100, b 0 15 30 45 60, c 50 57 64 71 78: a and c are past at 1. */
    private static final String BRIDGE = "bridge 4 1 1;lane n 10;lane s 3;span a n 10 20 30 60;span b s 7 0 15 100;"
            + "span c none 33 50 7 63;gang red 4 5;gang blue 9 2;weather 1 20;closed s 2;";

    public static void main(String[] arguments) throws Exception {
        Due.runAll(EditTest.class);
    }

    /** That the bridge, its settings and its plan are those of the text, and no edit is remembered. */
    private static void unchanged(SpanPainter painter, String plan) {
        Due.text("the plan", Due.plan(painter), plan);
        Due.is("undo()", painter.undo(), Due.NOT_FOUND);
    }

    static void promise43Paint() {
        SpanPainter painter = Due.bridge(BRIDGE);
        Due.is("paint(1, 0, 0)", painter.paint(1, 0, 0), 1);
        Due.is("gangOf(0, 1)", painter.gangOf(0, 1), 0);
        Due.is("painted already", painter.paint(1, 0, 1), Due.REFUSED);
        Due.is("closed", painter.paint(2, 1, 0), Due.REFUSED);
        Due.is("too many lanes", painter.paint(1, 1, 0), Due.REFUSED);
        Due.is("51 of effort, 80 of capacity, 15 of load", painter.paint(1, 2, 0), 0);
        Due.is("too much load", painter.setSpeed(0, 3), 1);
        Due.text("the plan", Due.plan(painter), "1:0/0;1:2/0;");
        Due.is("undo()", painter.undo(), 2);
        Due.is("undo()", painter.undo(), 1);
        Due.is("undo()", painter.undo(), 0);
        unchanged(painter, "");
        painter.setWeather(3, 8);
        Due.is("too much load", painter.paint(3, 2, 0), Due.REFUSED);
        Due.is("enough for the other gang", painter.paint(3, 2, 1), 2);
        Due.noIndexBeyond("paint year", 4, year -> painter.paint(year, 0, 0));
        Due.noIndexBeyond("paint span", 3, span -> painter.paint(0, span, 0));
        Due.noIndexBeyond("paint gang", 2, gang -> painter.paint(0, 0, gang));
        Due.noIndex("paint of a painted span by no gang", () -> painter.paint(3, 2, 2));
    }

    static void promise44Unpaint() {
        SpanPainter painter = Due.bridge(BRIDGE + "paint 1 a blue;paint 1 c red;");
        Due.is("unpaint(0, 0)", painter.unpaint(0, 0), Due.NOT_FOUND);
        Due.is("unpaint(1, 1)", painter.unpaint(1, 1), Due.NOT_FOUND);
        Due.is("unpaint(1, 0)", painter.unpaint(1, 0), 1);
        Due.is("unpaint(1, 0)", painter.unpaint(1, 0), Due.NOT_FOUND);
        Due.is("rustAfter(0, 1)", painter.rustAfter(0, 1), 80);
        Due.is("unpaint(1, 2)", painter.unpaint(1, 2), 0);
        Due.is("paintings()", painter.paintings(), 0);
        Due.is("undo()", painter.undo(), 1);
        Due.is("undo()", painter.undo(), 0);
        Due.is("rustAfter(0, 1)", painter.rustAfter(0, 1), 0);
        unchanged(painter, "1:0/1;1:2/0;");
        Due.noIndexBeyond("unpaint year", 4, year -> painter.unpaint(year, 0));
        Due.noIndexBeyond("unpaint span", 3, span -> painter.unpaint(0, span));
    }

    static void promise45MovePainting() {
        SpanPainter painter = Due.bridge(BRIDGE + "paint 0 a blue;paint 0 c red;paint 3 c red;");
        Due.is("no painting", painter.movePainting(0, 1, 2), Due.NOT_FOUND);
        Due.is("no painting, the same year", painter.movePainting(0, 1, 1), Due.NOT_FOUND);
        Due.is("the same year", painter.movePainting(0, 0, 0), Due.UNCHANGED);
        Due.is("painted already", painter.movePainting(2, 0, 3), Due.REFUSED);
        unchanged(painter, "0:0/1;0:2/0;3:2/0;");
        Due.is("past at 1 now", painter.movePainting(0, 0, 2), 1);
        Due.is("the gang moves, too", painter.gangOf(0, 2), 1);
        Due.is("back to a year before", painter.movePainting(0, 2, 1), 0);
        Due.text("the plan", Due.plan(painter), "0:2/0;1:0/1;3:2/0;");
        Due.is("undo()", painter.undo(), 1);
        Due.is("undo()", painter.undo(), 0);
        unchanged(painter, "0:0/1;0:2/0;3:2/0;");
        Due.noIndexBeyond("movePainting span", 3, span -> painter.movePainting(span, 0, 1));
        Due.noIndexBeyond("movePainting from", 4, from -> painter.movePainting(0, from, 1));
        Due.noIndexBeyond("movePainting to", 4, to -> painter.movePainting(0, 0, to));
        Due.noIndex("no painting, no year", () -> painter.movePainting(0, 1, 4));
    }

    static void promise45MovePaintingThatIsRefused() {
        SpanPainter painter = Due.bridge(BRIDGE + "paint 0 b red;paint 1 a red;");
        Due.is("closed", painter.movePainting(1, 0, 2), Due.REFUSED);
        Due.is("too many lanes", painter.movePainting(1, 0, 1), Due.REFUSED);
        unchanged(painter, "0:1/0;1:0/0;");
        // with the painting at 0 the effort at 1 would be 10, without it 15
        SpanPainter tight = Due.bridge("bridge 2 1 1;span a none 10 20 30 100;gang g 1 1;weather 1 14;paint 0 a g;");
        Due.is("too much load", tight.movePainting(0, 0, 1), Due.REFUSED);
        Due.is("the painting is still there", tight.rustAfter(0, 0), 0);
        tight.setWeather(1, 15);
        Due.is("enough", tight.movePainting(0, 0, 1), 0);
    }

    static void promise46Exchange() {
        SpanPainter painter = Due.bridge(BRIDGE + "paint 1 a red;paint 1 b red;paint 1 c blue;weather 1 8;");
        // efforts 15, 8 and 51; capacities 32 and 72
        Due.is("the first is not painted", painter.exchange(0, 0, 1), Due.NOT_FOUND);
        Due.is("the second is not painted", Due.bridge(BRIDGE + "paint 1 a red;").exchange(1, 0, 2), Due.NOT_FOUND);
        Due.is("the first is not painted", Due.bridge(BRIDGE + "paint 1 a red;").exchange(1, 2, 0), Due.NOT_FOUND);
        Due.is("a span with itself, not painted", painter.exchange(0, 0, 0), Due.NOT_FOUND);
        Due.is("a span with itself", painter.exchange(1, 0, 0), Due.UNCHANGED);
        Due.is("the same gang", painter.exchange(1, 0, 1), Due.UNCHANGED);
        unchanged(painter, "1:0/0;1:1/0;1:2/1;");
        Due.is("51 and 8 for 32", painter.exchange(1, 0, 2), 1);
        Due.text("the plan", Due.plan(painter), "1:0/1;1:1/0;1:2/0;");
        Due.is("undo()", painter.undo(), 0);
        unchanged(painter, "1:0/0;1:1/0;1:2/1;");
        Due.noIndexBeyond("exchange year", 4, year -> painter.exchange(year, 0, 1));
        Due.noIndexBeyond("exchange span", 3, span -> painter.exchange(0, span, 1));
        Due.noIndexBeyond("exchange other", 3, other -> painter.exchange(0, 0, other));
    }

    static void promise47SetWeather() {
        SpanPainter painter = Due.bridge(BRIDGE);
        Due.is("setWeather(1, 200)", painter.setWeather(1, 200), 20);
        Due.is("capacity(0, 1)", painter.capacity(0, 1), 800);
        Due.is("setWeather(1, 200)", painter.setWeather(1, 200), Due.UNCHANGED);
        Due.is("setWeather(1, 0)", painter.setWeather(1, 0), 200);
        Due.is("setWeather(1, 1)", painter.setWeather(1, 1), 0);
        Due.is("setWeather(3, 100)", painter.setWeather(3, 100), Due.UNCHANGED);
        Due.noArgument("setWeather(0, -1)", () -> painter.setWeather(0, -1));
        Due.noArgument("setWeather(0, 201)", () -> painter.setWeather(0, 201));
        Due.noIndexBeyond("setWeather", 4, year -> painter.setWeather(year, 50));
        Due.noIndex("the year is checked first", () -> painter.setWeather(4, 201));
        Due.is("undo()", painter.undo(), 2);
        Due.is("capacity(0, 1)", painter.capacity(0, 1), 0);
        Due.is("undo()", painter.undo(), 1);
        Due.is("undo()", painter.undo(), 0);
        Due.is("capacity(0, 1)", painter.capacity(0, 1), 80);
    }

    static void promise48SetShut() {
        SpanPainter painter = Due.bridge(BRIDGE);
        Due.is("setShut(1)", painter.setShut(1), Due.UNCHANGED);
        Due.is("setShut(4)", painter.setShut(4), 1);
        painter.paint(0, 0, 0);
        Due.is("refusal(0, 1, 0)", painter.refusal(0, 1, 0), 0);
        Due.is("setShut(1)", painter.setShut(1), 4);
        Due.is("refusal(0, 1, 0)", painter.refusal(0, 1, 0), 3);
        Due.is("undo()", painter.undo(), 2);
        Due.is("refusal(0, 1, 0)", painter.refusal(0, 1, 0), 0);
        for (int shut : new int[] {0, 5, -1, Integer.MIN_VALUE, Integer.MAX_VALUE}) {
            Due.noArgument("setShut(" + shut + ")", () -> painter.setShut(shut));
        }
        Due.is("setShut(4)", painter.setShut(4), Due.UNCHANGED);
    }

    static void promise49SetClosed() {
        SpanPainter painter = Due.bridge(BRIDGE);
        Due.is("setClosed(0, 2, true)", painter.setClosed(0, 2, true), 3);
        Due.is("refusal(2, 0, 0)", painter.refusal(2, 0, 0), 2);
        Due.is("setClosed(0, 2, true)", painter.setClosed(0, 2, true), Due.UNCHANGED);
        Due.is("setClosed(1, 2, false)", painter.setClosed(1, 2, false), 1);
        Due.is("setClosed(1, 2, false)", painter.setClosed(1, 2, false), Due.UNCHANGED);
        Due.is("setClosed(0, 2, false)", painter.setClosed(0, 2, false), 0);
        Due.is("setClosed(0, 1, true)", painter.setClosed(0, 1, true), 1);
        Due.is("undo()", painter.undo(), 3);
        Due.is("refusal(1, 0, 0)", painter.refusal(1, 0, 0), 0);
        Due.is("undo()", painter.undo(), 2);
        Due.is("refusal(2, 0, 0)", painter.refusal(2, 0, 0), 2);
        Due.is("undo()", painter.undo(), 1);
        Due.is("refusal(2, 1, 0)", painter.refusal(2, 1, 0), 2);
        Due.noIndexBeyond("setClosed lane", 2, lane -> painter.setClosed(lane, 0, true));
        Due.noIndexBeyond("setClosed year", 4, year -> painter.setClosed(0, year, false));
    }

    static void promise50SetRate() {
        SpanPainter painter = Due.bridge(BRIDGE);
        Due.is("setRate(2, 7)", painter.setRate(2, 7), Due.UNCHANGED);
        Due.is("setRate(2, 3)", painter.setRate(2, 3), 1);
        Due.is("rustAfter(2, 3)", painter.rustAfter(2, 3), 62);
        Due.is("setRate(1, 50)", painter.setRate(1, 50), 1);
        Due.is("rustAfter(1, 1)", painter.rustAfter(1, 1), 100);
        Due.is("setRate(2, 4)", painter.setRate(2, 4), 2);
        Due.is("setRate(0, 1)", painter.setRate(0, 1), 1);
        Due.is("undo()", painter.undo(), 3);
        Due.is("undo()", painter.undo(), 2);
        Due.is("undo()", painter.undo(), 1);
        Due.is("rustAfter(1, 1)", painter.rustAfter(1, 1), 30);
        Due.is("rustAfter(2, 3)", painter.rustAfter(2, 3), 62);
        Due.noArgument("setRate(0, 0)", () -> painter.setRate(0, 0));
        Due.noArgument("setRate(0, 51)", () -> painter.setRate(0, 51));
        Due.noIndexBeyond("setRate", 3, span -> painter.setRate(span, 9));
        Due.noIndex("the span is checked first", () -> painter.setRate(3, 51));
        Due.is("undo()", painter.undo(), 0);
    }

    static void promise51SetSpeed() {
        SpanPainter painter = Due.bridge(BRIDGE + "paint 1 a red;paint 1 c red;");
        // 66 of load in 20 days
        Due.is("setSpeed(0, 4)", painter.setSpeed(0, 4), Due.UNCHANGED);
        Due.is("setSpeed(0, 3)", painter.setSpeed(0, 3), 1);
        Due.is("capacity(0, 0)", painter.capacity(0, 0), 300);
        Due.is("setSpeed(1, 1)", painter.setSpeed(1, 1), 1);
        Due.is("setSpeed(0, 50)", painter.setSpeed(0, 50), 0);
        Due.is("undo()", painter.undo(), 2);
        Due.is("capacity(0, 0)", painter.capacity(0, 0), 300);
        Due.is("undo()", painter.undo(), 1);
        Due.is("capacity(1, 0)", painter.capacity(1, 0), 900);
        Due.noArgument("setSpeed(0, 0)", () -> painter.setSpeed(0, 0));
        Due.noArgument("setSpeed(0, 51)", () -> painter.setSpeed(0, 51));
        Due.noIndexBeyond("setSpeed", 2, gang -> painter.setSpeed(gang, 9));
        Due.noIndex("the gang is checked first", () -> painter.setSpeed(2, 0));
        Due.is("undo()", painter.undo(), 0);
    }

    /** The automatic plan of a text; the call answers the paintings left past, or UNCHANGED where it is empty. */
    private static void automatic(String text, String plan, int past) {
        SpanPainter painter = Due.bridge(text);
        int due = plan.isEmpty() && painter.paintings() == 0 ? Due.UNCHANGED : past;
        Due.is("autoPlan(): " + text, painter.autoPlan(), due);
        Due.text("the plan of " + text, Due.plan(painter), plan);
        Due.is("autoPast(): " + text, painter.autoPast(), past);
    }

    static void promise52AutoPlan() {
        String one = "bridge 6 1 5;lane p 1;lane q 1;lane r 1;";
        // c is past at 0, a and b at 2: one lane a year, c first, then b with more rust
        automatic(one + "span a p 10 10 10 39;span b q 10 20 10 49;span c r 10 60 40 99;gang g 50 1;", "0:2/0;1:1/0;2:0/0;", 0);
        // equal years and rust: the number decides
        automatic(one + "span a p 10 10 10 39;span b q 10 10 10 39;gang g 50 1;", "0:0/0;1:1/0;", 0);
        // an earlier year goes before more rust
        automatic(one + "span a p 10 80 1 82;span b q 10 10 10 29;gang g 50 1;", "0:1/0;1:0/0;", 0);
        // past at 3 is too far away at 0; the last year may be looked past
        automatic(one + "span a p 10 0 10 39;gang g 50 1;", "1:0/0;", 0);
        automatic("bridge 2 1 5;span a none 10 0 10 19;gang g 50 1;", "0:0/0;", 0);
        automatic("bridge 2 1 5;span a none 10 0 10 20;gang g 50 1;", "", 0);
        // painted at 0 it is past again at 4, two years behind 2
        automatic("bridge 6 1 2;span a none 10 0 40 100;span b none 10 0 40 79;gang g 50 1;", "0:1/0;2:1/0;", 0);
        // with a shorter guard it is always past two years behind
        automatic("bridge 6 1 1;span a none 10 0 40 100;span b none 10 0 40 79;gang g 50 1;", "0:1/0;1:1/0;2:1/0;3:1/0;", 0);
    }

    static void promise52AutoPlanAndPastYears() {
        // it could not be painted at 0, and is past since: no candidate any more
        automatic("bridge 4 1 9;span a none 50 90 20 50;gang g 50 1;weather 0 0;", "", 1);
        // it could not be painted at 0, is not past yet and is painted at 1
        automatic("bridge 4 1 9;span a none 50 50 20 89;gang g 50 1;weather 0 0;", "1:0/0;", 0);
        // the lane is closed until it is past
        automatic("bridge 4 1 9;lane l 1;span a l 50 50 20 89;gang g 50 1;closed l 0;closed l 1;", "", 1);
    }

    static void promise52AutoPlanAndGangs() {
        // capacities 1000, 500, 500: the least is left by the second
        automatic("bridge 1 1 9;span a none 10 0 9 1;gang g 10 1;gang h 5 1;gang i 5 1;", "0:0/1;", 0);
        // 10 and 10 of effort: 500 - 10 and 510 - 10 - 10 are what is left
        automatic("bridge 1 1 9;span a none 10 0 9 1;span b none 9 0 9 1;span c none 1 0 9 1;gang g 2 1;gang h 1 1;weather 0 10;",
                "0:0/1;0:1/0;0:2/0;", 0);
        // the tightest gang has too little left
        automatic("bridge 1 1 9;span a none 10 0 9 1;gang g 3 1;gang h 2 1;gang i 1 1;weather 0 5;", "0:0/1;", 0);
        automatic("bridge 1 1 9;span a none 10 0 9 1;span b none 10 0 9 1;gang g 3 1;weather 0 5;", "0:0/0;", 1);
        automatic("bridge 1 1 9;span a none 10 0 9 1;", "", 1);
    }

    static void promise52AutoPlanAsAnEdit() {
        SpanPainter painter = Due.bridge(BRIDGE + "paint 3 b blue;");
        Due.is("autoPlan()", painter.autoPlan(), 0);
        // a and c are past at 1, a with less rust at the beginning; both gangs have enough, red leaves less
        Due.text("the plan", Due.plan(painter), "0:0/0;0:2/0;");
        Due.is("autoPlan()", painter.autoPlan(), Due.UNCHANGED);
        Due.is("undo()", painter.undo(), 0);
        unchanged(painter, "3:1/1;");
        // the same spans and years, but another gang
        SpanPainter other = Due.bridge("bridge 1 1 9;span a none 10 0 9 1;gang g 1 1;gang h 1 1;paint 0 a h;");
        Due.is("autoPlan()", other.autoPlan(), 0);
        Due.text("the plan", Due.plan(other), "0:0/0;");
    }

    static void promise53ApplySafePlan() {
        // a is past at 2, b at 1, c never; efforts at 0: 10 and 10; two gangs with 10
        String text = "bridge 4 2 9;span a none 10 0 30 60;span b none 10 0 40 70;span c none 1 0 1 90;gang g 1 1;gang h 1 1;"
                + "weather 0 10;";
        SpanPainter painter = Due.bridge(text + "paint 3 c h;");
        Due.is("applySafePlan()", painter.applySafePlan(), 2);
        Due.text("the plan", Due.plan(painter), "0:0/1;0:1/0;");
        Due.is("searchTries()", painter.searchTries(), 3);
        Due.is("applySafePlan()", painter.applySafePlan(), Due.UNCHANGED);
        Due.is("undo()", painter.undo(), 0);
        unchanged(painter, "3:2/1;");
        // the empty plan is the safe plan where no span is endangered
        SpanPainter harmless = Due.bridge("bridge 2 1 1;span a none 10 0 1 60;gang g 1 1;paint 0 a g;");
        Due.is("applySafePlan()", harmless.applySafePlan(), 0);
        Due.is("applySafePlan()", harmless.applySafePlan(), Due.UNCHANGED);
        Due.is("undo()", harmless.undo(), 0);
        Due.text("the plan", Due.plan(harmless), "0:0/0;");
        // two paintings would be needed
        SpanPainter unsafe = Due.bridge("bridge 9 1 1;span a none 10 0 30 60;gang g 1 1;paint 0 a g;");
        Due.is("applySafePlan()", unsafe.applySafePlan(), Due.NOT_FOUND);
        unchanged(unsafe, "0:0/0;");
    }

    static void promise54Undo() {
        SpanPainter painter = Due.bridge(BRIDGE);
        Due.is("undo()", painter.undo(), Due.NOT_FOUND);
        for (int days = 0; days < 20; days++) {
            painter.setWeather(0, days);
        }
        for (int left = 15; left >= 0; left--) {
            Due.is("undo()", painter.undo(), left);
            Due.is("capacity(0, 0)", painter.capacity(0, 0), 4 * (left + 3));
        }
        Due.is("undo()", painter.undo(), Due.NOT_FOUND);
        Due.is("capacity(0, 0)", painter.capacity(0, 0), 12);
        painter.setWeather(0, 77);
        Due.is("undo()", painter.undo(), 0);
        Due.is("capacity(0, 0)", painter.capacity(0, 0), 12);
    }

    static void promise54UndoOfEachEdit() {
        SpanPainter painter = Due.bridge(BRIDGE + "paint 1 c blue;");
        Due.is("setShut", painter.setShut(2), 1);
        Due.is("setClosed", painter.setClosed(0, 3, true), 1);
        Due.is("setRate", painter.setRate(0, 2), 0);
        Due.is("setSpeed", painter.setSpeed(1, 1), 1);
        Due.is("paint", painter.paint(0, 0, 0), 0);
        Due.is("unpaint", painter.unpaint(1, 2), 1);
        Due.is("movePainting", painter.movePainting(0, 0, 1), 1);
        Due.is("setRate", painter.setRate(0, 30), 1);
        Due.is("setWeather", painter.setWeather(2, 99), 100);
        Due.is("autoPlan", painter.autoPlan(), 0);
        painter.unpaint(0, 0);
        Due.is("applySafePlan", painter.applySafePlan(), 2);
        Due.is("failed edits are not remembered", painter.setRate(0, 30), Due.UNCHANGED);
        for (int left = 11; left >= 0; left--) {
            Due.is("undo()", painter.undo(), left);
        }
        Due.text("the plan", Due.plan(painter), "1:2/1;");
        Due.is("setShut(1)", painter.setShut(1), Due.UNCHANGED);
        Due.is("setClosed(0, 3, false)", painter.setClosed(0, 3, false), Due.UNCHANGED);
        Due.is("setRate(0, 30)", painter.setRate(0, 30), Due.UNCHANGED);
        Due.is("setSpeed(1, 9)", painter.setSpeed(1, 9), Due.UNCHANGED);
        Due.is("rustAfter(0, 0)", painter.rustAfter(0, 0), 50);
    }

    static void promise54UndoAfterFailures() {
        SpanPainter painter = Due.bridge(BRIDGE);
        painter.paint(0, 0, 0);
        painter.paint(0, 0, 0);
        painter.unpaint(1, 0);
        painter.movePainting(0, 0, 0);
        painter.exchange(0, 0, 0);
        painter.setShut(1);
        Due.load(painter, "?");
        Due.noIndex("paint", () -> painter.paint(9, 9, 9));
        Due.noArgument("setShut(9)", () -> painter.setShut(9));
        Due.is("undo()", painter.undo(), 0);
        unchanged(painter, "");
    }

    static void promise54UndoInTheLargestBridge() {
        StringBuilder text = new StringBuilder("bridge 12 4 0;lane la 1;lane lb 1;lane lc 1;lane ld 1;");
        for (int span = 0; span < 12; span++) {
            text.append("span s").append((char) ('a' + span)).append(" ld 10 0 1 99;");
        }
        text.append("gang ga 1 1;gang gb 1 1;gang gc 1 1;gang gd 1 1;gang ge 9 1;paint 10 sl gd;");
        SpanPainter painter = Due.bridge(text.toString());
        painter.setWeather(11, 3);
        painter.setClosed(3, 11, true);
        painter.setRate(11, 50);
        painter.setSpeed(4, 8);
        painter.unpaint(10, 11);
        painter.paint(9, 11, 4);
        painter.setWeather(0, 1);
        for (int left = 6; left >= 0; left--) {
            Due.is("undo()", painter.undo(), left);
        }
        Due.is("capacity(4, 11)", painter.capacity(4, 11), 900);
        Due.is("setClosed(3, 11, false)", painter.setClosed(3, 11, false), Due.UNCHANGED);
        Due.is("rustAfter(11, 11)", painter.rustAfter(11, 11), 1);
        Due.is("rustAfter(11, 8)", painter.rustAfter(11, 8), 9);
        Due.text("the plan", Due.plan(painter), "10:11/3;");
    }
}
