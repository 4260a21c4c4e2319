/** The boundary cases of the section ERRORS AND EDITS and of promises 43 to 54. */
public final class EditBoundsTest {
    private static final String NO_INDEX = "java.lang.IndexOutOfBoundsException";
    private static final String NO_ARGUMENT = "java.lang.IllegalArgumentException";
    /** Efforts in year 0: a 14, b 13, c 22; c has 25 in year 1. */
    private static final String BRIDGE = "bridge 3 1 1;lane l 5;lane m 3;span a l 10 40 30 90;span b m 9 50 30 90;"
            + "span c none 20 10 9 99;gang g 1 1;gang h 2 3;weather 1 15;weather 2 195;closed l 2;";

    /** A call of an object. */
    private interface Act {
        double make(SpanPainter painter);
    }

    public static void main(String[] arguments) throws Exception {
        Due.runAll(EditBoundsTest.class);
    }

    private static String story(SpanPainter painter) {
        return Story.of(painter, 3, 2, 3, 2);
    }

    /**
     * The bridge behind 16 edits, each kind of them among these: a is painted in 0 by g, b in 1 by h and in 2 by g,
     * c in 0 by h and in 2 by g; SHUT is 1, lane l is closed in 2.
     */
    private static SpanPainter edited() {
        SpanPainter painter = Due.bridge(BRIDGE);
        Due.is("autoPlan()", painter.autoPlan(), 0);
        Due.is("setShut(4)", painter.setShut(4), 1);
        painter.setWeather(0, 70);
        painter.setClosed(1, 0, true);
        painter.setClosed(1, 0, false);
        painter.setSpeed(0, 2);
        painter.setRate(2, 50);
        painter.setRate(2, 9);
        painter.setSpeed(0, 1);
        Due.is("applySafePlan()", painter.applySafePlan(), 2);
        Due.is("movePainting(1, 0, 2)", painter.movePainting(1, 0, 2), 1);
        painter.unpaint(2, 1);
        Due.text("the plan", plan(painter), "0:0/0;");
        painter.paint(0, 2, 1);
        painter.paint(1, 1, 1);
        painter.paint(2, 1, 0);
        Due.is("paint(2, 2, 0)", painter.paint(2, 2, 0), 0);
        return painter;
    }

    /** The plan without using the output. */
    private static String plan(SpanPainter painter) {
        StringBuilder told = new StringBuilder();
        for (int year = 0; year < 3; year++) {
            for (int span = 0; span < 3; span++) {
                int gang = painter.gangOf(span, year);
                if (gang != Due.NOT_FOUND) {
                    told.append(year).append(':').append(span).append('/').append(gang).append(';');
                }
            }
        }
        return told.toString();
    }

    /** That a call answers so and changes neither an answer, nor the output, nor any of the 16 edits that can be undone. */
    private static void changesNothing(String what, Act latestEdit, String due, Act act) {
        SpanPainter painter = edited();
        SpanPainter other = edited();
        latestEdit.make(painter);
        latestEdit.make(other);
        painter.write();
        int last = plan(other).length() - 1;
        Due.text(what, Due.outcome(() -> act.make(painter)), due);
        Due.text("all answers behind " + what, story(painter), story(other));
        Due.is("the last byte behind " + what, painter.outputByte(last), ';');
        Due.noIndex("the next byte behind " + what, () -> painter.outputByte(last + 1));
        for (int left = 15; left >= 0; left--) {
            Due.is("undo() behind " + what, painter.undo(), left);
            other.undo();
        }
        Due.is("the last undo() behind " + what, painter.undo(), Due.NOT_FOUND);
        Due.text("all answers behind " + what + " and undo()", story(painter), story(other));
    }

    private static void changesNothing(String what, Act latestEdit, int due, Act act) {
        changesNothing(what, latestEdit, String.valueOf(due), act);
    }

    private static void changesNothing(String what, String due, Act act) {
        changesNothing(what, painter -> painter.setShut(1), due, act);
    }

    private static void changesNothing(String what, int due, Act act) {
        changesNothing(what, String.valueOf(due), act);
    }

    // ---- ERRORS AND EDITS

    /** "A year, span, lane or gang that does not exist, given as a parameter, throws ...; ... changes nothing": the edits. */
    static void sectionErrorsAndEditsNoIndexInEdits() {
        for (int bad : new int[] {-1, 3, Integer.MIN_VALUE, Integer.MAX_VALUE}) {
            changesNothing("paint year", NO_INDEX, painter -> painter.paint(bad, 0, 0));
            changesNothing("paint span", NO_INDEX, painter -> painter.paint(0, bad, 0));
            changesNothing("unpaint year", NO_INDEX, painter -> painter.unpaint(bad, 0));
            changesNothing("unpaint span", NO_INDEX, painter -> painter.unpaint(0, bad));
            changesNothing("movePainting span", NO_INDEX, painter -> painter.movePainting(bad, 0, 1));
            changesNothing("movePainting from", NO_INDEX, painter -> painter.movePainting(0, bad, 1));
            changesNothing("movePainting to", NO_INDEX, painter -> painter.movePainting(0, 0, bad));
            changesNothing("exchange year", NO_INDEX, painter -> painter.exchange(bad, 0, 2));
            changesNothing("exchange span", NO_INDEX, painter -> painter.exchange(0, bad, 2));
            changesNothing("exchange other", NO_INDEX, painter -> painter.exchange(0, 0, bad));
            changesNothing("setWeather year", NO_INDEX, painter -> painter.setWeather(bad, 7));
            changesNothing("setClosed year", NO_INDEX, painter -> painter.setClosed(0, bad, true));
            changesNothing("setRate span", NO_INDEX, painter -> painter.setRate(bad, 7));
        }
        for (int bad : new int[] {-1, 2, Integer.MIN_VALUE, Integer.MAX_VALUE}) {
            changesNothing("paint gang", NO_INDEX, painter -> painter.paint(1, 0, bad));
            changesNothing("setClosed lane", NO_INDEX, painter -> painter.setClosed(bad, 0, true));
            changesNothing("setSpeed gang", NO_INDEX, painter -> painter.setSpeed(bad, 7));
        }
    }

    /** "... changes nothing": all calls that are no edits, one after the other. */
    static void sectionErrorsAndEditsNoIndexInQuestions() {
        for (int bad : new int[] {-1, 12}) {
            SpanPainter painter = edited();
            String before = story(edited());
            int size = painter.write();
            askAboutSpans(painter, bad);
            askAboutWork(painter, bad);
            Due.noIndex("urgent", () -> painter.urgent(bad));
            Due.noIndex("autoPastWithout", () -> painter.autoPastWithout(bad));
            Due.noIndex("outputByte", () -> painter.outputByte(bad < 0 ? bad : size));
            Due.is("latestPainting", painter.latestPainting(0, bad), Due.NOT_FOUND);
            Due.text("all answers", story(painter), before);
            Due.is("the last byte", painter.outputByte(size - 1), ';');
            for (int left = 15; left >= 0; left--) {
                Due.is("undo()", painter.undo(), left);
            }
            Due.is("undo()", painter.undo(), Due.NOT_FOUND);
        }
    }

    private static void askAboutSpans(SpanPainter painter, int bad) {
        Due.noIndex("rustBefore span", () -> painter.rustBefore(bad, 0));
        Due.noIndex("rustBefore year", () -> painter.rustBefore(0, bad));
        Due.noIndex("rustAfter span", () -> painter.rustAfter(bad, 0));
        Due.noIndex("rustAfter year", () -> painter.rustAfter(0, bad));
        Due.noIndex("guardLeft span", () -> painter.guardLeft(bad, 0));
        Due.noIndex("guardLeft year", () -> painter.guardLeft(0, bad));
        Due.noIndex("pastYear", () -> painter.pastYear(bad));
        Due.noIndex("pastSpans", () -> painter.pastSpans(bad));
        Due.noIndex("rustiest", () -> painter.rustiest(bad));
        Due.noIndex("averageRust", () -> painter.averageRust(bad));
        Due.noIndex("unpaintedPast", () -> painter.unpaintedPast(bad));
        Due.noIndex("coatsNeeded", () -> painter.coatsNeeded(bad));
        Due.noIndex("latestPainting", () -> painter.latestPainting(bad, 0));
        Due.noIndex("harmlessRate", () -> painter.harmlessRate(bad));
        Due.noIndex("effort span", () -> painter.effort(bad, 0));
        Due.noIndex("effort year", () -> painter.effort(0, bad));
    }

    private static void askAboutWork(SpanPainter painter, int bad) {
        Due.noIndex("capacity gang", () -> painter.capacity(bad, 0));
        Due.noIndex("capacity year", () -> painter.capacity(0, bad));
        Due.noIndex("loadOf gang", () -> painter.loadOf(bad, 0));
        Due.noIndex("loadOf year", () -> painter.loadOf(0, bad));
        Due.noIndex("gangOf span", () -> painter.gangOf(bad, 0));
        Due.noIndex("gangOf year", () -> painter.gangOf(0, bad));
        Due.noIndex("paintedSpans", () -> painter.paintedSpans(bad));
        Due.noIndex("lanesShut", () -> painter.lanesShut(bad));
        Due.noIndex("daysUsed gang", () -> painter.daysUsed(bad, 0));
        Due.noIndex("daysUsed year", () -> painter.daysUsed(0, bad));
        Due.noIndex("laneDays lane", () -> painter.laneDays(bad, 0));
        Due.noIndex("laneDays year", () -> painter.laneDays(0, bad));
        Due.noIndex("trafficLoss", () -> painter.trafficLoss(bad));
        Due.noIndex("wages", () -> painter.wages(bad));
        Due.noIndex("idleDays", () -> painter.idleDays(bad));
        Due.noIndex("refusal year", () -> painter.refusal(bad, 0, 0));
        Due.noIndex("refusal span", () -> painter.refusal(0, bad, 0));
        Due.noIndex("refusal gang", () -> painter.refusal(0, 0, bad));
        Due.noIndex("possibleGangs year", () -> painter.possibleGangs(bad, 0));
        Due.noIndex("possibleGangs span", () -> painter.possibleGangs(0, bad));
        Due.noIndex("firstPossible", () -> painter.firstPossible(bad));
        Due.noIndex("bestPainting", () -> painter.bestPainting(bad));
        Due.noIndex("shutYears", () -> painter.shutYears(bad));
        Due.noIndex("needlessPaintings", () -> painter.needlessPaintings(bad));
        Due.noIndex("sufficientSpeed", () -> painter.sufficientSpeed(bad));
    }

    /** "A parameter that is out of its range throws IllegalArgumentException": one too small, one too large. */
    static void sectionErrorsAndEditsOutOfRange() {
        changesNothing("setWeather(0, -1)", NO_ARGUMENT, painter -> painter.setWeather(0, -1));
        changesNothing("setWeather(0, 201)", NO_ARGUMENT, painter -> painter.setWeather(0, 201));
        changesNothing("setShut(0)", NO_ARGUMENT, painter -> painter.setShut(0));
        changesNothing("setShut(5)", NO_ARGUMENT, painter -> painter.setShut(5));
        changesNothing("setRate(0, 0)", NO_ARGUMENT, painter -> painter.setRate(0, 0));
        changesNothing("setRate(0, 51)", NO_ARGUMENT, painter -> painter.setRate(0, 51));
        changesNothing("setSpeed(0, 0)", NO_ARGUMENT, painter -> painter.setSpeed(0, 0));
        changesNothing("setSpeed(0, 51)", NO_ARGUMENT, painter -> painter.setSpeed(0, 51));
        changesNothing("load(-1)", NO_ARGUMENT, painter -> painter.load(-1));
        changesNothing("load(1)", NO_ARGUMENT, painter -> painter.load(1));
    }

    /** "This is checked first ...; this is checked next": the index, then the range. */
    static void sectionErrorsAndEditsIndexBeforeRange() {
        SpanPainter painter = Due.bridge(BRIDGE);
        for (int bad : new int[] {-1, 3, Integer.MIN_VALUE, Integer.MAX_VALUE}) {
            Due.noIndex("setWeather", () -> painter.setWeather(bad, -1));
            Due.noIndex("setWeather", () -> painter.setWeather(bad, 201));
            Due.noIndex("setRate", () -> painter.setRate(bad, 0));
            Due.noIndex("setRate", () -> painter.setRate(bad, 51));
            Due.noIndex("setSpeed", () -> painter.setSpeed(bad, 0));
            Due.noIndex("setSpeed", () -> painter.setSpeed(bad, 51));
        }
    }

    /** "Other failures are told by the negative constants": an index that does not exist is told before them. */
    static void sectionErrorsAndEditsIndexBeforeConstants() {
        SpanPainter painter = Due.bridge(BRIDGE + "paint 0 a g;");
        Due.noIndex("paint that would be refused", () -> painter.paint(0, 0, 2));
        Due.noIndex("unpaint of no painting", () -> painter.unpaint(3, 1));
        Due.noIndex("movePainting of no painting", () -> painter.movePainting(1, 0, 3));
        Due.noIndex("movePainting of no painting", () -> painter.movePainting(1, 3, 3));
        Due.noIndex("exchange of no paintings", () -> painter.exchange(1, 0, 3));
        Due.noIndex("exchange of no paintings", () -> painter.exchange(1, 3, 3));
        Due.noIndex("setClosed that changes nothing", () -> painter.setClosed(2, 0, false));
        Due.noIndex("latestPainting of no painting", () -> painter.latestPainting(3, -1));
    }

    /** "A call that fails ... changes nothing": REFUSED, for each of the reasons. */
    static void sectionErrorsAndEditsRefused() {
        changesNothing("paint of what is painted", Due.REFUSED, painter -> painter.paint(0, 0, 1));
        changesNothing("paint in a closed lane", Due.REFUSED, painter -> painter.paint(2, 0, 1));
        changesNothing("paint with a lane too many", Due.REFUSED, painter -> painter.paint(0, 1, 0));
        changesNothing("paint with too much load", Due.REFUSED, painter -> painter.paint(1, 2, 0));
        changesNothing("move to where it is painted", Due.REFUSED, painter -> painter.movePainting(1, 1, 2));
        changesNothing("move to a closed lane", Due.REFUSED, painter -> painter.movePainting(0, 0, 2));
        changesNothing("move with a lane too many", Due.REFUSED, painter -> painter.movePainting(0, 0, 1));
        changesNothing("move with too much load", Due.REFUSED, painter -> painter.movePainting(2, 2, 1));
    }

    /** "A call that fails ... changes nothing": NOT_FOUND and UNCHANGED. */
    static void sectionErrorsAndEditsNotFoundAndUnchanged() {
        changesNothing("unpaint", Due.NOT_FOUND, painter -> painter.unpaint(1, 0));
        changesNothing("movePainting", Due.NOT_FOUND, painter -> painter.movePainting(0, 1, 2));
        changesNothing("movePainting", Due.NOT_FOUND, painter -> painter.movePainting(0, 1, 1));
        changesNothing("movePainting", Due.UNCHANGED, painter -> painter.movePainting(0, 0, 0));
        changesNothing("exchange, the first", Due.NOT_FOUND, painter -> painter.exchange(0, 1, 0));
        changesNothing("exchange, the second", Due.NOT_FOUND, painter -> painter.exchange(0, 0, 1));
        changesNothing("exchange, both", Due.NOT_FOUND, painter -> painter.exchange(1, 0, 2));
        changesNothing("exchange with itself", Due.UNCHANGED, painter -> painter.exchange(0, 2, 2));
        changesNothing("exchange of the same gang", Due.UNCHANGED, painter -> painter.exchange(2, 1, 2));
        changesNothing("setWeather", Due.UNCHANGED, painter -> painter.setWeather(0, 70));
        changesNothing("setShut", Due.UNCHANGED, painter -> painter.setShut(1));
        changesNothing("setClosed", Due.UNCHANGED, painter -> painter.setClosed(0, 2, true));
        changesNothing("setClosed", Due.UNCHANGED, painter -> painter.setClosed(1, 2, false));
        changesNothing("setRate", Due.UNCHANGED, painter -> painter.setRate(1, 30));
        changesNothing("setSpeed", Due.UNCHANGED, painter -> painter.setSpeed(1, 2));
    }

    /** "A call that fails ... changes nothing": the plans that cannot be made, or are there already. */
    static void sectionErrorsAndEditsOfWholePlans() {
        changesNothing("applySafePlan of no safe plan", painter -> painter.setWeather(0, 0), Due.NOT_FOUND,
                painter -> painter.applySafePlan());
        changesNothing("applySafePlan of this plan", painter -> painter.applySafePlan(), Due.UNCHANGED,
                painter -> painter.applySafePlan());
        changesNothing("autoPlan of this plan", painter -> painter.autoPlan(), Due.UNCHANGED, painter -> painter.autoPlan());
        SpanPainter painter = edited();
        for (int left = 15; left >= 0; left--) {
            painter.undo();
        }
        Due.is("undo() of no edit", painter.undo(), Due.NOT_FOUND);
        Due.text("all answers behind undo()", story(painter), story(Due.bridge(BRIDGE)));
    }

    /** "A call that fails ... changes nothing": GIVEN_UP, with a full history. */
    static void sectionErrorsAndEditsGivenUp() {
        SpanPainter painter = SearchBoundsTest.longSearch(8);
        for (int days = 0; days < 20; days++) {
            painter.setWeather(11, 200 - days);
        }
        Due.is("applySafePlan()", painter.applySafePlan(), Due.GIVEN_UP);
        Due.is("paintings()", painter.paintings(), 0);
        Due.is("pastCount()", painter.pastCount(), 10);
        for (int left = 15; left >= 0; left--) {
            Due.is("capacity(0, 11)", painter.capacity(0, 11), 196 - left);
            Due.is("undo()", painter.undo(), left);
        }
        Due.is("undo()", painter.undo(), Due.NOT_FOUND);
    }

    /** "Load() empties the buffer and stores the error of the text when it returns BAD_TEXT", and changes nothing else. */
    static void sectionErrorsAndEditsBadText() {
        String[] texts = {"?", "lane x 1;lane x 1;", "bridge 12 4 10;lane l 9;span a l 1 1 1 1;gang g 9 9;closed l 0;weather 0 3;"
                + "paint 0 a g;paint 1 a g;paint 2 a g;paint 0 a g;", Bridges.padded("weather 0 7", 900), "paint"};
        int[] kinds = {1, 4, 6, 2, 2};
        int[] positions = {0, 14, 119, 900, 5};
        for (int index = 0; index < texts.length; index++) {
            SpanPainter painter = edited();
            SpanPainter other = edited();
            Due.load(other, "?");
            Due.is("load", Due.load(painter, texts[index]), Due.BAD_TEXT);
            Due.is("errorKind()", painter.errorKind(), kinds[index]);
            Due.is("errorPosition()", painter.errorPosition(), positions[index]);
            Due.noArgument("load(1) of an empty buffer", () -> painter.load(1));
            String same = story(painter).replaceFirst("error: .*", "");
            Due.text("all answers", same, story(other).replaceFirst("error: .*", ""));
            for (int left = 15; left >= 0; left--) {
                Due.is("undo()", painter.undo(), left);
            }
            Due.is("undo()", painter.undo(), Due.NOT_FOUND);
        }
        SpanPainter empty = edited();
        Due.is("load(0), which is legal", empty.load(0), 0);
        Due.is("undo()", empty.undo(), Due.NOT_FOUND);
    }

    /** FULL changes nothing. */
    static void sectionErrorsAndEditsFull() {
        SpanPainter painter = edited();
        SpanPainter other = edited();
        Due.feed(painter, " ".repeat(900));
        Due.is("feed", painter.feed(0, 0, 0, 0, 0), Due.FULL);
        Due.text("all answers", story(painter), story(other));
        Due.is("undo()", painter.undo(), 15);
    }

    // ---- the history

    /** "At most 16 edits are remembered; an older edit cannot be undone any more": 15, 16, 17 and many edits. */
    static void sectionErrorsAndEditsHistoryOf16() {
        for (int edits : new int[] {0, 1, 2, 15, 16, 17, 18, 31, 32, 33, 34, 100}) {
            SpanPainter painter = Due.bridge("gang g 1 1;");
            for (int edit = 1; edit <= edits; edit++) {
                Due.is("setWeather", painter.setWeather(0, 100 + edit), 99 + edit);
            }
            int kept = Math.min(16, edits);
            for (int left = kept - 1; left >= 0; left--) {
                Due.is("undo() of " + edits, painter.undo(), left);
                Due.is("capacity(0, 0) of " + edits, painter.capacity(0, 0), 100 + edits - kept + left);
            }
            Due.is("undo() of " + edits, painter.undo(), Due.NOT_FOUND);
            Due.is("undo() of " + edits, painter.undo(), Due.NOT_FOUND);
            Due.is("capacity(0, 0) of " + edits, painter.capacity(0, 0), 100 + edits - kept);
        }
    }

    /** A full history, some edits undone, others made: "the latest edit that is not undone yet" is undone. */
    static void promise54UndoAndEditsInTurn() {
        for (int undone = 1; undone <= 16; undone++) {
            SpanPainter painter = Due.bridge("gang g 1 1;");
            for (int days = 1; days <= 20; days++) {
                painter.setWeather(0, days);
            }
            for (int count = 1; count <= undone; count++) {
                Due.is("undo()", painter.undo(), 16 - count);
            }
            Due.is("capacity(0, 0)", painter.capacity(0, 0), 20 - undone);
            painter.setWeather(0, 200);
            painter.setWeather(0, 199);
            int kept = Math.min(16, 18 - undone);
            Due.is("undo()", painter.undo(), kept - 1);
            Due.is("capacity(0, 0)", painter.capacity(0, 0), 200);
            for (int left = kept - 2; left >= 0; left--) {
                Due.is("undo()", painter.undo(), left);
                Due.is("capacity(0, 0)", painter.capacity(0, 0), undone == 1 ? left + 5 : left + 4);
            }
            Due.is("undo()", painter.undo(), Due.NOT_FOUND);
        }
    }

    /** What an edit did not change stays behind undo(): that of the last year, span, lane and gang, too. */
    static void promise54UndoChangesNothingElse() {
        SpanPainter painter = Due.bridge(Bridges.largest(0, "1 0 2 100") + "closed ld 11;closed la 5;weather 11 3;paint 11 sl ge;");
        for (int edit = 0; edit < 20; edit++) {
            painter.setShut(edit % 2 == 0 ? 3 : 4);
        }
        for (int left = 15; left >= 0; left--) {
            Due.is("undo()", painter.undo(), left);
        }
        Due.is("setClosed(3, 11, true)", painter.setClosed(3, 11, true), Due.UNCHANGED);
        Due.is("setClosed(0, 5, true)", painter.setClosed(0, 5, true), Due.UNCHANGED);
        Due.is("setClosed(3, 10, false)", painter.setClosed(3, 10, false), Due.UNCHANGED);
        Due.is("setWeather(11, 3)", painter.setWeather(11, 3), Due.UNCHANGED);
        Due.is("setWeather(10, 100)", painter.setWeather(10, 100), Due.UNCHANGED);
        Due.is("setRate(11, 2)", painter.setRate(11, 2), Due.UNCHANGED);
        Due.is("setSpeed(4, 50)", painter.setSpeed(4, 50), Due.UNCHANGED);
        Due.is("gangOf(11, 11)", painter.gangOf(11, 11), 4);
        Due.is("paintings()", painter.paintings(), 1);
    }

    /** "Undo" is no edit: what is undone cannot come back. */
    static void promise54UndoIsNoEdit() {
        SpanPainter painter = Due.bridge("gang g 1 1;");
        Due.is("undo()", painter.undo(), Due.NOT_FOUND);
        painter.setWeather(0, 7);
        Due.is("undo()", painter.undo(), 0);
        Due.is("undo()", painter.undo(), Due.NOT_FOUND);
        Due.is("capacity(0, 0)", painter.capacity(0, 0), 100);
        painter.setWeather(0, 7);
        painter.setWeather(0, 8);
        Due.is("undo()", painter.undo(), 1);
        Due.is("capacity(0, 0)", painter.capacity(0, 0), 7);
        Due.is("undo()", painter.undo(), 0);
        Due.is("capacity(0, 0)", painter.capacity(0, 0), 100);
    }

    /** "Every successful edit can be undone": each kind as the latest, as the oldest of 16, and not as the 17th. */
    static void promise54EachKindAsTheOldest() {
        Act[] edits = {
            painter -> painter.paint(1, 1, 1), painter -> painter.unpaint(0, 0), painter -> painter.movePainting(2, 0, 1),
            painter -> painter.exchange(0, 0, 2), painter -> painter.setWeather(1, 200), painter -> painter.setShut(4),
            painter -> painter.setClosed(0, 2, false), painter -> painter.setClosed(1, 0, true),
            painter -> painter.setRate(1, 50), painter -> painter.setSpeed(0, 50), painter -> painter.autoPlan(),
            painter -> painter.applySafePlan()
        };
        String text = BRIDGE + "paint 0 a g;paint 0 c h;";
        String before = story(Due.bridge(text));
        for (int kind = 0; kind < edits.length; kind++) {
            SpanPainter painter = Due.bridge(text);
            double answer = edits[kind].make(painter);
            Due.is("the edit " + kind + " succeeds: " + answer, answer > -1000000 ? 1 : 0, 1);
            Due.is("the edit " + kind + " changes an answer", story(painter).equals(before) ? 0 : 1, 1);
            Due.is("undo()", painter.undo(), 0);
            Due.text("all answers behind undo() of edit " + kind, story(painter), before);
            Due.is("undo()", painter.undo(), Due.NOT_FOUND);
            SpanPainter oldest = Due.bridge(text);
            edits[kind].make(oldest);
            for (int days = 1; days <= 15; days++) {
                oldest.setWeather(2, days);
            }
            for (int left = 15; left >= 0; left--) {
                Due.is("undo()", oldest.undo(), left);
            }
            Due.text("all answers behind 16 undo() of edit " + kind, story(oldest), before);
            SpanPainter older = Due.bridge(text);
            edits[kind].make(older);
            String behind = story(older);
            for (int days = 1; days <= 16; days++) {
                older.setWeather(2, days);
            }
            for (int left = 15; left >= 0; left--) {
                Due.is("undo()", older.undo(), left);
            }
            Due.is("undo()", older.undo(), Due.NOT_FOUND);
            Due.text("the 17th edit back, of kind " + kind + ", stays", story(older), behind);
        }
    }

    /** "A successful load() forgets all edits": also of a full history, and of a text without any statement. */
    static void sectionErrorsAndEditsLoadForgets() {
        for (String text : new String[] {"", BRIDGE, Bridges.largest(0, "1 1 1 1")}) {
            SpanPainter painter = edited();
            Due.is("load", Due.load(painter, text) < 0 ? 1 : 0, 0);
            Due.is("undo()", painter.undo(), Due.NOT_FOUND);
            painter.setShut(3);
            Due.is("undo()", painter.undo(), 0);
            Due.is("undo()", painter.undo(), Due.NOT_FOUND);
        }
    }

    // ---- promises 43 to 53

    /** The first and the last indexes of the largest bridge, and those beside them. */
    static void promise43To46InTheLargestBridge() {
        SpanPainter painter = Due.bridge(Bridges.largest(0, "1 0 1 100"));
        Due.is("paint(11, 11, 4)", painter.paint(11, 11, 4), 0);
        Due.is("paint(0, 0, 0)", painter.paint(0, 0, 0), 0);
        Due.is("paint(11, 0, 0)", painter.paint(11, 0, 0), 0);
        Due.text("the plan", Due.plan(painter), "0:0/0;11:0/0;11:11/4;");
        Due.is("exchange(11, 11, 0)", painter.exchange(11, 11, 0), 0);
        Due.text("the plan", Due.plan(painter), "0:0/0;11:0/4;11:11/0;");
        Due.is("movePainting(11, 11, 0)", painter.movePainting(11, 11, 0), 0);
        Due.is("movePainting(0, 0, 10)", painter.movePainting(0, 0, 10), 0);
        Due.text("the plan", Due.plan(painter), "0:11/0;10:0/0;11:0/4;");
        Due.is("unpaint(11, 0)", painter.unpaint(11, 0), 4);
        Due.is("unpaint(0, 11)", painter.unpaint(0, 11), 0);
        Due.text("the plan", Due.plan(painter), "10:0/0;");
        Due.noIndexBeyond("paint year", 12, year -> painter.paint(year, 0, 0));
        Due.noIndexBeyond("paint span", 12, span -> painter.paint(0, span, 0));
        Due.noIndexBeyond("paint gang", 5, gang -> painter.paint(0, 0, gang));
        Due.noIndexBeyond("unpaint year", 12, year -> painter.unpaint(year, 0));
        Due.noIndexBeyond("unpaint span", 12, span -> painter.unpaint(10, span));
        Due.noIndexBeyond("movePainting span", 12, span -> painter.movePainting(span, 10, 0));
        Due.noIndexBeyond("movePainting from", 12, from -> painter.movePainting(0, from, 0));
        Due.noIndexBeyond("movePainting to", 12, to -> painter.movePainting(0, 10, to));
        Due.noIndexBeyond("exchange year", 12, year -> painter.exchange(year, 0, 1));
        Due.noIndexBeyond("exchange span", 12, span -> painter.exchange(10, span, 0));
        Due.noIndexBeyond("exchange other", 12, other -> painter.exchange(10, 0, other));
        Due.is("undo()", painter.undo(), 7);
    }

    /** "Returns the new pastCount()": from 12 down to 0. */
    static void promise43PaintDownToNothing() {
        SpanPainter painter = Due.bridge(Bridges.largest(10, "1 100 50 99"));
        for (int span = 0; span < 12; span++) {
            Due.is("paint", painter.paint(0, span, 0), 11 - span);
        }
        for (int span = 0; span < 12; span++) {
            Due.is("movePainting", painter.movePainting(span, 0, 1), span + 1);
        }
    }

    /** "Would be refused once the other one is removed": its lane and its load in the year from do not matter any more. */
    static void promise45MovePaintingOnceRemoved() {
        // painted at 0, the effort at 1 would be 10, without that painting it is 15
        String text = "bridge 3 1 1;lane k 1;lane l 1;span a k 10 20 30 100;span b l 10 20 30 100;gang g 1 1;paint 0 a g;weather 1 ";
        Due.is("as great as the capacity", Due.bridge(text + "15;").movePainting(0, 0, 1), 0);
        Due.is("greater than the capacity", Due.bridge(text + "14;").movePainting(0, 0, 1), Due.REFUSED);
        // the effort at 0 is 12, whatever is painted later
        SpanPainter back = Due.bridge(text + "15;paint 2 b g;weather 0 24;");
        Due.is("to the first year with another lane", back.movePainting(1, 2, 0), Due.REFUSED);
        back.setShut(2);
        Due.is("to the first year", back.movePainting(1, 2, 0), 0);
        SpanPainter tight = Due.bridge(text + "15;paint 2 b g;weather 0 23;");
        tight.setShut(2);
        Due.is("with too much load", tight.movePainting(1, 2, 0), Due.REFUSED);
        // the painting to be moved would be overloaded where it is: that does not matter
        SpanPainter over = Due.bridge(text + "15;weather 0 0;closed k 0;");
        Due.is("from a closed lane without days", over.movePainting(0, 0, 1), 0);
        Due.is("and not back", over.movePainting(0, 1, 0), Due.REFUSED);
    }

    /** Exchanged paintings are not checked: the loads may be greater than the capacities. */
    static void promise46ExchangeIsNotChecked() {
        SpanPainter painter = Due.bridge("bridge 1 1 0;lane k 1;lane l 1;span a k 10 0 1 9;span b l 20 0 1 9;gang g 1 1;gang h 2 1;"
                + "weather 0 10;closed k 0;closed l 0;paint 0 a g;paint 0 b h;");
        Due.is("overloads()", painter.overloads(), 0);
        Due.is("20 of 10", painter.exchange(0, 0, 1), 1);
        Due.is("back", painter.exchange(0, 1, 0), 0);
        painter.setWeather(0, 0);
        Due.is("both in any case", painter.exchange(0, 0, 1), 2);
    }

    /** The ends of the ranges, and the values beside them. */
    static void promise47To51Ranges() {
        SpanPainter painter = Due.bridge(Bridges.largest(0, "1 0 2 100"));
        Due.is("setWeather(11, 0)", painter.setWeather(11, 0), 100);
        Due.is("setWeather(11, 200)", painter.setWeather(11, 200), 0);
        Due.is("setWeather(11, 1)", painter.setWeather(11, 1), 200);
        Due.is("setWeather(11, 199)", painter.setWeather(11, 199), 1);
        Due.is("capacity(4, 11)", painter.capacity(4, 11), 50 * 199);
        Due.is("capacity(4, 10)", painter.capacity(4, 10), 5000);
        Due.noArgumentBeyond("setWeather", 0, 200, days -> painter.setWeather(11, days));
        Due.noIndexBeyond("setWeather", 12, year -> painter.setWeather(year, 7));
        for (int shut = 1; shut <= 4; shut++) {
            Due.is("setShut(" + shut + ")", painter.setShut(shut), shut == 1 ? 4 : shut - 1);
            Due.is("setShut(" + shut + ")", painter.setShut(shut), Due.UNCHANGED);
        }
        Due.noArgumentBeyond("setShut", 1, 4, painter::setShut);
        Due.is("setRate(11, 50)", painter.setRate(11, 50), 0);
        Due.is("rustAfter(11, 0)", painter.rustAfter(11, 0), 50);
        Due.is("setRate(11, 1)", painter.setRate(11, 1), 0);
        Due.is("rustAfter(11, 11)", painter.rustAfter(11, 11), 12);
        Due.is("rustAfter(10, 11)", painter.rustAfter(10, 11), 24);
        Due.noArgumentBeyond("setRate", 1, 50, rate -> painter.setRate(11, rate));
        Due.noIndexBeyond("setRate", 12, span -> painter.setRate(span, 7));
        Due.is("setSpeed(4, 1)", painter.setSpeed(4, 1), 0);
        Due.is("capacity(4, 0)", painter.capacity(4, 0), 100);
        Due.is("setSpeed(4, 50)", painter.setSpeed(4, 50), 0);
        Due.is("capacity(4, 0)", painter.capacity(4, 0), 5000);
        Due.is("capacity(3, 0)", painter.capacity(3, 0), 5000);
        Due.noArgumentBeyond("setSpeed", 1, 50, speed -> painter.setSpeed(4, speed));
        Due.noIndexBeyond("setSpeed", 5, gang -> painter.setSpeed(gang, 7));
    }

    /** "Returns the closed lanes of that year as bits": all, none, the first and the last lane and year. */
    static void promise49SetClosedInTheLargestBridge() {
        SpanPainter painter = Due.bridge(Bridges.largest(0, "1 0 2 100"));
        int bits = 0;
        for (int lane = 0; lane < 4; lane++) {
            bits += 1 << lane;
            Due.is("setClosed(" + lane + ", 11, true)", painter.setClosed(lane, 11, true), bits);
            Due.is("setClosed(" + lane + ", 11, true)", painter.setClosed(lane, 11, true), Due.UNCHANGED);
        }
        Due.is("setClosed(3, 0, true)", painter.setClosed(3, 0, true), 8);
        Due.is("setClosed(3, 10, false)", painter.setClosed(3, 10, false), Due.UNCHANGED);
        for (int lane = 3; lane >= 0; lane--) {
            Due.is("refusal of lane " + lane, painter.refusal(11, lane, 4), 2);
            bits -= 1 << lane;
            Due.is("setClosed(" + lane + ", 11, false)", painter.setClosed(lane, 11, false), bits);
            Due.is("refusal of lane " + lane, painter.refusal(11, lane, 4), 0);
            Due.is("setClosed(" + lane + ", 11, false)", painter.setClosed(lane, 11, false), Due.UNCHANGED);
        }
        for (boolean closed : new boolean[] {true, false}) {
            Due.noIndexBeyond("setClosed lane", 4, lane -> painter.setClosed(lane, 11, closed));
            Due.noIndexBeyond("setClosed year", 12, year -> painter.setClosed(3, year, closed));
        }
    }

    /** "Closes a lane in a year (it cannot be shut for painting then)": what is painted there already stays. */
    static void promise49SetClosedOfAPaintedLane() {
        SpanPainter painter = Due.bridge(BRIDGE + "paint 0 a h;");
        Due.is("setClosed(0, 0, true)", painter.setClosed(0, 0, true), 1);
        Due.is("lanesShut(0)", painter.lanesShut(0), 1);
        Due.text("the plan", plan(painter), "0:0/1;");
        Due.is("movePainting(0, 0, 1)", painter.movePainting(0, 0, 1), 1);
        Due.is("movePainting(0, 1, 0)", painter.movePainting(0, 1, 0), Due.REFUSED);
    }

    /** "UNCHANGED if the plan is the automatic plan already": also where both are empty, and not where a gang differs. */
    static void promise52AutoPlanUnchanged() {
        Due.is("no spans", new SpanPainter().autoPlan(), Due.UNCHANGED);
        SpanPainter largest = Due.bridge(Bridges.largest(0, "99 100 50 49"));
        Due.is("autoPlan()", largest.autoPlan(), 0);
        Due.is("paintings()", largest.paintings(), 144);
        Due.is("autoPlan()", largest.autoPlan(), Due.UNCHANGED);
        Due.is("setShut(3)", largest.setShut(3), 4);
        Due.is("autoPlan(): a lane stays open", largest.autoPlan(), 3);
        Due.is("paintings()", largest.paintings(), 108);
        Due.is("undo()", largest.undo(), 2);
        Due.is("undo()", largest.undo(), 1);
        Due.is("autoPlan()", largest.autoPlan(), Due.UNCHANGED);
        // the last span of the last year decides
        largest.unpaint(11, 11);
        Due.is("autoPlan()", largest.autoPlan(), 0);
        Due.is("gangOf(11, 11)", largest.gangOf(11, 11), 0);
        largest.unpaint(11, 11);
        largest.paint(11, 11, 4);
        Due.is("autoPlan()", largest.autoPlan(), 0);
        Due.is("gangOf(11, 11)", largest.gangOf(11, 11), 0);
        // an empty automatic plan
        SpanPainter none = Due.bridge(Bridges.largest(0, "99 100 50 100") + "paint 11 sl ge;");
        Due.is("autoPlan()", none.autoPlan(), 0);
        Due.is("paintings()", none.paintings(), 0);
        Due.is("autoPlan()", none.autoPlan(), Due.UNCHANGED);
        Due.is("undo()", none.undo(), 0);
        Due.is("gangOf(11, 11)", none.gangOf(11, 11), 4);
    }

    /** "The number of its paintings", 0 to 12; "UNCHANGED if the plan is this one already". */
    static void promise53ApplySafePlanFrom0To12() {
        Due.is("no spans", new SpanPainter().applySafePlan(), Due.UNCHANGED);
        SpanPainter twelve = Due.bridge(Bridges.largest(10, "99 100 50 50"));
        Due.is("applySafePlan()", twelve.applySafePlan(), 12);
        Due.is("paintedSpans(0)", twelve.paintedSpans(0), 4095);
        Due.is("applySafePlan()", twelve.applySafePlan(), Due.UNCHANGED);
        twelve.unpaint(0, 11);
        Due.is("applySafePlan()", twelve.applySafePlan(), 12);
        twelve.paint(11, 11, 4);
        Due.is("applySafePlan()", twelve.applySafePlan(), 12);
        Due.is("undo()", twelve.undo(), 4);
        Due.is("gangOf(11, 11)", twelve.gangOf(11, 11), 4);
        SpanPainter none = Due.bridge(Bridges.largest(0, "99 100 50 100") + "paint 11 sl ge;");
        Due.is("applySafePlan()", none.applySafePlan(), 0);
        Due.is("applySafePlan()", none.applySafePlan(), Due.UNCHANGED);
        Due.is("undo()", none.undo(), 0);
        Due.is("gangOf(11, 11)", none.gangOf(11, 11), 4);
        SpanPainter without = Due.bridge(Bridges.largest(9, "99 100 50 49") + "paint 11 sl ge;");
        Due.is("two paintings would be needed", without.applySafePlan(), Due.NOT_FOUND);
        Due.is("undo()", without.undo(), Due.NOT_FOUND);
        Due.is("gangOf(11, 11)", without.gangOf(11, 11), 4);
    }
}
