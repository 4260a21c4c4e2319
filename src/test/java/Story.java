/** All answers of a small bridge but for its output, a line each: what stays as it is when a call fails. */
final class Story {
    private final SpanPainter painter;
    private final StringBuilder lines = new StringBuilder();

    private Story(SpanPainter painter) {
        this.painter = painter;
    }

    /** Makes 172 calls where there are 3 years, 2 lanes, 3 spans and 2 gangs. */
    static String of(SpanPainter painter, int years, int lanes, int spans, int gangs) {
        Story story = new Story(painter);
        story.tellWhole();
        for (int year = 0; year < years; year++) {
            story.tellYear(year);
            for (int span = 0; span < spans; span++) {
                story.tellSpanAndYear(span, year, gangs);
            }
            for (int gang = 0; gang < gangs; gang++) {
                story.tell("gang " + gang + " in " + year, painter.capacity(gang, year), painter.loadOf(gang, year),
                        painter.daysUsed(gang, year));
            }
            for (int lane = 0; lane < lanes; lane++) {
                story.tell("lane " + lane + " in " + year, painter.laneDays(lane, year));
            }
        }
        for (int span = 0; span < spans; span++) {
            story.tellSpan(span);
        }
        for (int gang = 0; gang < gangs; gang++) {
            story.tell("gang " + gang, painter.idleDays(gang), painter.sufficientSpeed(gang), painter.autoPastWithout(gang));
        }
        for (int lane = 0; lane < lanes; lane++) {
            story.tell("lane " + lane, painter.shutYears(lane));
        }
        return story.lines.toString();
    }

    private void tell(String what, double... answers) {
        lines.append('\n').append(what).append(':');
        for (double answer : answers) {
            lines.append(' ').append(answer);
        }
    }

    private void tellWhole() {
        tell("error", painter.errorKind(), painter.errorPosition());
        tell("plan", painter.pastCount(), painter.paintings(), painter.totalWages(), painter.totalLoss(),
                painter.busiestYear(), painter.overloads(), painter.firstOverload());
        tell("search", painter.hasSafePlan(), painter.searchTries());
        tell("settings", painter.autoPast(), painter.criticalGang(), painter.worstYear(), painter.smallestShut(),
                painter.fewestGangs(), painter.extraDays());
    }

    private void tellYear(int year) {
        tell("year " + year, painter.pastSpans(year), painter.rustiest(year), painter.averageRust(year),
                painter.paintedSpans(year), painter.lanesShut(year), painter.trafficLoss(year), painter.wages(year),
                painter.needlessPaintings(year));
    }

    private void tellSpanAndYear(int span, int year, int gangs) {
        String what = "span " + span + " in " + year;
        tell(what, painter.rustBefore(span, year), painter.rustAfter(span, year), painter.guardLeft(span, year),
                painter.effort(span, year), painter.gangOf(span, year), painter.possibleGangs(year, span));
        for (int gang = 0; gang < gangs; gang++) {
            tell(what + " by " + gang, painter.refusal(year, span, gang));
        }
    }

    private void tellSpan(int span) {
        tell("span " + span, painter.pastYear(span), painter.urgent(span), painter.unpaintedPast(span),
                painter.coatsNeeded(span), painter.latestPainting(span, 0), painter.latestPainting(span, 1),
                painter.harmlessRate(span), painter.firstPossible(span), painter.bestPainting(span));
    }
}
