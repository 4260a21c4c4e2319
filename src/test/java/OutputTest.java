/** Promises 64 and 65. */
public final class OutputTest {
    private static final String BRIDGE = "bridge 3 1 9;span a none 10 0 30 20;span b none 10 0 30 20;gang g 1 1;gang h 1 1;"
            + "paint 2 a g;paint 0 b h;paint 2 b h;paint 1 a g;";

    public static void main(String[] arguments) throws Exception {
        Due.runAll(OutputTest.class);
    }

    static void promise64Write() {
        Due.is("an empty plan", new SpanPainter().write(), 0);
        SpanPainter painter = Due.bridge(BRIDGE);
        Due.is("write()", painter.write(), 24);
        Due.is("write() again", painter.write(), 24);
        Due.text("the plan", Due.plan(painter), "0:1/1;1:0/0;2:0/0;2:1/1;");
        Due.is("undo()", painter.undo(), Due.NOT_FOUND);
    }

    static void promise64LongPlan() {
        StringBuilder text = new StringBuilder("bridge 12 4 0;");
        for (int span = 0; span < 12; span++) {
            text.append("span s").append((char) ('a' + span)).append(" none 1 0 50 1;");
        }
        text.append("gang ga 1 1;gang gb 1 1;gang gc 1 1;gang gd 1 1;gang ge 1 1;");
        for (int year = 0; year < 12; year++) {
            text.append("weather ").append(year).append(" 3;");
        }
        SpanPainter painter = Due.bridge(text.toString());
        Due.is("autoPlan()", painter.autoPlan(), 0);
        StringBuilder due = new StringBuilder();
        for (int year = 0; year < 12; year++) {
            for (int span = 0; span < 12; span++) {
                due.append(year).append(':').append(span).append('/').append(span / 3).append(';');
            }
        }
        Due.is("write()", painter.write(), 912);
        Due.text("the plan", Due.plan(painter), due.toString());
        Due.noIndexBeyond("outputByte", 912, painter::outputByte);
        Due.text("span 11 at 11 by gang 4", Due.plan(Due.bridge(text + "paint 11 sl ge;")), "11:11/4;");
    }

    static void promise65OutputByte() {
        SpanPainter painter = Due.bridge(BRIDGE);
        Due.noIndexBeyond("outputByte before write()", 0, painter::outputByte);
        painter.write();
        String due = "0:1/1;1:0/0;2:0/0;2:1/1;";
        for (int index = 0; index < due.length(); index++) {
            Due.is("outputByte(" + index + ")", painter.outputByte(index), due.charAt(index));
        }
        Due.noIndexBeyond("outputByte", 24, painter::outputByte);
    }

    static void promise65LatestOutput() {
        SpanPainter painter = Due.bridge(BRIDGE);
        painter.write();
        painter.unpaint(0, 1);
        painter.autoPlan();
        Due.load(painter, "lane a 1;");
        Due.is("the output stays", painter.outputByte(2), '1');
        Due.is("the output stays", painter.outputByte(23), ';');
        Due.is("write()", painter.write(), 0);
        Due.noIndexBeyond("outputByte of an empty output", 0, painter::outputByte);
    }
}
