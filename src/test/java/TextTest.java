/** Promises 1 to 5. */
public final class TextTest {
    private static final int BLANKS = 0x20202020;

    public static void main(String[] arguments) throws Exception {
        Due.runAll(TextTest.class);
    }

    static void promise01NewObject() {
        isEmptyBridge(new SpanPainter());
        SpanPainter painter = new SpanPainter();
        Due.is("load(0)", painter.load(0), 0);
        isEmptyBridge(painter);
        Due.noArgument("load(1) of an empty buffer", () -> painter.load(1));
    }

    private static void isEmptyBridge(SpanPainter painter) {
        Due.noIndexBeyond("pastSpans", 8, painter::pastSpans);
        Due.is("pastSpans(7)", painter.pastSpans(7), 0);
        Due.noIndexBeyond("pastYear", 0, painter::pastYear);
        Due.noIndexBeyond("shutYears", 0, painter::shutYears);
        Due.noIndexBeyond("idleDays", 0, painter::idleDays);
        Due.is("paintings()", painter.paintings(), 0);
        Due.is("setShut(2)", painter.setShut(2), Due.UNCHANGED);
        for (int year = 0; year < 8; year++) {
            Due.is("setWeather(year, 100)", painter.setWeather(year, 100), Due.UNCHANGED);
        }
        Due.is("feed", painter.feed(BLANKS, BLANKS, BLANKS, BLANKS, BLANKS), 20);
        Due.is("load(20)", painter.load(20), 0);
        Due.is("errorKind()", painter.errorKind(), 0);
        Due.is("undo()", painter.undo(), Due.NOT_FOUND);
    }

    static void promise01DefaultGuard() {
        SpanPainter painter = Due.bridge("span a none 1 0 1 9;gang g 1 1;paint 0 a g;");
        Due.is("guardLeft(0, 1)", painter.guardLeft(0, 1), 3);
    }

    static void promise02Feed() {
        SpanPainter painter = new SpanPainter();
        for (int size = 20; size <= 900; size += 20) {
            Due.is("feed", painter.feed(BLANKS, BLANKS, BLANKS, BLANKS, BLANKS), size);
        }
        Due.is("feed of a full buffer", painter.feed(0, 0, 0, 0, 0), Due.FULL);
        Due.is("feed of a full buffer", painter.feed(0, 0, 0, 0, 0), Due.FULL);
        Due.noArgument("load(901)", () -> painter.load(901));
        Due.is("load(900)", painter.load(900), 0);
        Due.is("feed", painter.feed(0, 0, 0, 0, 0), 20);
    }

    static void promise02OrderOfBytes() {
        SpanPainter painter = new SpanPainter();
        // "span" " abc" "de 1" "9 20" " 30 " is read only if each byte is in its place.
        Due.is("feed", painter.feed(0x7370616e, 0x20616263, 0x6465206e, 0x6f6e6520, 0x31392032), 20);
        Due.is("feed", painter.feed(0x30203330, 0x20343b7f, 0xffffffff, 0x80000000, 0), 40);
        Due.is("load(27)", painter.load(27), 1);
        Due.is("rustBefore(0, 0)", painter.rustBefore(0, 0), 20);
        Due.is("effort(0, 0)", painter.effort(0, 0), 22);
    }

    static void promise02BytesAbove127() {
        SpanPainter painter = new SpanPainter();
        for (int sign = 0; sign < 256; sign++) {
            painter.feed(sign << 24 | 0x202020, BLANKS, BLANKS, BLANKS, BLANKS);
            boolean blank = sign == 32 || sign == 10;
            Due.is("load of byte " + sign, painter.load(1), blank ? 0 : Due.BAD_TEXT);
            boolean token = sign >= 'a' && sign <= 'z' || sign >= '0' && sign <= '9' || sign == ';';
            Due.is("errorKind of byte " + sign, painter.errorKind(), blank ? 0 : token ? 2 : 1);
        }
    }

    static void promise03Load() {
        SpanPainter painter = new SpanPainter();
        Due.is("load", Due.load(painter, "span a none 1 0 1 9;span b none 1 0 1 9;"), 2);
        Due.noArgument("load(1) after load", () -> painter.load(1));
        Due.feed(painter, "span a none 1 0 1 9;");
        Due.noArgument("load(-1)", () -> painter.load(-1));
        Due.noArgument("load(21)", () -> painter.load(21));
        Due.noArgument("load(MAX)", () -> painter.load(Integer.MAX_VALUE));
        Due.noArgument("load(MIN)", () -> painter.load(Integer.MIN_VALUE));
        Due.is("load(20), the bytes being kept", painter.load(20), 1);
        Due.feed(painter, "span a none 1 0 1 9;");
        Due.is("load(19)", painter.load(19), Due.BAD_TEXT);
        Due.noArgument("load(1) after a bad text", () -> painter.load(1));
        Due.is("the current bridge stays", painter.pastYear(0), Due.NOT_FOUND);
        Due.noIndex("span 1", () -> painter.pastYear(1));
        Due.is("load(0)", painter.load(0), 0);
        Due.noIndex("span 0", () -> painter.pastYear(0));
    }

    static void promise03BadTextChangesNothing() {
        SpanPainter painter = Due.bridge("bridge 3 1 1;lane l 5;span a l 10 10 5 90;gang g 10 1;weather 1 7;"
                + "closed l 2;paint 0 a g;");
        painter.setWeather(0, 9);
        painter.write();
        Due.is("load", Due.load(painter, "bridge 9 4 9;lane x 1;lane l 2;span q l 1 1 1 1;span z none 9 9 9 9;"
                + "gang y 5 5;gang g 1 1;closed x 0;weather 2 3;paint 2 q y;paint 1 z g; paint 1 z g;"), Due.BAD_TEXT);
        Due.is("errorKind()", painter.errorKind(), 6);
        Due.noIndex("pastSpans(3)", () -> painter.pastSpans(3));
        Due.noIndex("shutYears(1)", () -> painter.shutYears(1));
        Due.noIndex("idleDays(1)", () -> painter.idleDays(1));
        Due.noIndex("pastYear(1)", () -> painter.pastYear(1));
        Due.text("the plan", Due.plan(painter), "0:0/0;");
        Due.is("capacity(0, 1)", painter.capacity(0, 1), 70);
        Due.is("refusal(2, 0, 0)", painter.refusal(2, 0, 0), 2);
        Due.is("trafficLoss(0)", painter.trafficLoss(0), 10);
        Due.is("guardLeft(0, 1)", painter.guardLeft(0, 1), 1);
        Due.is("undo()", painter.undo(), 0);
        Due.is("capacity(0, 0)", painter.capacity(0, 0), 1000);
    }

    static void promise03LoadForgetsEdits() {
        SpanPainter painter = Due.bridge("span a none 10 10 5 90;gang g 10 1;");
        painter.setWeather(0, 9);
        painter.setShut(1);
        painter.setRate(0, 50);
        painter.setSpeed(0, 3);
        painter.paint(1, 0, 0);
        Due.is("load", Due.load(painter, "lane l 1;span a l 10 10 5 90;gang g 10 1;"), 1);
        Due.is("undo()", painter.undo(), Due.NOT_FOUND);
        Due.is("capacity(0, 0)", painter.capacity(0, 0), 1000);
        Due.is("setShut(2)", painter.setShut(2), Due.UNCHANGED);
        Due.is("rustAfter(0, 1)", painter.rustAfter(0, 1), 20);
        painter.setClosed(0, 0, true);
        Due.is("load", Due.load(painter, "lane l 1;span a l 10 10 5 90;gang g 10 1;"), 1);
        Due.is("refusal(0, 0, 0)", painter.refusal(0, 0, 0), 0);
    }

    static void promise03EachStatement() {
        SpanPainter painter = Due.bridge("  \n bridge 12 3 10 ; \n lane\n\nlong 999;span abcdefgh long 99 100 50 100;"
                + "span y none 0001 0 01 1;gang hgfedcba 50 99;gang z 1 0;weather 11 200;weather 11 150;weather 0 0;"
                + "closed long 3;closed long 3;closed long 5;paint 11 abcdefgh z;paint 4abcdefgh hgfedcba;paint 4 y z;\n \n");
        Due.is("rustBefore(0, 0)", painter.rustBefore(0, 0), 100);
        Due.is("rustAfter(1, 0)", painter.rustAfter(1, 0), 1);
        Due.is("capacity(0, 11)", painter.capacity(0, 11), 7500);
        Due.is("capacity(0, 0)", painter.capacity(0, 0), 0);
        Due.is("capacity(1, 1)", painter.capacity(1, 1), 100);
        Due.is("setClosed(0, 3, true)", painter.setClosed(0, 3, true), Due.UNCHANGED);
        Due.is("setClosed(0, 4, false)", painter.setClosed(0, 4, false), Due.UNCHANGED);
        Due.is("setClosed(0, 5, true)", painter.setClosed(0, 5, true), Due.UNCHANGED);
        Due.is("setShut(3)", painter.setShut(3), Due.UNCHANGED);
        Due.text("the plan", Due.plan(painter), "4:0/0;4:1/1;11:0/1;");
        Due.is("guardLeft(0, 5)", painter.guardLeft(0, 5), 10);
        // effort 198 by a gang of speed 50 in 4 days, and 1 more for span y without a lane
        Due.is("trafficLoss(4)", painter.trafficLoss(4), 999 * 4);
        Due.is("wages(4)", painter.wages(4), 99 * 4);
    }

    static void promise03PaintingsAreNotChecked() {
        SpanPainter painter = Due.bridge("bridge 2 1 0;lane l 1;lane m 1;span a l 99 99 9 99;span b m 99 99 9 99;"
                + "gang g 1 1;weather 0 0;closed l 0;paint 0 a g;paint 0 b g;");
        Due.is("paintings()", painter.paintings(), 2);
        Due.is("lanesShut(0)", painter.lanesShut(0), 3);
        Due.is("overloads()", painter.overloads(), 1);
    }

    /** The text with a bar where the error is; a text without a bar is legal. */
    static void error(int kind, String marked) {
        int bar = marked.indexOf('|');
        String text = bar < 0 ? marked : marked.substring(0, bar) + marked.substring(bar + 1);
        SpanPainter painter = new SpanPainter();
        int loaded = Due.load(painter, text);
        Due.is("load: " + marked, loaded < 0 ? loaded : 0, bar < 0 ? 0 : Due.BAD_TEXT);
        Due.is("errorKind: " + marked, painter.errorKind(), kind);
        Due.is("errorPosition: " + marked, painter.errorPosition(), bar < 0 ? Due.NOT_FOUND : bar);
    }

    static void promise04And05IllegalTokens() {
        error(1, "|?");
        error(1, "lane a 1;|?");
        error(1, "lane |abcdefghi 1;");
        error(0, "lane abcdefgh 1;");
        error(1, "lane a |00001;");
        error(0, "lane a 0001;");
        error(1, "lane |A 1;");
        error(1, "lane a|A 1;");
        error(1, "lane a |-1;");
        error(1, "lane a\t1;".replace("\t", "|\t"));
        error(1, "lane a 1|:");
        error(1, "|abcdefghijklm");
        error(1, "lane a 12|\u00e1;");
        error(1, "lane a 1;\n|\r\n");
        error(1, "span |123456789 none 1 1 1 1;");
        error(1, "span a |nonenonen 1 1 1 1;");
    }

    static void promise04And05OtherTokens() {
        error(2, "|;");
        error(2, "|1");
        error(2, "|none 1;");
        error(2, "|lan e 1;");
        error(2, "|lanea 1;");
        error(2, "lane |1 1;");
        error(2, "lane |; ");
        error(2, "lane a |b;");
        error(2, "lane a |;");
        error(2, "lane a 1 |1;");
        error(2, "lane a 1 |lane;");
        error(2, "lane a 1;|;");
        for (String word : new String[] {"bridge", "lane", "span", "gang", "weather", "closed", "paint", "none"}) {
            error(2, "lane |" + word + " 1;");
            error(2, "span |" + word + " none 1 1 1 1;");
            error(2, "gang |" + word + " 1 1;");
            error(2, "closed |" + word + " 1;");
            error(2, "paint 1 |" + word + " ");
            error(2, "span a none 1 1 1 1;paint 1 a |" + word + ";");
            error(word.equals("none") ? 0 : 2, word.equals("none") ? "span a none 1 1 1 1;" : "span a |" + word + " 1 1 1 1;");
        }
        error(2, "bridge |a 1 1;");
        error(2, "weather 1 |;");
        error(2, "span a |1 1 1 1 1;");
        error(2, "paint |a 1;");
        error(2, "paint 1 |1");
    }

    static void promise04And05TooEarly() {
        error(2, "lane|");
        error(2, "lane |");
        error(2, "lane a\n |");
        error(2, "lane a 1|");
        error(2, "lane a 1 \n|");
        error(2, "bridge 1 1 1|");
        error(2, "span a none 1 1 1|");
        error(2, "gang|");
        error(2, "paint|");
        error(2, "closed|");
        error(2, "weather 0|");
        error(2, "|pain");
        error(0, "");
        error(0, " \n ");
    }

    static void promise04And05Ranges() {
        error(3, "bridge |0 1 1;");
        error(0, "bridge 1 1 0;");
        error(0, "bridge 12 4 10;");
        error(3, "bridge |13 1 1;");
        error(3, "bridge 1 |0 1;");
        error(3, "bridge 1 |5 1;");
        error(3, "bridge 1 1 |11;");
        error(0, "lane a 0;");
        error(0, "lane a 999;");
        error(3, "lane a |1000;");
        error(0, "span a none 1 0 1 1;");
        error(0, "span a none 99 100 50 100;");
        error(3, "span a none |0 0 1 1;");
        error(3, "span a none |100 0 1 1;");
        error(3, "span a none 1 |101 1 1;");
        error(3, "span a none 1 0 |0 1;");
        error(3, "span a none 1 0 |51 1;");
        error(3, "span a none 1 0 1 |0;");
        error(3, "span a none 1 0 1 |101;");
        error(0, "gang a 1 0;");
        error(0, "gang a 50 99;");
        error(3, "gang a |0 1;");
        error(3, "gang a |51 1;");
        error(3, "gang a 1 |100;");
        error(0, "weather 7 200;weather 0 0;");
        error(3, "weather |8 1;");
        error(3, "weather 7 |201;");
        error(0, "bridge 12 1 1;weather 11 1;");
        error(3, "bridge 12 1 1;weather |12 1;");
        error(3, "bridge 2 1 1;weather |2 1;");
        error(3, "lane a 1;closed a |8;");
        error(0, "lane a 1;closed a 7;");
        error(3, "paint |8 ?");
        error(3, "bridge 1 1 1;paint |1 a");
    }

    static void promise04And05Names() {
        error(4, "lane a 1;lane |a 1;");
        error(4, "lane a 1;span |a a 1 1 1 1;");
        error(4, "lane a 1;gang |a 1 1;");
        error(4, "gang a 1 1;span |a none 1 1 1 1;");
        error(4, "span a none 1 1 1 1;gang |a 1 1;");
        error(4, "span a |b 1 1 1 1;");
        error(4, "span a |a 1 1 1 1;");
        error(4, "gang g 1 1;span a |g 1 1 1 1;");
        error(4, "span s none 1 1 1 1;span a |s 1 1 1 1;");
        error(4, "closed |a 1;lane a 1;");
        error(4, "span s none 1 1 1 1;closed |s 1;");
        error(4, "paint 0 |a");
        error(4, "lane a 1;paint 0 |a");
        error(4, "gang a 1 1;paint 0 |a");
        error(4, "span a none 1 1 1 1;paint 0 a |b;");
        error(4, "span a none 1 1 1 1;paint 0 a |a;");
        error(4, "lane b 1;span a b 1 1 1 1;paint 0 a |b;");
        error(0, "lane ab 1;lane ba 1;lane a 1;lane abcdefgh 1;span bcdefgha none 1 1 1 1;span aa none 1 1 1 1;");
    }

    static void promise04And05TooMany() {
        error(5, "lane a 1;|bridge 1 1 1;");
        error(5, "bridge 1 1 1;|bridge 1 1 1;");
        error(5, "weather 0 1;|bridge");
        error(0, "lane a 1;lane b 1;lane c 1;lane d 1;");
        error(5, "lane a 1;lane b 1;lane c 1;lane d 1; |lane ?");
        error(0, "gang a 1 1;gang b 1 1;gang c 1 1;gang d 1 1;gang e 1 1;");
        error(5, "gang a 1 1;gang b 1 1;gang c 1 1;gang d 1 1;gang e 1 1;|gang a 1 1;");
        StringBuilder spans = new StringBuilder();
        for (int span = 0; span < 12; span++) {
            spans.append("span s").append((char) ('a' + span)).append(" none 1 1 1 1;");
        }
        error(0, spans.toString());
        error(5, spans + "|span x none 1 1 1 1;");
    }

    static void promise04And05SecondPaintings() {
        String start = "span a none 1 1 1 1;span b none 1 1 1 1;gang g 1 1;gang h 1 1;";
        error(0, start + "paint 1 a g;paint 2 a g;paint 1 b g;");
        error(6, start + "paint 1 a g;paint 1 |a h;");
        error(6, start + "paint 1 a g;paint 0 a g;paint 01 |a ?");
    }

    static void promise03BytesBehindTheText() {
        SpanPainter painter = new SpanPainter();
        Due.feed(painter, "lanes");
        Due.is("load(4): a word that goes on behind the text", painter.load(4), Due.BAD_TEXT);
        Due.is("errorPosition()", painter.errorPosition(), 4);
        Due.feed(painter, "lane a 99999;");
        Due.is("load(11): a number that goes on behind the text", painter.load(11), Due.BAD_TEXT);
        Due.is("errorKind()", painter.errorKind(), 3);
        Due.feed(painter, "lane abcdefghi 1;");
        Due.is("load(13)", painter.load(13), Due.BAD_TEXT);
        Due.is("errorPosition()", painter.errorPosition(), 13);
        Due.feed(painter, "span a none 1 0 1 9;;");
        Due.is("load(20)", painter.load(20), 1);
    }

    static void promise04ErrorKind() {
        SpanPainter painter = new SpanPainter();
        Due.is("before any load", painter.errorKind(), 0);
        Due.load(painter, "lane a 1000;");
        Due.is("after a bad text", painter.errorKind(), 3);
        Due.noArgument("load(99)", () -> painter.load(99));
        Due.is("after load(99)", painter.errorKind(), 3);
        Due.load(painter, "lane a 999;");
        Due.is("after a good text", painter.errorKind(), 0);
    }

    static void promise05ErrorPosition() {
        SpanPainter painter = new SpanPainter();
        Due.is("before any load", painter.errorPosition(), Due.NOT_FOUND);
        Due.load(painter, "lane a 1000;");
        Due.is("after a bad text", painter.errorPosition(), 7);
        Due.noArgument("load(99)", () -> painter.load(99));
        Due.is("after load(99)", painter.errorPosition(), 7);
        Due.load(painter, ";");
        Due.is("at the first byte", painter.errorPosition(), 0);
        Due.load(painter, "lane a 999;");
        Due.is("after a good text", painter.errorPosition(), Due.NOT_FOUND);
        // only the first bytes are the text: what stands behind them is not seen
        Due.feed(painter, "lane a 999;");
        Due.is("load(9)", painter.load(9), Due.BAD_TEXT);
        Due.is("at the end", painter.errorPosition(), 9);
    }
}
