/** The boundary cases of the section BRIDGE TEXT and of promises 1 to 5. */
public final class TextBoundsTest {
    private static final int BLANKS = 0x20202020;
    private static final String[] RESERVED = {"bridge", "lane", "span", "gang", "weather", "closed", "paint", "none"};
    /** Each statement legal behind the one before it; its tokens stand between blanks. */
    private static final String[] STATEMENTS = {
        "bridge 12 4 10 ;", "lane la 999 ;", "span sa la 99 100 50 100 ;", "gang ga 50 99 ;", "weather 11 200 ;",
        "closed la 11 ;", "paint 11 sa ga ;"
    };

    public static void main(String[] arguments) throws Exception {
        Due.runAll(TextBoundsTest.class);
    }

    /** The kind and the position of an error are told by a bar where it is, and a text without a bar is legal. */
    private static void error(int kind, String marked) {
        TextTest.error(kind, marked);
    }

    // ---- BRIDGE TEXT: the length

    /** "The text has at most 900 bytes." */
    static void sectionBridgeTextOf900Bytes() {
        SpanPainter painter = new SpanPainter();
        Due.is("900 bytes, the last one a semicolon",
                Due.load(painter, Bridges.padded("span a none 1 7 1 9;", 900)), 1);
        Due.is("rustBefore(0, 0)", painter.rustBefore(0, 0), 7);
        error(2, Bridges.padded("span a none 1 7 1 9|", 901));
        error(2, Bridges.padded("span a none 1 7 1 |;", 901));
        error(1, Bridges.padded("span a none 1 7 1 9;|?", 901));
        error(2, Bridges.padded("span a none 1 7 1 9;|x", 901));
        error(2, "lane a 1" + " ".repeat(892) + "|");
        error(0, "span a none 1 7 1 9;" + "\n".repeat(880));
        error(0, " ".repeat(900));
        // 75 statements without a blank too much
        Due.is("statements in 900 bytes", Due.load(painter, "weather 7 1;".repeat(74) + "weather 7 9;"), 0);
        Due.is("the last one counts", painter.setWeather(7, 9), Due.UNCHANGED);
    }

    /** "The text has at most 900 bytes": 899 of 900 bytes fed are a text, too. */
    static void sectionBridgeTextOf899Bytes() {
        SpanPainter painter = new SpanPainter();
        String whole = Bridges.padded("span a none 1 7 1 9;", 900);
        Due.feed(painter, whole);
        Due.is("load(899)", painter.load(899), Due.BAD_TEXT);
        Due.is("errorKind()", painter.errorKind(), 2);
        Due.is("errorPosition()", painter.errorPosition(), 899);
        Due.feed(painter, Bridges.padded("span a none 1 7 1 9;", 899));
        Due.is("load(899)", painter.load(899), 1);
    }

    // ---- BRIDGE TEXT: the tokens

    /** "Words (1 to 8 lower-case letters)"; "a longer run of letters" is an illegal token. */
    static void sectionBridgeTextWordsOf1To8Letters() {
        for (int letters = 1; letters <= 8; letters++) {
            String name = "abcdefgh".substring(0, letters);
            error(0, "lane " + name + " 1;");
            error(0, "span " + name + " none 1 1 1 1;");
            error(0, "gang " + name + " 1 1;");
            error(0, "lane " + name + " 1;closed " + name + " 1;span x " + name + " 1 1 1 1;");
        }
        for (int letters = 9; letters <= 20; letters++) {
            String name = "abcdefghijklmnopqrst".substring(0, letters);
            error(1, "|" + name);
            error(1, "lane |" + name + " 1;");
            error(1, "span |" + name + " none 1 1 1 1;");
            error(1, "span x |" + name + " 1 1 1 1;");
            error(1, "gang |" + name + " 1 1;");
            error(1, "lane x |" + name);
            error(1, "lane x 1 |" + name);
        }
        error(1, "|" + "a".repeat(900));
    }

    /** A run of letters that is too long is no word, even if its first or last eight letters would be one. */
    static void sectionBridgeTextLongWordsAroundNames() {
        error(1, "|xxxxxxxxlane a 1;");
        error(1, "|laneaaaaa a 1;");
        error(1, "|xxxxxxxxxxxxweather 1 1;");
        error(1, "span a |xxxxxxxxnone 1 1 1 1;");
        error(1, "lane abcdefgh 1;closed |xabcdefgh 1;");
        error(1, "lane abcdefgh 1;closed |abcdefghx 1;");
        error(1, "lane abcdefgh 1;closed |abcdefghabcdefgh 1;");
        error(0, "lane abcdefgh 1;lane abcdefgi 1;lane bbcdefgh 1;lane hgfedcba 1;");
        error(4, "lane abcdefgh 1;closed |abcdefgg 1;");
        error(4, "lane abcdefgh 1;closed |bcdefgh 1;");
        error(4, "lane abcdefgh 1;closed |abcdefg 1;");
        error(4, "lane a 1;closed |aa 1;");
    }

    /** "Numbers (1 to 4 digits)"; "a longer run of digits" is an illegal token. */
    static void sectionBridgeTextNumbersOf1To4Digits() {
        error(0, "weather 7 9;weather 07 09;weather 007 009;weather 0007 0009;weather 0000 0000;");
        error(1, "weather 7 |00009;");
        error(1, "weather |00000 9;");
        error(1, "|00000");
        error(1, "lane |00001 1;");
        error(1, "weather 7 9 |00000;");
        error(1, "weather 7 |" + "0".repeat(890));
        error(3, "weather 7 |9999;");
        error(3, "weather |9999 9;");
        error(1, "weather 7 |10000;");
        error(1, "weather 7 |99999;");
    }

    /** A run of digits that is too long is no number, even if what it says would wrap around to one in the range. */
    static void sectionBridgeTextNumbersThatWrapAround() {
        for (String number : new String[] {"65537", "4294967297", "4294967296", "18446744073709551617", "00000000001"}) {
            error(1, "weather 7 |" + number + ";");
            error(1, "weather |" + number + " 7;");
            error(1, "bridge |" + number + " 1 1;");
            error(1, "span a none |" + number + " 1 1 1;");
            error(1, "gang a |" + number + " 1;");
        }
        // 256 and a number in the range
        error(3, "bridge |257 1 1;");
        error(3, "bridge 1 |257 1;");
        error(3, "bridge 1 1 |256;");
        error(3, "weather |256 1;");
        error(3, "weather 1 |256;");
        error(3, "span a none |257 1 1 1;");
        error(3, "span a none 1 |256 1 1;");
        error(3, "span a none 1 1 |257 1;");
        error(3, "span a none 1 1 1 |257;");
        error(3, "gang a |257 1;");
        error(3, "gang a 1 |256;");
        error(3, "lane a |1024;");
    }

    /** "A token extends as far as possible." */
    static void sectionBridgeTextTokensExtend() {
        SpanPainter painter = Due.bridge("bridge12 4 10;lane la9;span sa la99 100 50 100;gang ga50 99;weather11 200;"
                + "closed la11;paint11sa ga;");
        Due.is("capacity(0, 11)", painter.capacity(0, 11), 10000);
        Due.text("the plan", Due.plan(painter), "11:0/0;");
        error(2, "|lanea 1;");
        error(2, "lane a11|a;");
        error(2, "bridge 1 1 1|a1;");
        error(4, "lane a 1;lane b 1;closed |ab 1;");
        error(3, "bridge |111;");
        error(2, "lane a 1;|;");
        error(0, "lane a1;lane b1;");
        // 13 and no 1 and 3
        error(3, "bridge |13 1;");
    }

    /** "Spaces (32) and line feeds (10) may stand before the first token, between tokens and behind the last token." */
    static void sectionBridgeTextBlanks() {
        for (int sign = 0; sign < 256; sign++) {
            char one = (char) sign;
            boolean blank = sign == 32 || sign == 10;
            boolean token = sign >= 'a' && sign <= 'z' || sign >= '0' && sign <= '9' || sign == ';';
            if (blank) {
                error(0, one + "lane" + one + "a" + one + "1" + one + ";" + one);
                error(0, "" + one + one + "lane a 1;" + one + one);
            } else if (!token) {
                error(1, "|" + one + "lane a 1;");
                error(1, "lane|" + one + "a 1;");
                error(1, "lane a|" + one + "1;");
                error(1, "lane a |" + one + "1;");
                error(1, "lane a 1|" + one + ";");
                error(1, "lane a 1;|" + one);
                error(1, "lane a 1; |" + one);
            }
        }
    }

    /** "Any other byte" is an illegal token: those beside the letters, the digits and the semicolon are. */
    static void sectionBridgeTextBytesBesideTokens() {
        for (char sign : new char[] {'`', '{', '/', ':', '<', '@', 'A', 'Z', '[', 9, 11, 13, 31, 33, 127, 128, 138, 160, 187, 225, 255}) {
            error(1, "lane a|" + sign + " 1;");
            error(1, "lane a 1|" + sign + ";");
            error(1, "lane a 1;|" + sign + "lane b 1;");
            error(1, "|" + sign);
        }
        error(0, "lane a 0;lane z 9;");
        error(0, "lane azazazaz 909;");
    }

    /** An empty text is legal: it has no statements. */
    static void sectionBridgeTextEmpty() {
        error(0, "");
        error(0, " ");
        error(0, "\n");
        error(2, "|;");
        error(2, " |;");
    }

    // ---- BRIDGE TEXT: the statements

    /** "Each statement ends with a semicolon"; "if the text ends too early, the error is at the end". */
    static void sectionBridgeTextTooFewTokens() {
        StringBuilder before = new StringBuilder();
        for (String statement : STATEMENTS) {
            error(0, before + statement);
            String[] tokens = statement.split(" ");
            String start = before.toString();
            for (int index = 0; index < tokens.length; index++) {
                if (index > 0) {
                    error(2, start + "|");
                    error(2, start + " \n |");
                    if (index < tokens.length - 1) {
                        error(2, start + " |;");
                    }
                }
                start = start + (index == 0 ? "" : " ") + tokens[index];
            }
            error(0, start);
            before.append(statement);
        }
    }

    /** Behind each statement another token than its semicolon is an error, and so is another semicolon. */
    static void sectionBridgeTextTooManyTokens() {
        StringBuilder before = new StringBuilder();
        for (String statement : STATEMENTS) {
            String open = before + statement.substring(0, statement.length() - 1);
            for (String token : new String[] {"1", "9999", "a", "la", "none", "weather 1 1;", "lane lb 1;"}) {
                error(2, open + "|" + token);
            }
            error(1, open + "|?");
            error(2, open + ";|;");
            before.append(statement);
        }
    }

    /** "A NAME is a word that is not reserved": what only looks like a reserved word is one. */
    static void sectionBridgeTextWordsBesideReservedOnes() {
        String[] others = {"bridg", "bridges", "bridgf", "lan", "lanes", "spa", "spans", "gan", "gangs", "weathe", "weathers",
            "close", "closedd", "pain", "paints", "non", "nonee", "one", "ane", "nnone"};
        for (String name : others) {
            error(0, "lane " + name + " 1;closed " + name + " 1;");
            error(0, "span " + name + " none 1 1 1 1;gang x 1 1;paint 0 " + name + " x;");
            error(0, "gang " + name + " 1 1;span x none 1 1 1 1;paint 0 x " + name + ";");
            error(2, "|" + name + " 1;");
        }
    }

    /** "The word none may stand for LANE" "in a span statement" alone. */
    static void sectionBridgeTextNone() {
        error(0, "span a none 1 1 1 1;");
        error(2, "closed |none 1;");
        error(2, "lane |none 1;");
        error(2, "span |none none 1 1 1 1;");
        error(2, "span |none");
        error(2, "gang |none 1 1;");
        error(2, "paint 1 |none a;");
        error(2, "span a none 1 1 1 1;paint 1 a |none;");
        error(2, "|none a 1;");
        error(2, "span a none |none 1 1 1 1;");
    }

    private static String declared(String sort, String name) {
        return sort + " " + name + (sort.equals("lane") ? " 1;" : sort.equals("gang") ? " 1 1;" : " none 1 1 1 1;");
    }

    /** "The names of all lanes, spans and gangs together are different." */
    static void sectionBridgeTextNamesOfAllSorts() {
        String[] sorts = {"lane", "span", "gang"};
        for (String first : sorts) {
            for (String second : sorts) {
                error(4, declared(first, "x") + second + " |" + declared(second, "x").substring(5));
                error(4, declared(first, "x") + declared("lane", "y") + declared("span", "z") + second + " |x");
                error(0, declared(first, "x") + declared(second, "xx"));
            }
        }
        // the largest number of names, the last one as the first one, or as the one before it
        String most = Bridges.lanes(1) + Bridges.spans("1 1 1 1") + "gang ga 1 1;gang gb 1 1;gang gc 1 1;gang gd 1 1;gang ";
        error(0, most + "ge 1 1;");
        error(4, most + "|la 1 1;");
        error(4, most + "|sl 1 1;");
        error(4, most + "|gd 1 1;");
    }

    /** "LANE, SPAN and GANG are the names of a lane, span or gang that an earlier statement declares." */
    static void sectionBridgeTextNamesOfEarlierStatements() {
        String all = declared("lane", "l") + declared("span", "s") + declared("gang", "g");
        error(0, all + "span x l 1 1 1 1;closed l 0;paint 0 s g;");
        for (String other : new String[] {"s", "g", "x", "u"}) {
            error(4, all + "span x |" + other + " 1 1 1 1;");
            error(4, all + "closed |" + other + " 0;");
        }
        for (String other : new String[] {"l", "g", "u"}) {
            error(4, all + "paint 0 |" + other + " g;");
        }
        for (String other : new String[] {"l", "s", "u"}) {
            error(4, all + "paint 0 s |" + other + ";");
        }
        error(4, "closed |l 0;" + all);
        error(4, "span x |l 1 1 1 1;" + all);
        error(4, declared("span", "s") + "paint 0 s |g;" + declared("gang", "g"));
        error(4, declared("gang", "g") + "paint 0 |s g;" + declared("span", "s"));
        // the names of a text before this one are not known any more
        SpanPainter painter = Due.bridge(all);
        Due.is("load", Due.load(painter, "closed l 0;"), Due.BAD_TEXT);
        Due.is("errorKind()", painter.errorKind(), 4);
        Due.is("load", Due.load(painter, all + "?"), Due.BAD_TEXT);
        Due.is("load", Due.load(painter, all), 1);
    }

    /** The ends of the ranges are read as they are. */
    static void sectionBridgeTextEndsOfRanges() {
        SpanPainter least = Due.bridge("bridge 1 1 0;lane a 0;span b a 1 0 1 1;gang c 1 0;weather 0 0;closed a 0;paint 0 b c;");
        Due.noIndexBeyond("years", 1, least::pastSpans);
        Due.is("SHUT", least.setShut(1), Due.UNCHANGED);
        Due.is("TRAFFIC", least.trafficLoss(0), 0);
        Due.is("days", least.laneDays(0, 0), 1);
        Due.is("AREA and RUST", least.effort(0, 0), 1);
        Due.is("RATE", least.setRate(0, 1), Due.UNCHANGED);
        Due.is("SPEED", least.setSpeed(0, 1), Due.UNCHANGED);
        Due.is("WAGE", least.wages(0), 0);
        Due.is("DAYS", least.setWeather(0, 0), Due.UNCHANGED);
        Due.is("closed", least.setClosed(0, 0, true), Due.UNCHANGED);
        least.unpaint(0, 0);
        Due.is("LIMIT 1 and rust 1", least.pastCount(), 0);
        least.setRate(0, 2);
        Due.is("LIMIT 1 and rust 2", least.pastCount(), 1);
        SpanPainter most = Due.bridge("bridge 12 4 10;lane a 999;span b a 99 100 50 100;gang c 50 99;weather 11 200;closed a 11;"
                + "paint 11 b c;paint 0 b c;");
        Due.noIndexBeyond("years", 12, most::pastSpans);
        Due.is("SHUT", most.setShut(4), Due.UNCHANGED);
        Due.is("GUARD", most.guardLeft(0, 1), 10);
        Due.is("TRAFFIC", most.trafficLoss(0), 999 * 4);
        Due.is("AREA and RUST", most.effort(0, 0), 198);
        Due.is("RATE", most.setRate(0, 50), Due.UNCHANGED);
        Due.is("SPEED", most.setSpeed(0, 50), Due.UNCHANGED);
        Due.is("WAGE", most.wages(0), 99 * 4);
        Due.is("DAYS", most.setWeather(11, 200), Due.UNCHANGED);
        Due.is("closed", most.setClosed(0, 11, true), Due.UNCHANGED);
        most.unpaint(0, 0);
        Due.is("LIMIT 100 and rust 100", most.pastCount(), 0);
    }

    /** "Without a bridge statement they are 8, 2 and 3"; "the DAYS of a year without a weather statement are 100". */
    static void sectionBridgeTextDefaults() {
        SpanPainter painter = Due.bridge("bridge 12 4 10;" + Bridges.weather(7));
        Due.is("load", Due.load(painter, "weather 3 9;span a none 1 1 1 1;gang g 1 1;paint 1 a g;"), 1);
        Due.noIndexBeyond("8 years", 8, painter::pastSpans);
        Due.is("SHUT", painter.setShut(2), Due.UNCHANGED);
        Due.is("GUARD", painter.guardLeft(0, 2), 3);
        for (int year = 0; year < 8; year++) {
            Due.is("DAYS of " + year, painter.setWeather(year, year == 3 ? 9 : 100), Due.UNCHANGED);
        }
        Due.is("load", Due.load(painter, "bridge 12 4 10;"), 0);
        for (int year = 0; year < 12; year++) {
            Due.is("DAYS of " + year, painter.setWeather(year, 100), Due.UNCHANGED);
        }
    }

    /** "A bridge statement must be the first statement of the text"; "years are numbered from 0 to YEARS - 1". */
    static void sectionBridgeTextFirstStatement() {
        error(0, " \n bridge 3 1 1;");
        error(5, "bridge 3 1 1; |bridge 3 1 1;");
        error(5, "weather 0 1;|bridge ?");
        error(5, "lane a 1;span b none 1 1 1 1;gang c 1 1;closed a 0;paint 0 b c;|bridge 3 1 1;");
        for (int years = 1; years <= 12; years++) {
            String start = "bridge " + years + " 1 1;lane l 1;span s none 1 1 1 1;gang g 1 1;";
            error(0, start + "weather " + (years - 1) + " 1;closed l " + (years - 1) + ";paint " + (years - 1) + " s g;");
            error(3, start + "weather |" + years + " 1;");
            error(3, start + "closed l |" + years + ";");
            error(3, start + "paint |" + years + " s g;");
        }
        error(3, "weather |8 1;");
        error(3, "lane l 1;closed l |8;");
        error(3, "paint |8 s g;");
    }

    /** "At most 4 lanes, 12 spans and 5 gangs": in the largest bridge none of them can be added. */
    static void sectionBridgeTextLargestBridge() {
        String largest = Bridges.largest(10, "99 100 50 100");
        error(0, largest);
        error(5, largest + "|lane x 1;");
        error(5, largest + "|span x none 1 1 1 1;");
        error(5, largest + "|gang x 1 1;");
        error(5, largest + "|bridge 1 1 1;");
        error(5, largest + "|lane");
        error(5, largest + "|span ?");
        error(5, largest + "|gang la 1 1;");
        error(0, largest + "weather 11 0;closed ld 11;paint 11 sl ge;");
        error(5, Bridges.lanes(1) + "|lane x 1;");
        error(5, Bridges.gangs("1 1") + "|gang x 1 1;");
        error(5, Bridges.lanes(1) + Bridges.spans("1 1 1 1") + "|span x la 1 1 1 1;");
    }

    /** "Each numbered from 0 in the order of their statements." */
    static void sectionBridgeTextOrderOfStatements() {
        SpanPainter painter = Due.bridge("gang z 7 0;span y none 1 30 1 99;lane x 2;span w x 1 20 1 99;gang v 6 0;lane u 3;"
                + "span t u 1 10 1 99;gang s 5 0;paint 0 w v;paint 1 t s;");
        Due.is("span y", painter.rustBefore(0, 0), 30);
        Due.is("span w", painter.rustBefore(1, 0), 20);
        Due.is("span t", painter.rustBefore(2, 0), 10);
        Due.is("gang z", painter.capacity(0, 0), 700);
        Due.is("gang s", painter.capacity(2, 0), 500);
        Due.text("the plan", Due.plan(painter), "0:1/1;1:2/2;");
        Due.is("lane x", painter.lanesShut(0), 1);
        Due.is("lane u", painter.lanesShut(1), 2);
        Due.is("TRAFFIC of lane x", painter.trafficLoss(0), 2);
        Due.is("TRAFFIC of lane u", painter.trafficLoss(1), 3);
    }

    /** "If weather statements for a year are repeated, the last one counts. A repeated closed statement has no further effect." */
    static void sectionBridgeTextRepeatedStatements() {
        SpanPainter painter = Due.bridge("weather 2 200;weather 3 5;weather 2 0;lane a 1;lane b 1;closed a 1;closed b 1;closed a 1;"
                + "closed a 1;closed b 2;");
        Due.is("weather 2", painter.setWeather(2, 0), Due.UNCHANGED);
        Due.is("weather 3", painter.setWeather(3, 5), Due.UNCHANGED);
        Due.is("the closed lanes of 1", painter.setClosed(1, 1, false), 1);
        Due.is("the closed lanes of 1", painter.setClosed(0, 1, false), 0);
        Due.is("the closed lanes of 2", painter.setClosed(0, 2, true), 3);
        Due.is("weather 100 as by default", Due.bridge("weather 2 7;weather 2 100;").setWeather(2, 100), Due.UNCHANGED);
    }

    /** "There is at most one painting of a span in a year": another year and another span are no second one. */
    static void sectionBridgeTextSecondPainting() {
        String start = Bridges.largest(10, "9 9 9 9");
        error(0, start + "paint 11 sl ge;paint 10 sl ge;paint 11 sk ge;paint 0 sl ga;paint 0 sa ga;");
        error(6, start + "paint 11 sl ge;paint 11 |sl ge;");
        error(6, start + "paint 11 sl ge;paint 11 |sl ga;");
        error(6, start + "paint 0 sa ga;paint 11 sa ga;paint 0 |sa x");
        // the paintings of a text before this one do not count
        SpanPainter painter = Due.bridge(start + "paint 11 sl ge;");
        Due.is("load", Due.load(painter, start + "paint 11 sl ge;paint 11 sl ge;"), Due.BAD_TEXT);
        Due.is("load", Due.load(painter, start + "paint 11 sl ge;"), 12);
        painter.autoPast();
        Due.is("load", Due.load(painter, start + "paint 0 sa ga;paint 0 sb ga;paint 1 sa ga;"), 12);
        Due.is("paintings()", painter.paintings(), 3);
    }

    /** "Paint statements are not checked for refusals": neither closed lanes, nor too many of them, nor too much load. */
    static void sectionBridgeTextPaintingsAreNotChecked() {
        String start = "bridge 1 1 0;lane k 1;lane l 1;span a k 9 0 1 99;span b l 9 0 1 99;gang g 1 1;";
        Due.is("closed", Due.bridge(start + "closed k 0;paint 0 a g;").paintings(), 1);
        Due.is("two lanes", Due.bridge(start + "paint 0 a g;paint 0 b g;").paintings(), 2);
        Due.is("no days", Due.bridge(start + "weather 0 0;paint 0 a g;").overloads(), 1);
    }

    // ---- BRIDGE TEXT: the errors

    /** "The error of a text is its first token, from left to right, that cannot be continued to a legal text." */
    static void sectionBridgeTextFirstError() {
        error(3, "lane a |1000;?");
        error(1, "lane a |?1000;");
        error(4, "lane a 1;lane |a 1000;");
        error(2, "lane |1 ? ?");
        error(3, "bridge |0 9 99;");
        error(3, "bridge 9 |9 99;");
        error(3, "span a none |0 101 0 0;");
        error(3, "weather |8 201;");
        error(4, "closed |a 8;");
        error(3, "paint |8 a a;");
        error(5, "lane a 1;|bridge 0 0 99;lane");
    }

    /** "A token counts as right even if no legal one can follow it." */
    static void sectionBridgeTextRightTokens() {
        error(4, "closed |a 0;");
        error(2, "closed|");
        error(4, "paint 7 |a g;");
        error(2, "paint 7|");
        error(4, "span a none 1 1 1 1;paint 7 a |g;");
        // in the last year all is painted already, yet the year is right
        error(6, "bridge 1 1 1;span a none 1 1 1 1;gang g 1 1;paint 0 a g;paint 0 |a g;");
        error(2, "bridge 1 1 1;span a none 1 1 1 1;gang g 1 1;paint 0 a g;paint 0|");
    }

    /** "If the text ends too early, the error is at the end and its position is the length of the text." */
    static void sectionBridgeTextEndsTooEarly() {
        for (String word : RESERVED) {
            if (!word.equals("none")) {
                error(2, word + "|");
                error(2, word + "  \n|");
            }
        }
        error(2, " ".repeat(895) + "lane" + " |");
        error(2, "bridge 1 1 1|");
        error(2, Bridges.padded("paint 7|", 901));
    }

    /** "If two kinds apply to one token, the smaller kind is reported." */
    static void sectionBridgeTextSmallerKind() {
        // illegal, and not what was expected
        error(1, "lane a 1;|!");
        error(1, "|123456 1;");
        error(1, "lane |123456 1;");
        error(1, "lane a |abcdefghi;");
        error(1, "lane a 1 |abcdefghi;");
        // illegal, and out of range
        error(1, "bridge |00013 1 1;");
        // another token was expected, and out of range
        error(2, "lane |9999 1;");
        error(2, "lane a 1 |9999;");
        error(2, "paint 0 |9999");
        // reserved, and not declared
        for (String word : RESERVED) {
            error(2, "closed |" + word + " 0;");
            error(2, "paint 0 |" + word + " g;");
            error(2, "span a none 1 1 1 1;paint 0 a |" + word + ";");
        }
        // no semicolon, but a name that is not declared
        error(2, "lane a 1 |b;");
    }

    // ---- promises 1 to 5

    /** "Creates a bridge as an empty text defines it, and an empty buffer." */
    static void promise01AsAnEmptyText() {
        String story = Story.of(new SpanPainter(), 8, 0, 0, 0);
        SpanPainter painter = new SpanPainter();
        Due.is("load(0)", painter.load(0), 0);
        Due.text("an empty text", Story.of(painter, 8, 0, 0, 0), story);
        SpanPainter other = Due.bridge(Bridges.largest(0, "99 100 50 1") + "closed la 0;closed ld 7;paint 7 sl ge;weather 7 3;");
        other.autoPlan();
        other.setShut(1);
        other.extraDays();
        Due.is("load(0)", other.load(0), 0);
        Due.text("an empty text after the largest bridge", Story.of(other, 8, 0, 0, 0), story);
        Due.noIndexBeyond("years", 8, other::pastSpans);
        Due.noIndexBeyond("lanes", 0, other::shutYears);
        Due.noIndexBeyond("spans", 0, other::pastYear);
        Due.noIndexBeyond("gangs", 0, other::idleDays);
        Due.is("SHUT", other.setShut(2), Due.UNCHANGED);
        Due.is("undo()", other.undo(), Due.NOT_FOUND);
        Due.noArgumentBeyond("load", 0, 0, new SpanPainter()::load);
    }

    /** A new object has nothing of those before it, nor of those that are used by turns with it. */
    static void promise01TwoObjects() {
        SpanPainter one = Due.bridge(Bridges.largest(0, "99 100 50 1") + "paint 11 sl ge;");
        one.setShut(1);
        one.write();
        Due.load(one, "?");
        one.feed(BLANKS, BLANKS, BLANKS, BLANKS, BLANKS);
        SpanPainter other = new SpanPainter();
        Due.text("a new object", Story.of(other, 8, 0, 0, 0), Story.of(new SpanPainter(), 8, 0, 0, 0));
        Due.noArgumentBeyond("load", 0, 0, other::load);
        Due.noIndexBeyond("outputByte", 0, other::outputByte);
        Due.is("undo()", other.undo(), Due.NOT_FOUND);
        Due.is("load", Due.load(other, "span a none 1 7 1 9;"), 1);
        other.setWeather(0, 0);
        other.autoPast();
        Due.is("errorKind()", one.errorKind(), 1);
        Due.is("load(20)", one.load(20), 0);
        Due.is("rustBefore(0, 0)", other.rustBefore(0, 0), 7);
        Due.is("undo()", other.undo(), 0);
    }

    /** "FULL if there would be more than 900 (nothing is appended)." */
    static void promise02FullBuffer() {
        SpanPainter painter = new SpanPainter();
        String text = Bridges.padded("span a none 1 7 1 9;", 900);
        for (int start = 0; start < 880; start += 20) {
            Due.feed(painter, text.substring(start, start + 20));
        }
        Due.feed(painter, text.substring(880));
        for (int count = 0; count < 3; count++) {
            Due.is("feed", painter.feed(0x3f3f3f3f, 0x3f3f3f3f, 0x3f3f3f3f, 0x3f3f3f3f, 0x3f3f3f3f), Due.FULL);
        }
        Due.noArgumentBeyond("load", 0, 900, painter::load);
        Due.is("feed", painter.feed(-1, -1, -1, -1, -1), Due.FULL);
        Due.is("load(900)", painter.load(900), 1);
        Due.is("rustBefore(0, 0)", painter.rustBefore(0, 0), 7);
        Due.is("the buffer is empty", painter.feed(BLANKS, BLANKS, BLANKS, BLANKS, BLANKS), 20);
        Due.is("FULL is no edit", painter.undo(), Due.NOT_FOUND);
    }

    /** "Appends 20 bytes to the buffer": each byte is in its place, in the first 20, in the next, and in the last ones. */
    static void promise02PlaceOfEachByte() {
        for (int start : new int[] {0, 20, 440, 880}) {
            for (int place = 0; place < 20; place++) {
                for (int sign : new int[] {'?', 0, 128, 255}) {
                    SpanPainter painter = new SpanPainter();
                    for (int fed = 0; fed < start; fed += 20) {
                        painter.feed(BLANKS, BLANKS, BLANKS, BLANKS, BLANKS);
                    }
                    int[] parts = {BLANKS, BLANKS, BLANKS, BLANKS, BLANKS};
                    int shift = 24 - 8 * (place % 4);
                    parts[place / 4] = BLANKS & ~(255 << shift) | sign << shift;
                    Due.is("feed", painter.feed(parts[0], parts[1], parts[2], parts[3], parts[4]), start + 20);
                    Due.is("load", painter.load(start + 20), Due.BAD_TEXT);
                    Due.is("the place of byte " + sign, painter.errorPosition(), start + place);
                    Due.is("errorKind()", painter.errorKind(), 1);
                }
            }
        }
    }

    /** "Length: number of bytes of the text, 0 to the number of bytes in the buffer" (the buffer keeps its bytes). */
    static void promise03LengthOutOfRange() {
        SpanPainter painter = new SpanPainter();
        for (int size = 20; size <= 900; size += 440) {
            String text = Bridges.padded("span a none 1 7 1 9;", size);
            Due.feed(painter, text);
            Due.noArgumentBeyond("load with " + size + " bytes", 0, size, painter::load);
            Due.is("load(" + size + ")", painter.load(size), 1);
            Due.noArgumentBeyond("load with no bytes", 0, 0, painter::load);
            Due.feed(painter, text);
            Due.is("load(0) of " + size + " bytes", painter.load(0), 0);
            Due.noArgumentBeyond("load with no bytes", 0, 0, painter::load);
        }
    }

    /** "(The buffer keeps its bytes)": what is fed next is behind them. */
    static void promise03BytesAreKept() {
        SpanPainter painter = new SpanPainter();
        Due.feed(painter, "span a none 1 7 1 9;");
        Due.noArgument("load(21)", () -> painter.load(21));
        Due.noArgument("load(-1)", () -> painter.load(-1));
        Due.is("feed", painter.feed(0x7370616e, 0x2062206e, 0x6f6e6520, 0x32203320, 0x3420353b), 40);
        Due.is("load(40)", painter.load(40), 2);
        Due.is("rustBefore(0, 0)", painter.rustBefore(0, 0), 7);
        Due.is("rustBefore(1, 0)", painter.rustBefore(1, 0), 3);
    }

    /** "Returns the number of spans": none, one, and as many as there may be. */
    static void promise03NumberOfSpans() {
        SpanPainter painter = new SpanPainter();
        Due.is("no spans", Due.load(painter, "bridge 1 1 1;lane a 1;gang b 1 1;"), 0);
        Due.is("12 spans", Due.load(painter, Bridges.largest(3, "1 2 3 4")), 12);
        Due.is("rustBefore(11, 0)", painter.rustBefore(11, 0), 2);
        Due.is("1 span", Due.load(painter, "span a none 1 7 1 9;"), 1);
        Due.noIndexBeyond("pastYear", 1, painter::pastYear);
        Due.is("load(0)", painter.load(0), 0);
    }

    /** What a large bridge had is not there any more in a small one, and the other way round. */
    static void promise03AfterAnotherBridge() {
        String small = "bridge 3 1 1;lane l 5;lane m 3;span a l 10 40 30 90;span b m 9 50 30 90;span c none 7 9 9 99;"
                + "gang g 1 1;gang h 2 3;weather 1 15;closed l 0;paint 1 b h;paint 2 b g;";
        String story = Story.of(Due.bridge(small), 3, 2, 3, 2);
        SpanPainter painter = Due.bridge(Bridges.largest(10, "99 100 50 1") + "closed ld 1;closed la 2;weather 0 1;paint 0 sa ge;"
                + "paint 2 sc ga;paint 11 sl ge;");
        painter.autoPast();
        Due.load(painter, Bridges.largest(0, "1 1 1 1") + "closed lb 1;paint 1 sa ge;?");
        Due.is("load", Due.load(painter, small), 3);
        Due.text("the small bridge", Story.of(painter, 3, 2, 3, 2), story);
        Due.noIndexBeyond("years", 3, painter::pastSpans);
        Due.noIndexBeyond("lanes", 2, painter::shutYears);
        Due.noIndexBeyond("gangs", 2, painter::idleDays);
        Due.is("load", Due.load(painter, Bridges.largest(10, "99 100 50 100")), 12);
        Due.is("paintings()", painter.paintings(), 0);
        Due.is("refusal(2, 8, 4)", painter.refusal(2, 8, 4), 0);
        Due.is("capacity(4, 1)", painter.capacity(4, 1), 5000);
    }

    /** "0 if it had none or there was no such load()"; an exception is no such load. */
    static void promise04And05AfterEachLoad() {
        SpanPainter painter = new SpanPainter();
        int[] kinds = {1, 2, 3, 4, 5, 6};
        String[] texts = {"?", ";", "bridge 0", "closed a", "lane a 1;bridge", "span a none 1 1 1 1;gang g 1 1;paint 0 a g;paint 0 a"};
        int[] positions = {0, 0, 7, 7, 9, 51};
        Due.noArgument("load(1)", () -> painter.load(1));
        Due.is("errorKind()", painter.errorKind(), 0);
        Due.is("errorPosition()", painter.errorPosition(), Due.NOT_FOUND);
        for (int index = 0; index < kinds.length; index++) {
            Due.is("load", Due.load(painter, texts[index]), Due.BAD_TEXT);
            Due.is("errorKind()", painter.errorKind(), kinds[index]);
            Due.is("errorPosition()", painter.errorPosition(), positions[index]);
            Due.noArgument("load(1)", () -> painter.load(1));
            painter.feed(BLANKS, BLANKS, BLANKS, BLANKS, BLANKS);
            Due.noArgument("load(-1)", () -> painter.load(-1));
            painter.undo();
            Due.is("errorKind()", painter.errorKind(), kinds[index]);
            Due.is("errorPosition()", painter.errorPosition(), positions[index]);
            if (index % 2 == 0) {
                Due.is("load(20)", painter.load(20), 0);
                Due.is("errorKind()", painter.errorKind(), 0);
                Due.is("errorPosition()", painter.errorPosition(), Due.NOT_FOUND);
            } else {
                painter.load(0);
            }
        }
    }

    /** The positions at the ends of the longest text. */
    static void promise05PositionsInTheLongestText() {
        error(1, "|?" + " ".repeat(899));
        error(1, " ".repeat(899) + "|?");
        error(2, " ".repeat(899) + "|;");
        error(2, "weather 0 1;".repeat(74) + "weather 0  1|");
    }
}
