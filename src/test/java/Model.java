import java.nio.charset.StandardCharsets;
import java.util.ArrayDeque;
import java.util.ArrayList;
import java.util.Arrays;
import java.util.Comparator;
import java.util.HashMap;
import java.util.List;
import java.util.Map;
import java.util.TreeMap;
import java.util.TreeSet;
import java.util.regex.Matcher;
import java.util.regex.Pattern;

/**
 * The document once more, as literally as possible and with no thought of speed: every number is computed
 * from the definitions each time. ModelTest compares SpanPainter with it.
 */
public final class Model {
    private static final int UNCHANGED = -1000003;
    private static final int NOT_FOUND = -1000004;
    private static final int FULL = -1000005;
    private static final int BAD_TEXT = -1000006;
    private static final int REFUSED = -1000007;
    private static final int GIVEN_UP = -1000008;

    private record Span(int lane, int area, int rust, int rate, int limit) { }

    private record Gang(int speed, int wage) { }

    private record Try(int year, int gang) { }

    /** Thrown at the first error of a text. */
    private static final class TextError extends RuntimeException {
        private static final long serialVersionUID = 1L;
        final int kind;
        final int position;

        TextError(int kind, int position) {
            this.kind = kind;
            this.position = position;
        }
    }

    private static final class GiveUp extends RuntimeException {
        private static final long serialVersionUID = 1L;
    }

    /** A bridge with its plan. */
    private static final class State {
        int years = 8;
        int shut = 2;
        int guard = 3;
        final List<Integer> traffic = new ArrayList<>();
        final List<Span> spans = new ArrayList<>();
        final List<Gang> gangs = new ArrayList<>();
        final TreeMap<Integer, Integer> weather = new TreeMap<>();
        final TreeSet<Integer> closed = new TreeSet<>();
        /** The gang by 100 * year + span. */
        final TreeMap<Integer, Integer> plan = new TreeMap<>();

        State copy() {
            State copy = new State();
            copy.years = years;
            copy.shut = shut;
            copy.guard = guard;
            copy.traffic.addAll(traffic);
            copy.spans.addAll(spans);
            copy.gangs.addAll(gangs);
            copy.weather.putAll(weather);
            copy.closed.addAll(closed);
            copy.plan.putAll(plan);
            return copy;
        }

        State unpainted() {
            State copy = copy();
            copy.plan.clear();
            return copy;
        }

        int days(int year) {
            return weather.getOrDefault(year, 100);
        }

        boolean painted(int span, int year) {
            return plan.containsKey(100 * year + span);
        }

        int guardLeft(int span, int year) {
            int left = 0;
            for (int before = 0; before < year; before++) {
                if (painted(span, before)) {
                    left = Math.max(0, before + guard - year + 1);
                }
            }
            return left;
        }

        int before(int span, int year) {
            return year == 0 ? spans.get(span).rust() : after(span, year - 1);
        }

        int after(int span, int year) {
            if (painted(span, year)) {
                return 0;
            }
            int before = before(span, year);
            return guardLeft(span, year) > 0 ? before : Math.min(100, before + spans.get(span).rate());
        }

        boolean past(int span, int year) {
            return after(span, year) > spans.get(span).limit();
        }

        int firstPast(int span) {
            for (int year = 0; year < years; year++) {
                if (past(span, year)) {
                    return year;
                }
            }
            return NOT_FOUND;
        }

        int pastCount() {
            int count = 0;
            for (int span = 0; span < spans.size(); span++) {
                count += firstPast(span) == NOT_FOUND ? 0 : 1;
            }
            return count;
        }

        int effort(int span, int year) {
            return spans.get(span).area() * (100 + before(span, year)) / 100;
        }

        int load(int gang, int year) {
            int sum = 0;
            for (int span = 0; span < spans.size(); span++) {
                if (painted(span, year) && plan.get(100 * year + span) == gang) {
                    sum += effort(span, year);
                }
            }
            return sum;
        }

        int capacity(int gang, int year) {
            return gangs.get(gang).speed() * days(year);
        }

        TreeSet<Integer> shutLanes(int year) {
            TreeSet<Integer> lanes = new TreeSet<>();
            for (int span = 0; span < spans.size(); span++) {
                if (painted(span, year) && spans.get(span).lane() >= 0) {
                    lanes.add(spans.get(span).lane());
                }
            }
            return lanes;
        }

        int refusal(int year, int span, int gang) {
            int lane = spans.get(span).lane();
            if (painted(span, year)) {
                return 1;
            }
            if (lane >= 0 && closed.contains(100 * lane + year)) {
                return 2;
            }
            TreeSet<Integer> lanes = shutLanes(year);
            if (lane >= 0) {
                lanes.add(lane);
                if (lanes.size() > shut) {
                    return 3;
                }
            }
            return load(gang, year) + effort(span, year) > capacity(gang, year) ? 4 : 0;
        }

        int paintingDays(int span, int year) {
            double speed = gangs.get(plan.get(100 * year + span)).speed();
            return (int) Math.ceil(effort(span, year) / speed);
        }

        int daysUsed(int gang, int year) {
            int sum = 0;
            for (int span = 0; span < spans.size(); span++) {
                if (painted(span, year) && plan.get(100 * year + span) == gang) {
                    sum += paintingDays(span, year);
                }
            }
            return sum;
        }

        int laneDays(int lane, int year) {
            int sum = 0;
            for (int span = 0; span < spans.size(); span++) {
                if (painted(span, year) && spans.get(span).lane() == lane) {
                    sum += paintingDays(span, year);
                }
            }
            return sum;
        }

        int overloads() {
            int count = 0;
            for (int year = 0; year < years; year++) {
                for (int gang = 0; gang < gangs.size(); gang++) {
                    count += load(gang, year) > capacity(gang, year) ? 1 : 0;
                }
            }
            return count;
        }

        /** This bridge with the automatic plan of some gangs. */
        State automatic(int gangBits) {
            State made = unpainted();
            for (int y = 0; y < years; y++) {
                final int year = y;
                List<Integer> candidates = new ArrayList<>();
                Map<Integer, Integer> first = new HashMap<>();
                Map<Integer, Integer> rust = new HashMap<>();
                for (int span = 0; span < spans.size(); span++) {
                    int its = made.firstPast(span);
                    if (its >= year && its <= year + 2) {
                        candidates.add(span);
                        first.put(span, its);
                        rust.put(span, made.before(span, year));
                    }
                }
                candidates.sort(Comparator.<Integer>comparingInt(first::get)
                        .thenComparing(span -> -rust.get(span)).thenComparing(span -> span));
                for (int span : candidates) {
                    int best = -1;
                    int least = Integer.MAX_VALUE;
                    for (int gang = 0; gang < gangs.size(); gang++) {
                        if ((gangBits & 1 << gang) == 0 || made.refusal(year, span, gang) != 0) {
                            continue;
                        }
                        int left = made.capacity(gang, year) - made.load(gang, year) - made.effort(span, year);
                        if (left < least) {
                            least = left;
                            best = gang;
                        }
                    }
                    if (best >= 0) {
                        made.plan.put(100 * year + span, best);
                    }
                }
            }
            return made;
        }
    }

    private State state = new State();
    private final byte[] buffer = new byte[900];
    private int buffered = 0;
    private int kind = 0;
    private int position = NOT_FOUND;
    private final ArrayDeque<State> edits = new ArrayDeque<>();
    private byte[] output = new byte[0];
    private int tries;

    // ---- text

    public int feed(int a, int b, int c, int d, int e) {
        if (buffered > 880) {
            return FULL;
        }
        for (int number : new int[] {a, b, c, d, e}) {
            for (int place = 3; place >= 0; place--) {
                buffer[buffered++] = (byte) (number >>> 8 * place);
            }
        }
        return buffered;
    }

    public int load(int length) {
        if (length < 0 || length > buffered) {
            throw new IllegalArgumentException();
        }
        String text = new String(buffer, 0, length, StandardCharsets.ISO_8859_1);
        buffered = 0;
        try {
            state = new Reading(text).read();
        } catch (TextError error) {
            kind = error.kind;
            position = error.position;
            return BAD_TEXT;
        }
        kind = 0;
        position = NOT_FOUND;
        edits.clear();
        return state.spans.size();
    }

    /** Reads a text by a table of the statements. */
    private static final class Reading {
        private static final List<String> RESERVED =
                Arrays.asList("bridge", "lane", "span", "gang", "weather", "closed", "paint", "none");
        private static final Map<String, String> STATEMENTS = Map.of(
                "bridge", "1-12 1-4 0-10 ;",
                "lane", "new 0-999 ;",
                "span", "new lane? 1-99 0-100 1-50 1-100 ;",
                "gang", "new 1-50 0-99 ;",
                "weather", "year 0-200 ;",
                "closed", "lane year ;",
                "paint", "year unpainted gang ;");

        private final String text;
        private final Matcher matcher;
        private final State read = new State();
        private final Map<String, String> declared = new HashMap<>();
        private String token = "";
        private int at;

        Reading(String text) {
            this.text = text;
            this.matcher = Pattern.compile("[ \\n]*([a-z]+|[0-9]+|[^ \\n]|\\z)", Pattern.DOTALL).matcher(text);
        }

        State read() {
            for (int number = 0; ; number++) {
                next();
                if (token.isEmpty()) {
                    return read;
                }
                int start = at;
                String keyword = token;
                if (!STATEMENTS.containsKey(keyword)) {
                    throw new TextError(2, at);
                }
                boolean tooMany = keyword.equals("bridge") && number > 0
                        || keyword.equals("lane") && read.traffic.size() == 4
                        || keyword.equals("span") && read.spans.size() == 12
                        || keyword.equals("gang") && read.gangs.size() == 5;
                if (tooMany) {
                    throw new TextError(5, start);
                }
                List<Integer> values = new ArrayList<>();
                String name = null;
                for (String part : STATEMENTS.get(keyword).split(" ")) {
                    next();
                    if (part.equals("new")) {
                        name = token;
                    }
                    values.add(value(part, values));
                }
                carryOut(keyword, name, values);
            }
        }

        private void next() {
            if (!matcher.find()) {
                throw new IllegalStateException("the text has no further token");
            }
            token = matcher.group(1);
            at = matcher.start(1);
            if (!token.matches("[a-z]{1,8}|[0-9]{1,4}|;|")) {
                throw new TextError(1, at);
            }
            if (token.isEmpty() && at != text.length()) {
                throw new IllegalStateException("the end is not where it should be");
            }
        }

        private int value(String part, List<Integer> before) {
            if (part.equals(";")) {
                need(token.equals(";"), 2);
                return 0;
            }
            if (part.equals("year")) {
                return number(0, read.years - 1);
            }
            if (part.contains("-")) {
                String[] ends = part.split("-");
                return number(Integer.parseInt(ends[0]), Integer.parseInt(ends[1]));
            }
            if (part.equals("lane?") && token.equals("none")) {
                return -1;
            }
            need(token.matches("[a-z]+") && !RESERVED.contains(token), 2);
            if (part.equals("new")) {
                need(!declared.containsKey(token), 4);
                return 0;
            }
            String sort = part.equals("lane?") ? "lane" : part.equals("unpainted") ? "span" : part;
            String what = declared.getOrDefault(token, "nothing 0");
            need(what.startsWith(sort + " "), 4);
            int index = Integer.parseInt(what.split(" ")[1]);
            if (part.equals("unpainted")) {
                need(!read.painted(index, before.get(0)), 6);
            }
            return index;
        }

        private int number(int least, int most) {
            need(token.matches("[0-9]+"), 2);
            int number = Integer.parseInt(token);
            need(number >= least && number <= most, 3);
            return number;
        }

        private void need(boolean right, int kind) {
            if (!right) {
                throw new TextError(kind, at);
            }
        }

        private void carryOut(String keyword, String name, List<Integer> v) {
            switch (keyword) {
                case "bridge" -> {
                    read.years = v.get(0);
                    read.shut = v.get(1);
                    read.guard = v.get(2);
                }
                case "lane" -> {
                    declared.put(name, "lane " + read.traffic.size());
                    read.traffic.add(v.get(1));
                }
                case "span" -> {
                    declared.put(name, "span " + read.spans.size());
                    read.spans.add(new Span(v.get(1), v.get(2), v.get(3), v.get(4), v.get(5)));
                }
                case "gang" -> {
                    declared.put(name, "gang " + read.gangs.size());
                    read.gangs.add(new Gang(v.get(1), v.get(2)));
                }
                case "weather" -> read.weather.put(v.get(0), v.get(1));
                case "closed" -> read.closed.add(100 * v.get(0) + v.get(1));
                default -> read.plan.put(100 * v.get(0) + v.get(1), v.get(2));
            }
        }
    }

    public int errorKind() {
        return kind;
    }

    public int errorPosition() {
        return position;
    }

    // ---- the checks

    private static void need(int index, int count) {
        if (index < 0 || index >= count) {
            throw new IndexOutOfBoundsException();
        }
    }

    private void needYear(int year) {
        need(year, state.years);
    }

    private void needSpan(int span) {
        need(span, state.spans.size());
    }

    private void needLane(int lane) {
        need(lane, state.traffic.size());
    }

    private void needGang(int gang) {
        need(gang, state.gangs.size());
    }

    private static void needRange(int value, int least, int most) {
        if (value < least || value > most) {
            throw new IllegalArgumentException();
        }
    }

    // ---- rust with the plan

    public int rustBefore(int span, int year) {
        needSpan(span);
        needYear(year);
        return state.before(span, year);
    }

    public int rustAfter(int span, int year) {
        needSpan(span);
        needYear(year);
        return state.after(span, year);
    }

    public int guardLeft(int span, int year) {
        needSpan(span);
        needYear(year);
        return state.guardLeft(span, year);
    }

    public int pastYear(int span) {
        needSpan(span);
        return state.firstPast(span);
    }

    public int pastCount() {
        return state.pastCount();
    }

    public int pastSpans(int year) {
        needYear(year);
        int bits = 0;
        for (int span = 0; span < state.spans.size(); span++) {
            bits += state.past(span, year) ? 1 << span : 0;
        }
        return bits;
    }

    public int rustiest(int year) {
        needYear(year);
        for (int rust = 100; rust >= 0; rust--) {
            for (int span = 0; span < state.spans.size(); span++) {
                if (state.after(span, year) == rust) {
                    return span;
                }
            }
        }
        return NOT_FOUND;
    }

    public double averageRust(int year) {
        needYear(year);
        double rusty = 0;
        double whole = 0;
        for (int span = 0; span < state.spans.size(); span++) {
            rusty += state.spans.get(span).area() * state.after(span, year);
            whole += state.spans.get(span).area();
        }
        return whole == 0 ? 0.0 : rusty / whole;
    }

    public int urgent(int rank) {
        need(rank, state.spans.size());
        List<Integer> order = new ArrayList<>();
        for (int span = 0; span < state.spans.size(); span++) {
            order.add(span);
        }
        order.sort(Comparator.<Integer>comparingInt(span -> state.firstPast(span) < 0 ? 99 : state.firstPast(span))
                .thenComparing(span -> -state.after(span, state.years - 1)).thenComparing(span -> span));
        return order.get(rank);
    }

    // ---- one span alone, without the plan

    public int unpaintedPast(int span) {
        needSpan(span);
        return state.unpainted().firstPast(span);
    }

    /** Tries all sets of years, the small ones first. */
    public int coatsNeeded(int span) {
        needSpan(span);
        State trial = state.unpainted();
        int least = state.years;
        for (int set = 0; set < 1 << state.years; set++) {
            if (Integer.bitCount(set) >= least) {
                continue;
            }
            trial.plan.clear();
            for (int year = 0; year < state.years; year++) {
                if ((set >> year & 1) == 1) {
                    trial.plan.put(100 * year + span, 0);
                }
            }
            if (trial.firstPast(span) == NOT_FOUND) {
                least = Integer.bitCount(set);
            }
        }
        return least;
    }

    public int latestPainting(int span, int index) {
        needSpan(span);
        State trial = state.unpainted();
        List<Integer> schedule = new ArrayList<>();
        for (int year = 0; year < state.years; year++) {
            if (trial.past(span, year)) {
                trial.plan.put(100 * year + span, 0);
                schedule.add(year);
            }
        }
        return index < 0 || index >= schedule.size() ? NOT_FOUND : schedule.get(index);
    }

    public int harmlessRate(int span) {
        needSpan(span);
        int best = NOT_FOUND;
        for (int rate = 1; rate <= 50; rate++) {
            State trial = state.unpainted();
            Span old = trial.spans.get(span);
            trial.spans.set(span, new Span(old.lane(), old.area(), old.rust(), rate, old.limit()));
            if (trial.firstPast(span) == NOT_FOUND) {
                best = rate;
            }
        }
        return best;
    }

    // ---- work with the plan

    public int effort(int span, int year) {
        needSpan(span);
        needYear(year);
        return state.effort(span, year);
    }

    public int capacity(int gang, int year) {
        needGang(gang);
        needYear(year);
        return state.capacity(gang, year);
    }

    public int loadOf(int gang, int year) {
        needGang(gang);
        needYear(year);
        return state.load(gang, year);
    }

    public int gangOf(int span, int year) {
        needSpan(span);
        needYear(year);
        return state.plan.getOrDefault(100 * year + span, NOT_FOUND);
    }

    public int paintedSpans(int year) {
        needYear(year);
        int bits = 0;
        for (int key : state.plan.keySet()) {
            bits += key / 100 == year ? 1 << key % 100 : 0;
        }
        return bits;
    }

    public int lanesShut(int year) {
        needYear(year);
        int bits = 0;
        for (int lane : state.shutLanes(year)) {
            bits += 1 << lane;
        }
        return bits;
    }

    public int paintings() {
        return state.plan.size();
    }

    public int daysUsed(int gang, int year) {
        needGang(gang);
        needYear(year);
        return state.daysUsed(gang, year);
    }

    public int laneDays(int lane, int year) {
        needLane(lane);
        needYear(year);
        return state.laneDays(lane, year);
    }

    public int trafficLoss(int year) {
        needYear(year);
        int sum = 0;
        for (int lane = 0; lane < state.traffic.size(); lane++) {
            sum += state.traffic.get(lane) * state.laneDays(lane, year);
        }
        return sum;
    }

    public int wages(int year) {
        needYear(year);
        int sum = 0;
        for (int gang = 0; gang < state.gangs.size(); gang++) {
            sum += state.gangs.get(gang).wage() * state.daysUsed(gang, year);
        }
        return sum;
    }

    public int totalWages() {
        int sum = 0;
        for (int year = 0; year < state.years; year++) {
            sum += wages(year);
        }
        return sum;
    }

    public int totalLoss() {
        int sum = 0;
        for (int year = 0; year < state.years; year++) {
            sum += trafficLoss(year);
        }
        return sum;
    }

    public int busiestYear() {
        int[] loads = new int[state.years];
        for (int year = 0; year < state.years; year++) {
            for (int gang = 0; gang < state.gangs.size(); gang++) {
                loads[year] += state.load(gang, year);
            }
        }
        return firstGreatest(loads);
    }

    private static int firstGreatest(int[] numbers) {
        int best = 0;
        for (int index = 1; index < numbers.length; index++) {
            best = numbers[index] > numbers[best] ? index : best;
        }
        return best;
    }

    public int idleDays(int gang) {
        needGang(gang);
        int sum = 0;
        for (int year = 0; year < state.years; year++) {
            int idle = state.days(year) - state.daysUsed(gang, year);
            sum += idle > 0 ? idle : 0;
        }
        return sum;
    }

    public int overloads() {
        return state.overloads();
    }

    public int firstOverload() {
        for (int number = 0; number < 10 * state.years; number++) {
            int gang = number % 10;
            if (gang < state.gangs.size() && state.load(gang, number / 10) > state.capacity(gang, number / 10)) {
                return number;
            }
        }
        return NOT_FOUND;
    }

    public int refusal(int year, int span, int gang) {
        needYear(year);
        needSpan(span);
        needGang(gang);
        return state.refusal(year, span, gang);
    }

    public int possibleGangs(int year, int span) {
        needYear(year);
        needSpan(span);
        int bits = 0;
        for (int gang = 0; gang < state.gangs.size(); gang++) {
            bits += state.refusal(year, span, gang) == 0 ? 1 << gang : 0;
        }
        return bits;
    }

    private List<Integer> possible(int span) {
        List<Integer> numbers = new ArrayList<>();
        for (int number = 0; number < 10 * state.years; number++) {
            int gang = number % 10;
            if (gang < state.gangs.size() && state.refusal(number / 10, span, gang) == 0) {
                numbers.add(number);
            }
        }
        return numbers;
    }

    public int firstPossible(int span) {
        needSpan(span);
        List<Integer> numbers = possible(span);
        return numbers.isEmpty() ? NOT_FOUND : numbers.get(0);
    }

    public int bestPainting(int span) {
        needSpan(span);
        int best = NOT_FOUND;
        int least = Integer.MAX_VALUE;
        for (int number : possible(span)) {
            State trial = state.copy();
            trial.plan.put(100 * (number / 10) + span, number % 10);
            if (trial.pastCount() < least) {
                least = trial.pastCount();
                best = number;
            }
        }
        return best;
    }

    public int shutYears(int lane) {
        needLane(lane);
        int bits = 0;
        for (int year = 0; year < state.years; year++) {
            bits += state.shutLanes(year).contains(lane) ? 1 << year : 0;
        }
        return bits;
    }

    public int needlessPaintings(int year) {
        needYear(year);
        int bits = 0;
        for (int span = 0; span < state.spans.size(); span++) {
            State trial = state.copy();
            if (trial.plan.remove(100 * year + span) != null && trial.pastCount() <= state.pastCount()) {
                bits += 1 << span;
            }
        }
        return bits;
    }

    public int sufficientSpeed(int gang) {
        needGang(gang);
        for (int speed = 1; speed <= 50; speed++) {
            boolean enough = true;
            for (int year = 0; year < state.years; year++) {
                enough &= state.load(gang, year) <= speed * state.days(year);
            }
            if (enough) {
                return speed;
            }
        }
        return NOT_FOUND;
    }

    // ---- edits

    private void change(State next) {
        edits.addLast(state);
        if (edits.size() > 16) {
            edits.removeFirst();
        }
        state = next;
    }

    public int paint(int year, int span, int gang) {
        needYear(year);
        needSpan(span);
        needGang(gang);
        if (state.refusal(year, span, gang) != 0) {
            return REFUSED;
        }
        State next = state.copy();
        next.plan.put(100 * year + span, gang);
        change(next);
        return state.pastCount();
    }

    public int unpaint(int year, int span) {
        needYear(year);
        needSpan(span);
        State next = state.copy();
        Integer gang = next.plan.remove(100 * year + span);
        if (gang == null) {
            return NOT_FOUND;
        }
        change(next);
        return gang;
    }

    public int movePainting(int span, int from, int to) {
        needSpan(span);
        needYear(from);
        needYear(to);
        State next = state.copy();
        Integer gang = next.plan.remove(100 * from + span);
        if (gang == null) {
            return NOT_FOUND;
        }
        if (from == to) {
            return UNCHANGED;
        }
        if (next.refusal(to, span, gang) != 0) {
            return REFUSED;
        }
        next.plan.put(100 * to + span, gang);
        change(next);
        return state.pastCount();
    }

    public int exchange(int year, int span, int other) {
        needYear(year);
        needSpan(span);
        needSpan(other);
        Integer one = state.plan.get(100 * year + span);
        Integer two = state.plan.get(100 * year + other);
        if (one == null || two == null) {
            return NOT_FOUND;
        }
        if (one.intValue() == two.intValue()) {
            return UNCHANGED;
        }
        State next = state.copy();
        next.plan.put(100 * year + span, two);
        next.plan.put(100 * year + other, one);
        change(next);
        return state.overloads();
    }

    public int setWeather(int year, int days) {
        needYear(year);
        needRange(days, 0, 200);
        int old = state.days(year);
        if (old == days) {
            return UNCHANGED;
        }
        State next = state.copy();
        next.weather.put(year, days);
        change(next);
        return old;
    }

    public int setShut(int shut) {
        needRange(shut, 1, 4);
        int old = state.shut;
        if (old == shut) {
            return UNCHANGED;
        }
        State next = state.copy();
        next.shut = shut;
        change(next);
        return old;
    }

    public int setClosed(int lane, int year, boolean closed) {
        needLane(lane);
        needYear(year);
        State next = state.copy();
        boolean changed = closed ? next.closed.add(100 * lane + year) : next.closed.remove(100 * lane + year);
        if (!changed) {
            return UNCHANGED;
        }
        change(next);
        int bits = 0;
        for (int each = 0; each < state.traffic.size(); each++) {
            bits += state.closed.contains(100 * each + year) ? 1 << each : 0;
        }
        return bits;
    }

    public int setRate(int span, int rate) {
        needSpan(span);
        needRange(rate, 1, 50);
        Span old = state.spans.get(span);
        if (old.rate() == rate) {
            return UNCHANGED;
        }
        State next = state.copy();
        next.spans.set(span, new Span(old.lane(), old.area(), old.rust(), rate, old.limit()));
        change(next);
        return state.pastCount();
    }

    public int setSpeed(int gang, int speed) {
        needGang(gang);
        needRange(speed, 1, 50);
        Gang old = state.gangs.get(gang);
        if (old.speed() == speed) {
            return UNCHANGED;
        }
        State next = state.copy();
        next.gangs.set(gang, new Gang(speed, old.wage()));
        change(next);
        return state.overloads();
    }

    public int autoPlan() {
        State next = state.automatic(31);
        if (next.plan.equals(state.plan)) {
            return UNCHANGED;
        }
        change(next);
        return state.pastCount();
    }

    public int applySafePlan() {
        State next = state.unpainted();
        int found = searchInto(next);
        if (found != 1) {
            return found == 0 ? NOT_FOUND : GIVEN_UP;
        }
        if (next.plan.equals(state.plan)) {
            return UNCHANGED;
        }
        change(next);
        return state.plan.size();
    }

    public int undo() {
        if (edits.isEmpty()) {
            return NOT_FOUND;
        }
        state = edits.removeLast();
        return edits.size();
    }

    // ---- searches and other settings

    private int searchInto(State empty) {
        tries = 0;
        List<Integer> endangered = new ArrayList<>();
        Map<Integer, Integer> first = new HashMap<>();
        Map<Integer, List<Try>> allTries = new HashMap<>();
        Map<Integer, List<Integer>> harmless = new HashMap<>();
        for (int span = 0; span < empty.spans.size(); span++) {
            int its = empty.firstPast(span);
            if (its == NOT_FOUND) {
                continue;
            }
            endangered.add(span);
            first.put(span, its);
            allTries.put(span, new ArrayList<>());
            harmless.put(span, new ArrayList<>());
            for (int year = 0; year <= its; year++) {
                for (int gang = 0; gang < empty.gangs.size(); gang++) {
                    allTries.get(span).add(new Try(year, gang));
                }
                State alone = empty.copy();
                alone.plan.put(100 * year + span, 0);
                if (alone.firstPast(span) == NOT_FOUND) {
                    harmless.get(span).add(year);
                }
            }
        }
        endangered.sort(Comparator.<Integer>comparingInt(first::get).thenComparing(span -> span));
        try {
            return continues(empty, endangered, allTries, harmless) ? 1 : 0;
        } catch (GiveUp giveUp) {
            return GIVEN_UP;
        }
    }

    private boolean continues(State chosen, List<Integer> left, Map<Integer, List<Try>> allTries,
            Map<Integer, List<Integer>> harmless) {
        if (left.isEmpty()) {
            return true;
        }
        int span = left.get(0);
        for (Try one : allTries.get(span)) {
            if (tries == 20000) {
                throw new GiveUp();
            }
            tries++;
            if (!harmless.get(span).contains(one.year()) || chosen.refusal(one.year(), span, one.gang()) != 0) {
                continue;
            }
            chosen.plan.put(100 * one.year() + span, one.gang());
            if (continues(chosen, left.subList(1, left.size()), allTries, harmless)) {
                return true;
            }
            chosen.plan.remove(100 * one.year() + span);
        }
        return false;
    }

    public int hasSafePlan() {
        return searchInto(state.unpainted());
    }

    public int searchTries() {
        searchInto(state.unpainted());
        return tries;
    }

    public int autoPast() {
        return state.automatic(31).pastCount();
    }

    public int autoPastWithout(int gang) {
        needGang(gang);
        return state.automatic(31 - (1 << gang)).pastCount();
    }

    public int criticalGang() {
        if (state.gangs.isEmpty()) {
            return NOT_FOUND;
        }
        int[] past = new int[state.gangs.size()];
        for (int gang = 0; gang < past.length; gang++) {
            past[gang] = autoPastWithout(gang);
        }
        return firstGreatest(past);
    }

    public int worstYear() {
        int[] past = new int[state.years];
        for (int year = 0; year < state.years; year++) {
            State trial = state.copy();
            trial.weather.put(year, 0);
            past[year] = trial.automatic(31).pastCount();
        }
        return firstGreatest(past);
    }

    public int smallestShut() {
        for (int shut = 1; shut <= 4; shut++) {
            State trial = state.copy();
            trial.shut = shut;
            if (trial.automatic(31).pastCount() == 0) {
                return shut;
            }
        }
        return NOT_FOUND;
    }

    public int fewestGangs() {
        int aim = autoPast();
        for (int count = 0; count <= state.gangs.size(); count++) {
            for (int set = 0; set < 1 << state.gangs.size(); set++) {
                if (Integer.bitCount(set) == count && state.automatic(set).pastCount() <= aim) {
                    return set;
                }
            }
        }
        throw new IllegalStateException("all gangs together are always enough");
    }

    public int extraDays() {
        for (int extra = 0; extra <= 100; extra++) {
            State trial = state.copy();
            for (int year = 0; year < state.years; year++) {
                trial.weather.put(year, Math.min(200, state.days(year) + extra));
            }
            if (trial.automatic(31).pastCount() == 0) {
                return extra;
            }
        }
        return NOT_FOUND;
    }

    // ---- output

    public int write() {
        StringBuilder written = new StringBuilder();
        state.plan.forEach((key, gang) -> written.append(key / 100).append(':').append(key % 100)
                .append('/').append(gang).append(';'));
        output = written.toString().getBytes(StandardCharsets.US_ASCII);
        return output.length;
    }

    public int outputByte(int index) {
        need(index, output.length);
        return output[index];
    }
}
