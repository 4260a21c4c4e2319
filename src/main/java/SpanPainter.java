import java.util.Arrays;

/** Plans the repainting of the spans of a bridge; ../shared/DOC.md says what each method does. */
public final class SpanPainter {
    public static final int UNCHANGED = -1000003;
    public static final int NOT_FOUND = -1000004;
    public static final int FULL = -1000005;
    public static final int BAD_TEXT = -1000006;
    public static final int REFUSED = -1000007;
    public static final int GIVEN_UP = -1000008;

    private static final int MAX_YEARS = 12;
    private static final int MAX_LANES = 4;
    private static final int MAX_SPANS = 12;
    private static final int MAX_GANGS = 5;
    private static final int MAX_SHUT = 4;
    private static final int MAX_RATE = 50;
    private static final int MAX_SPEED = 50;
    private static final int MAX_DAYS = 200;
    private static final int MAX_RUST = 100;
    private static final int MAX_EXTRA_DAYS = 100;
    private static final int MAX_TEXT = 900;
    private static final int ALL_GANGS = (1 << MAX_GANGS) - 1;
    private static final int NONE = -1;

    private final Text text;
    private final Parser parser;
    private final AutoPlanner planner = new AutoPlanner();
    private final SafeSearch search = new SafeSearch();
    private final Ranking ranking = new Ranking();
    private final History history = new History();
    private final Output output = new Output();
    private Bridge bridge;
    private Plan plan;
    /** Rows for texts that are read and for other settings; what they hold means nothing between two calls. */
    private Bridge spare;
    private Plan draft;
    private int badKind = 0;
    private int badPosition = NOT_FOUND;

    public SpanPainter() {
        Text buffer = new Text();
        Bridge current = new Bridge();
        Bridge other = new Bridge();
        Plan trial = new Plan(other);
        text = buffer;
        bridge = current;
        plan = new Plan(current);
        spare = other;
        draft = trial;
        parser = new Parser(buffer, other, trial);
    }

    // ---- text

    public int feed(int a, int b, int c, int d, int e) {
        if (!text.hasRoomFor(20)) {
            return FULL;
        }
        text.append(a);
        text.append(b);
        text.append(c);
        text.append(d);
        text.append(e);
        return text.size();
    }

    public int load(int length) throws IllegalArgumentException {
        if (length < 0 || length > text.size()) {
            throw new IllegalArgumentException("the buffer does not hold so many bytes");
        }
        boolean legal = parser.read(length, spare, draft);
        badKind = parser.failureKind();
        badPosition = parser.failurePosition();
        text.clear();
        if (!legal) {
            return BAD_TEXT;
        }
        takeDraft();
        Bridge old = bridge;
        bridge = spare;
        spare = old;
        history.clear();
        return bridge.spanCount;
    }

    public int errorKind() {
        return badKind;
    }

    public int errorPosition() {
        return badPosition;
    }

    // ---- rust with the plan

    public int rustBefore(int span, int year) throws IndexOutOfBoundsException {
        checkSpan(span);
        checkYear(year);
        return plan.rustAtStart(span, year);
    }

    public int rustAfter(int span, int year) throws IndexOutOfBoundsException {
        checkSpan(span);
        checkYear(year);
        return plan.rustAtEnd(span, year);
    }

    public int guardLeft(int span, int year) throws IndexOutOfBoundsException {
        checkSpan(span);
        checkYear(year);
        return plan.guardAtStart(span, year);
    }

    public int pastYear(int span) throws IndexOutOfBoundsException {
        checkSpan(span);
        return plan.firstPast(span);
    }

    public int pastCount() {
        return plan.countPast();
    }

    public int pastSpans(int year) throws IndexOutOfBoundsException {
        checkYear(year);
        int bits = 0;
        for (int span = 0; span < bridge.spanCount; span++) {
            if (plan.isPast(span, year)) {
                bits |= 1 << span;
            }
        }
        return bits;
    }

    public int rustiest(int year) throws IndexOutOfBoundsException {
        checkYear(year);
        int best = NOT_FOUND;
        int most = -1;
        for (int span = 0; span < bridge.spanCount; span++) {
            int rust = plan.rustAtEnd(span, year);
            if (rust > most) {
                most = rust;
                best = span;
            }
        }
        return best;
    }

    public double averageRust(int year) throws IndexOutOfBoundsException {
        checkYear(year);
        int rusty = 0;
        int whole = 0;
        for (int span = 0; span < bridge.spanCount; span++) {
            rusty += bridge.area[span] * plan.rustAtEnd(span, year);
            whole += bridge.area[span];
        }
        return whole <= 0 ? 0.0 : (double) rusty / (double) whole;
    }

    public int urgent(int rank) throws IndexOutOfBoundsException {
        if (rank < 0 || rank >= bridge.spanCount) {
            throw new IndexOutOfBoundsException("there are not so many spans");
        }
        ranking.clear();
        for (int span = 0; span < bridge.spanCount; span++) {
            int first = plan.firstPast(span);
            int year = first == NOT_FOUND ? bridge.years : first;
            ranking.add(span, year, plan.rustAtEnd(span, bridge.years - 1));
        }
        return ranking.spanAt(rank);
    }

    // ---- one span alone, without the plan

    public int unpaintedPast(int span) throws IndexOutOfBoundsException {
        checkSpan(span);
        return bridge.firstPastBare(span, bridge.rate[span]);
    }

    public int coatsNeeded(int span) throws IndexOutOfBoundsException {
        checkSpan(span);
        int coats = 0;
        // A later painting is never worse, so the latest schedule has the fewest.
        while (coats < bridge.years && bridge.latestCoat(span, coats) != NOT_FOUND) {
            coats++;
        }
        return coats;
    }

    public int latestPainting(int span, int index) throws IndexOutOfBoundsException {
        checkSpan(span);
        return bridge.latestCoat(span, index);
    }

    public int harmlessRate(int span) throws IndexOutOfBoundsException {
        checkSpan(span);
        for (int rate = MAX_RATE; rate >= 1; rate--) {
            if (bridge.firstPastBare(span, rate) == NOT_FOUND) {
                return rate;
            }
        }
        return NOT_FOUND;
    }

    // ---- work with the plan

    public int effort(int span, int year) throws IndexOutOfBoundsException {
        checkSpan(span);
        checkYear(year);
        return plan.spanEffort(span, year);
    }

    public int capacity(int gang, int year) throws IndexOutOfBoundsException {
        checkGang(gang);
        checkYear(year);
        return bridge.gangCapacity(gang, year);
    }

    public int loadOf(int gang, int year) throws IndexOutOfBoundsException {
        checkGang(gang);
        checkYear(year);
        return plan.gangLoad(gang, year);
    }

    public int gangOf(int span, int year) throws IndexOutOfBoundsException {
        checkSpan(span);
        checkYear(year);
        return plan.isPainted(year, span) ? plan.painter(year, span) : NOT_FOUND;
    }

    public int paintedSpans(int year) throws IndexOutOfBoundsException {
        checkYear(year);
        int bits = 0;
        for (int span = 0; span < bridge.spanCount; span++) {
            if (plan.isPainted(year, span)) {
                bits |= 1 << span;
            }
        }
        return bits;
    }

    public int lanesShut(int year) throws IndexOutOfBoundsException {
        checkYear(year);
        return plan.shutLanes(year);
    }

    public int paintings() {
        return plan.countPaintings();
    }

    public int daysUsed(int gang, int year) throws IndexOutOfBoundsException {
        checkGang(gang);
        checkYear(year);
        return plan.gangDays(gang, year);
    }

    public int laneDays(int lane, int year) throws IndexOutOfBoundsException {
        checkLane(lane);
        checkYear(year);
        return plan.daysOnLane(lane, year);
    }

    public int trafficLoss(int year) throws IndexOutOfBoundsException {
        checkYear(year);
        return plan.lossIn(year);
    }

    public int wages(int year) throws IndexOutOfBoundsException {
        checkYear(year);
        return plan.wagesIn(year);
    }

    public int totalWages() {
        int sum = 0;
        for (int year = 0; year < bridge.years; year++) {
            sum += plan.wagesIn(year);
        }
        return sum;
    }

    public int totalLoss() {
        int sum = 0;
        for (int year = 0; year < bridge.years; year++) {
            sum += plan.lossIn(year);
        }
        return sum;
    }

    public int busiestYear() {
        int best = 0;
        int most = -1;
        for (int year = 0; year < bridge.years; year++) {
            int load = 0;
            for (int gang = 0; gang < bridge.gangCount; gang++) {
                load += plan.gangLoad(gang, year);
            }
            if (load > most) {
                most = load;
                best = year;
            }
        }
        return best;
    }

    public int idleDays(int gang) throws IndexOutOfBoundsException {
        checkGang(gang);
        int sum = 0;
        for (int year = 0; year < bridge.years; year++) {
            sum += Math.max(0, bridge.days[year] - plan.gangDays(gang, year));
        }
        return sum;
    }

    public int overloads() {
        return plan.countOverloads();
    }

    public int firstOverload() {
        for (int year = 0; year < bridge.years; year++) {
            for (int gang = 0; gang < bridge.gangCount; gang++) {
                if (plan.isOverloaded(gang, year)) {
                    return 10 * year + gang;
                }
            }
        }
        return NOT_FOUND;
    }

    public int refusal(int year, int span, int gang) throws IndexOutOfBoundsException {
        checkYear(year);
        checkSpan(span);
        checkGang(gang);
        return plan.reasonAgainst(year, span, gang);
    }

    public int possibleGangs(int year, int span) throws IndexOutOfBoundsException {
        checkYear(year);
        checkSpan(span);
        int bits = 0;
        for (int gang = 0; gang < bridge.gangCount; gang++) {
            if (plan.reasonAgainst(year, span, gang) == 0) {
                bits |= 1 << gang;
            }
        }
        return bits;
    }

    public int firstPossible(int span) throws IndexOutOfBoundsException {
        checkSpan(span);
        for (int year = 0; year < bridge.years; year++) {
            for (int gang = 0; gang < bridge.gangCount; gang++) {
                if (plan.reasonAgainst(year, span, gang) == 0) {
                    return 10 * year + gang;
                }
            }
        }
        return NOT_FOUND;
    }

    public int bestPainting(int span) throws IndexOutOfBoundsException {
        checkSpan(span);
        int best = NOT_FOUND;
        int least = MAX_SPANS + 1;
        for (int year = 0; year < bridge.years; year++) {
            for (int gang = 0; gang < bridge.gangCount; gang++) {
                if (plan.reasonAgainst(year, span, gang) == 0) {
                    int past = pastCountWith(year, span, gang);
                    if (past < least) {
                        least = past;
                        best = 10 * year + gang;
                    }
                }
            }
        }
        return best;
    }

    public int shutYears(int lane) throws IndexOutOfBoundsException {
        checkLane(lane);
        int bits = 0;
        for (int year = 0; year < bridge.years; year++) {
            if ((plan.shutLanes(year) >> lane & 1) != 0) {
                bits |= 1 << year;
            }
        }
        return bits;
    }

    public int needlessPaintings(int year) throws IndexOutOfBoundsException {
        checkYear(year);
        int past = plan.countPast();
        int bits = 0;
        for (int span = 0; span < bridge.spanCount; span++) {
            if (plan.isPainted(year, span) && pastCountWith(year, span, NONE) <= past) {
                bits |= 1 << span;
            }
        }
        return bits;
    }

    public int sufficientSpeed(int gang) throws IndexOutOfBoundsException {
        checkGang(gang);
        for (int speed = 1; speed <= MAX_SPEED; speed++) {
            if (plan.canCopeAt(gang, speed)) {
                return speed;
            }
        }
        return NOT_FOUND;
    }

    // ---- edits

    public int paint(int year, int span, int gang) throws IndexOutOfBoundsException {
        checkYear(year);
        checkSpan(span);
        checkGang(gang);
        if (plan.reasonAgainst(year, span, gang) != 0) {
            return REFUSED;
        }
        remember();
        plan.put(year, span, gang);
        return plan.countPast();
    }

    public int unpaint(int year, int span) throws IndexOutOfBoundsException {
        checkYear(year);
        checkSpan(span);
        if (!plan.isPainted(year, span)) {
            return NOT_FOUND;
        }
        remember();
        int gang = plan.painter(year, span);
        plan.put(year, span, NONE);
        return gang;
    }

    public int movePainting(int span, int from, int to) throws IndexOutOfBoundsException {
        checkSpan(span);
        checkYear(from);
        checkYear(to);
        if (!plan.isPainted(from, span)) {
            return NOT_FOUND;
        }
        if (from == to) {
            return UNCHANGED;
        }
        int gang = plan.painter(from, span);
        plan.put(from, span, NONE);
        boolean refused = plan.reasonAgainst(to, span, gang) != 0;
        plan.put(from, span, gang);
        if (refused) {
            return REFUSED;
        }
        remember();
        plan.put(from, span, NONE);
        plan.put(to, span, gang);
        return plan.countPast();
    }

    public int exchange(int year, int span, int other) throws IndexOutOfBoundsException {
        checkYear(year);
        checkSpan(span);
        checkSpan(other);
        if (!plan.isPainted(year, span) || !plan.isPainted(year, other)) {
            return NOT_FOUND;
        }
        int gang = plan.painter(year, span);
        int otherGang = plan.painter(year, other);
        if (gang == otherGang) {
            return UNCHANGED;
        }
        remember();
        plan.put(year, span, otherGang);
        plan.put(year, other, gang);
        return plan.countOverloads();
    }

    public int setWeather(int year, int days) throws IndexOutOfBoundsException, IllegalArgumentException {
        checkYear(year);
        checkRange(days, 0, MAX_DAYS);
        int previous = bridge.days[year];
        if (days == previous) {
            return UNCHANGED;
        }
        remember();
        bridge.days[year] = days;
        return previous;
    }

    public int setShut(int shut) throws IllegalArgumentException {
        checkRange(shut, 1, MAX_SHUT);
        int previous = bridge.shut;
        if (shut == previous) {
            return UNCHANGED;
        }
        remember();
        bridge.shut = shut;
        return previous;
    }

    public int setClosed(int lane, int year, boolean closed) throws IndexOutOfBoundsException {
        checkLane(lane);
        checkYear(year);
        if (bridge.isClosed(lane, year) == closed) {
            return UNCHANGED;
        }
        remember();
        bridge.closed[year] ^= 1 << lane;
        return bridge.closed[year];
    }

    public int setRate(int span, int rate) throws IndexOutOfBoundsException, IllegalArgumentException {
        checkSpan(span);
        checkRange(rate, 1, MAX_RATE);
        if (rate == bridge.rate[span]) {
            return UNCHANGED;
        }
        remember();
        bridge.rate[span] = rate;
        plan.follow(span);
        return plan.countPast();
    }

    public int setSpeed(int gang, int speed) throws IndexOutOfBoundsException, IllegalArgumentException {
        checkGang(gang);
        checkRange(speed, 1, MAX_SPEED);
        if (speed == bridge.speed[gang]) {
            return UNCHANGED;
        }
        remember();
        bridge.speed[gang] = speed;
        return plan.countOverloads();
    }

    public int autoPlan() {
        planner.makePlan(bridge, draft, ALL_GANGS);
        if (draft.hasPaintingsOf(plan)) {
            return UNCHANGED;
        }
        remember();
        takeDraft();
        return plan.countPast();
    }

    public int applySafePlan() {
        int found = search.makePlan(bridge, draft);
        if (found == GIVEN_UP) {
            return GIVEN_UP;
        }
        if (found == 0) {
            return NOT_FOUND;
        }
        if (draft.hasPaintingsOf(plan)) {
            return UNCHANGED;
        }
        remember();
        takeDraft();
        return plan.countPaintings();
    }

    public int undo() {
        if (history.isEmpty()) {
            return NOT_FOUND;
        }
        history.takeBack(bridge, plan);
        return history.size();
    }

    // ---- searches and other settings; nothing changes

    public int hasSafePlan() {
        return search.makePlan(bridge, draft);
    }

    public int searchTries() {
        search.makePlan(bridge, draft);
        return search.triesMade();
    }

    public int autoPast() {
        return autoPastOf(bridge, ALL_GANGS);
    }

    public int autoPastWithout(int gang) throws IndexOutOfBoundsException {
        checkGang(gang);
        return autoPastOf(bridge, ALL_GANGS & ~(1 << gang));
    }

    public int criticalGang() {
        int best = NOT_FOUND;
        int most = -1;
        for (int gang = 0; gang < bridge.gangCount; gang++) {
            int past = autoPastOf(bridge, ALL_GANGS & ~(1 << gang));
            if (past > most) {
                most = past;
                best = gang;
            }
        }
        return best;
    }

    public int worstYear() {
        int best = 0;
        int most = -1;
        spare.copyFrom(bridge);
        for (int year = 0; year < bridge.years; year++) {
            spare.days[year] = 0;
            int past = autoPastOf(spare, ALL_GANGS);
            spare.days[year] = bridge.days[year];
            if (past > most) {
                most = past;
                best = year;
            }
        }
        return best;
    }

    public int smallestShut() {
        spare.copyFrom(bridge);
        for (int shut = 1; shut <= MAX_SHUT; shut++) {
            spare.shut = shut;
            if (autoPastOf(spare, ALL_GANGS) == 0) {
                return shut;
            }
        }
        return NOT_FOUND;
    }

    public int fewestGangs() {
        int all = (1 << bridge.gangCount) - 1;
        int enough = autoPastOf(bridge, all);
        int best = all;
        for (int gangs = all - 1; gangs >= 0; gangs--) {
            // Downwards, an equal count wins too: its number is smaller.
            if (Integer.bitCount(gangs) <= Integer.bitCount(best) && autoPastOf(bridge, gangs) <= enough) {
                best = gangs;
            }
        }
        return best;
    }

    public int extraDays() {
        spare.copyFrom(bridge);
        for (int extra = 0; extra <= MAX_EXTRA_DAYS; extra++) {
            for (int year = 0; year < bridge.years; year++) {
                spare.days[year] = Math.min(MAX_DAYS, bridge.days[year] + extra);
            }
            if (autoPastOf(spare, ALL_GANGS) == 0) {
                return extra;
            }
        }
        return NOT_FOUND;
    }

    // ---- output

    public int write() {
        output.clear();
        for (int year = 0; year < bridge.years; year++) {
            for (int span = 0; span < bridge.spanCount; span++) {
                if (plan.isPainted(year, span)) {
                    output.addNumber(year);
                    output.addSign(':');
                    output.addNumber(span);
                    output.addSign('/');
                    output.addNumber(plan.painter(year, span));
                    output.addSign(';');
                }
            }
        }
        return output.size();
    }

    public int outputByte(int index) throws IndexOutOfBoundsException {
        if (index < 0 || index >= output.size()) {
            throw new IndexOutOfBoundsException("the output has no such byte");
        }
        return output.byteAt(index);
    }

    // ---- helpers of the face

    private void checkYear(int year) {
        if (year < 0 || year >= bridge.years) {
            throw new IndexOutOfBoundsException("there is no such year");
        }
    }

    private void checkSpan(int span) {
        if (span < 0 || span >= bridge.spanCount) {
            throw new IndexOutOfBoundsException("there is no such span");
        }
    }

    private void checkLane(int lane) {
        if (lane < 0 || lane >= bridge.laneCount) {
            throw new IndexOutOfBoundsException("there is no such lane");
        }
    }

    private void checkGang(int gang) {
        if (gang < 0 || gang >= bridge.gangCount) {
            throw new IndexOutOfBoundsException("there is no such gang");
        }
    }

    private static void checkRange(int value, int least, int most) {
        if (value < least || value > most) {
            throw new IllegalArgumentException("the value is out of its range");
        }
    }

    private void remember() {
        history.keep(bridge, plan);
    }

    private void takeDraft() {
        Plan old = plan;
        plan = draft;
        draft = old;
    }

    /** The number of past spans if the span was painted in the year by the gang (NONE: not painted). */
    private int pastCountWith(int year, int span, int gang) {
        int current = plan.painter(year, span);
        plan.put(year, span, gang);
        int past = plan.countPast();
        plan.put(year, span, current);
        return past;
    }

    private int autoPastOf(Bridge setting, int gangs) {
        planner.makePlan(setting, draft, gangs);
        return draft.countPast();
    }

    // ---- classes

    /** What the text says of the bridge, but for the paintings. */
    private static final class Bridge {
        private static final int SAVED_DAYS = 0;
        private static final int SAVED_CLOSED = SAVED_DAYS + MAX_YEARS;
        private static final int SAVED_RATE = SAVED_CLOSED + MAX_YEARS;
        private static final int SAVED_SPEED = SAVED_RATE + MAX_SPANS;
        private static final int SAVED_SHUT = SAVED_SPEED + MAX_GANGS;
        private static final int SAVED_SIZE = SAVED_SHUT + 1;

        private int years;
        private int shut;
        private int guard;
        private int laneCount;
        private int spanCount;
        private int gangCount;
        private final int[] traffic = new int[MAX_LANES];
        private final int[] laneOf = new int[MAX_SPANS];
        private final int[] area = new int[MAX_SPANS];
        private final int[] rust = new int[MAX_SPANS];
        private final int[] rate = new int[MAX_SPANS];
        private final int[] limit = new int[MAX_SPANS];
        private final int[] speed = new int[MAX_GANGS];
        private final int[] wage = new int[MAX_GANGS];
        private final int[] days = new int[MAX_YEARS];
        private final int[] closed = new int[MAX_YEARS];

        Bridge() {
            reset();
        }

        void reset() {
            years = 8;
            shut = 2;
            guard = 3;
            laneCount = 0;
            spanCount = 0;
            gangCount = 0;
            Arrays.fill(days, 100);
            Arrays.fill(closed, 0);
        }

        void copyFrom(Bridge other) {
            years = other.years;
            shut = other.shut;
            guard = other.guard;
            laneCount = other.laneCount;
            spanCount = other.spanCount;
            gangCount = other.gangCount;
            System.arraycopy(other.traffic, 0, traffic, 0, MAX_LANES);
            System.arraycopy(other.laneOf, 0, laneOf, 0, MAX_SPANS);
            System.arraycopy(other.area, 0, area, 0, MAX_SPANS);
            System.arraycopy(other.rust, 0, rust, 0, MAX_SPANS);
            System.arraycopy(other.rate, 0, rate, 0, MAX_SPANS);
            System.arraycopy(other.limit, 0, limit, 0, MAX_SPANS);
            System.arraycopy(other.speed, 0, speed, 0, MAX_GANGS);
            System.arraycopy(other.wage, 0, wage, 0, MAX_GANGS);
            System.arraycopy(other.days, 0, days, 0, MAX_YEARS);
            System.arraycopy(other.closed, 0, closed, 0, MAX_YEARS);
        }

        /** Puts all that edits can change, but for the plan, at the front of a row. */
        void saveTo(int[] row) {
            System.arraycopy(days, 0, row, SAVED_DAYS, MAX_YEARS);
            System.arraycopy(closed, 0, row, SAVED_CLOSED, MAX_YEARS);
            System.arraycopy(rate, 0, row, SAVED_RATE, MAX_SPANS);
            System.arraycopy(speed, 0, row, SAVED_SPEED, MAX_GANGS);
            row[SAVED_SHUT] = shut;
        }

        void restoreFrom(int[] row) {
            System.arraycopy(row, SAVED_DAYS, days, 0, MAX_YEARS);
            System.arraycopy(row, SAVED_CLOSED, closed, 0, MAX_YEARS);
            System.arraycopy(row, SAVED_RATE, rate, 0, MAX_SPANS);
            System.arraycopy(row, SAVED_SPEED, speed, 0, MAX_GANGS);
            shut = row[SAVED_SHUT];
        }

        void addLane(int itsTraffic) {
            traffic[laneCount] = itsTraffic;
            laneCount++;
        }

        void addSpan(int lane, int itsArea, int itsRust, int itsRate, int itsLimit) {
            laneOf[spanCount] = lane;
            area[spanCount] = itsArea;
            rust[spanCount] = itsRust;
            rate[spanCount] = itsRate;
            limit[spanCount] = itsLimit;
            spanCount++;
        }

        void addGang(int itsSpeed, int itsWage) {
            speed[gangCount] = itsSpeed;
            wage[gangCount] = itsWage;
            gangCount++;
        }

        boolean isClosed(int lane, int year) {
            return (closed[year] >> lane & 1) != 0;
        }

        int gangCapacity(int gang, int year) {
            return speed[gang] * days[year];
        }

        int daysOf(int gang, int effort) {
            int itsSpeed = speed[gang];
            return itsSpeed <= 0 ? 0 : (effort + itsSpeed - 1) / itsSpeed;
        }

        /** The first year in which a span would be past with a rate and without painting. */
        int firstPastBare(int span, int itsRate) {
            int level = rust[span];
            for (int year = 0; year < years; year++) {
                level = Math.min(MAX_RUST, level + itsRate);
                if (level > limit[span]) {
                    return year;
                }
            }
            return NOT_FOUND;
        }

        /** The year of a painting, counted from 0, in the schedule that is as late as possible. */
        int latestCoat(int span, int index) {
            int level = rust[span];
            int guarded = 0;
            int coats = 0;
            for (int year = 0; year < years; year++) {
                int grown = guarded > 0 ? level : Math.min(MAX_RUST, level + rate[span]);
                if (grown > limit[span]) {
                    if (coats == index) {
                        return year;
                    }
                    coats++;
                    level = 0;
                    guarded = guard;
                } else {
                    level = grown;
                    guarded = Math.max(0, guarded - 1);
                }
            }
            return NOT_FOUND;
        }
    }

    /** The paintings, and the rust that follows from them. */
    private static final class Plan {
        private static final int CELLS = MAX_YEARS * MAX_SPANS;
        /** Rust is kept for the beginning of each year and for the end of the last. */
        private static final int MOMENTS = MAX_YEARS + 1;

        private Bridge bridge;
        private final int[] gangs = new int[CELLS];
        private final int[] rusts = new int[MAX_SPANS * MOMENTS];
        private final int[] guards = new int[MAX_SPANS * MOMENTS];

        Plan(Bridge itsBridge) {
            bridge = itsBridge;
            Arrays.fill(gangs, NONE);
        }

        /** Becomes an empty plan of a bridge. */
        void start(Bridge itsBridge) {
            bridge = itsBridge;
            Arrays.fill(gangs, NONE);
            followAll();
        }

        void put(int year, int span, int gang) {
            gangs[year * MAX_SPANS + span] = gang;
            follow(span);
        }

        int painter(int year, int span) {
            return gangs[year * MAX_SPANS + span];
        }

        boolean isPainted(int year, int span) {
            return gangs[year * MAX_SPANS + span] != NONE;
        }

        boolean hasPaintingsOf(Plan other) {
            for (int cell = 0; cell < CELLS; cell++) {
                if (gangs[cell] != other.gangs[cell]) {
                    return false;
                }
            }
            return true;
        }

        int countPaintings() {
            int count = 0;
            for (int cell = 0; cell < CELLS; cell++) {
                if (gangs[cell] != NONE) {
                    count++;
                }
            }
            return count;
        }

        void saveTo(int[] row) {
            System.arraycopy(gangs, 0, row, Bridge.SAVED_SIZE, CELLS);
        }

        void restoreFrom(int[] row) {
            System.arraycopy(row, Bridge.SAVED_SIZE, gangs, 0, CELLS);
            followAll();
        }

        void followAll() {
            for (int span = 0; span < bridge.spanCount; span++) {
                follow(span);
            }
        }

        /** Computes the rust of a span anew. */
        void follow(int span) {
            int rust = bridge.rust[span];
            int guard = 0;
            int moment = span * MOMENTS;
            for (int year = 0; year < bridge.years; year++) {
                rusts[moment] = rust;
                guards[moment] = guard;
                if (isPainted(year, span)) {
                    rust = 0;
                    guard = bridge.guard;
                } else if (guard > 0) {
                    guard--;
                } else {
                    rust = Math.min(MAX_RUST, rust + bridge.rate[span]);
                }
                moment++;
            }
            rusts[moment] = rust;
        }

        int rustAtStart(int span, int year) {
            return rusts[span * MOMENTS + year];
        }

        int rustAtEnd(int span, int year) {
            return rusts[span * MOMENTS + year + 1];
        }

        int guardAtStart(int span, int year) {
            return guards[span * MOMENTS + year];
        }

        boolean isPast(int span, int year) {
            return rusts[span * MOMENTS + year + 1] > bridge.limit[span];
        }

        int firstPast(int span) {
            for (int year = 0; year < bridge.years; year++) {
                if (isPast(span, year)) {
                    return year;
                }
            }
            return NOT_FOUND;
        }

        int countPast() {
            int count = 0;
            for (int span = 0; span < bridge.spanCount; span++) {
                if (firstPast(span) != NOT_FOUND) {
                    count++;
                }
            }
            return count;
        }

        int spanEffort(int span, int year) {
            return bridge.area[span] * (100 + rusts[span * MOMENTS + year]) / 100;
        }

        int gangLoad(int gang, int year) {
            int load = 0;
            for (int span = 0; span < bridge.spanCount; span++) {
                if (painter(year, span) == gang) {
                    load += spanEffort(span, year);
                }
            }
            return load;
        }

        int gangDays(int gang, int year) {
            int days = 0;
            for (int span = 0; span < bridge.spanCount; span++) {
                if (painter(year, span) == gang) {
                    days += bridge.daysOf(gang, spanEffort(span, year));
                }
            }
            return days;
        }

        int daysOnLane(int lane, int year) {
            int days = 0;
            for (int span = 0; span < bridge.spanCount; span++) {
                int gang = painter(year, span);
                if (gang != NONE && bridge.laneOf[span] == lane) {
                    days += bridge.daysOf(gang, spanEffort(span, year));
                }
            }
            return days;
        }

        int lossIn(int year) {
            int loss = 0;
            for (int lane = 0; lane < bridge.laneCount; lane++) {
                loss += bridge.traffic[lane] * daysOnLane(lane, year);
            }
            return loss;
        }

        int wagesIn(int year) {
            int sum = 0;
            for (int gang = 0; gang < bridge.gangCount; gang++) {
                sum += bridge.wage[gang] * gangDays(gang, year);
            }
            return sum;
        }

        int shutLanes(int year) {
            int lanes = 0;
            for (int span = 0; span < bridge.spanCount; span++) {
                if (isPainted(year, span) && bridge.laneOf[span] != NONE) {
                    lanes |= 1 << bridge.laneOf[span];
                }
            }
            return lanes;
        }

        boolean isOverloaded(int gang, int year) {
            return gangLoad(gang, year) > bridge.gangCapacity(gang, year);
        }

        int countOverloads() {
            int count = 0;
            for (int year = 0; year < bridge.years; year++) {
                for (int gang = 0; gang < bridge.gangCount; gang++) {
                    if (isOverloaded(gang, year)) {
                        count++;
                    }
                }
            }
            return count;
        }

        boolean canCopeAt(int gang, int speed) {
            for (int year = 0; year < bridge.years; year++) {
                if (gangLoad(gang, year) > speed * bridge.days[year]) {
                    return false;
                }
            }
            return true;
        }

        /** The capacity that a gang would have left after a painting more. */
        int capacityLeft(int year, int span, int gang) {
            return bridge.gangCapacity(gang, year) - gangLoad(gang, year) - spanEffort(span, year);
        }

        /** The number of the reason for which a painting would be refused, 0 if there is none. */
        int reasonAgainst(int year, int span, int gang) {
            if (isPainted(year, span)) {
                return 1;
            }
            int lane = bridge.laneOf[span];
            // A span without a lane shuts none, so reasons 2 and 3 never apply to it.
            if (lane != NONE) {
                if (bridge.isClosed(lane, year)) {
                    return 2;
                }
                if (Integer.bitCount(shutLanes(year) | 1 << lane) > bridge.shut) {
                    return 3;
                }
            }
            int load = gangLoad(gang, year) + spanEffort(span, year);
            return load > bridge.gangCapacity(gang, year) ? 4 : 0;
        }
    }

    /** Spans in the order of years, then of decreasing rust, then of their numbers. */
    private static final class Ranking {
        private static final int SPAN_BITS = 4;
        private static final int RUST_BITS = 7;

        private final int[] keys = new int[MAX_SPANS];
        private int size;

        void clear() {
            size = 0;
        }

        int size() {
            return size;
        }

        /** Puts a span to its place; the year, rust and number in one key make keys that differ. */
        void add(int span, int year, int rust) {
            if (size >= MAX_SPANS) {
                return;
            }
            int key = ((year << RUST_BITS) + MAX_RUST - rust << SPAN_BITS) + span;
            int place = size;
            while (place > 0 && keys[place - 1] > key) {
                keys[place] = keys[place - 1];
                place--;
            }
            keys[place] = key;
            size++;
        }

        int spanAt(int rank) {
            return keys[rank] & (1 << SPAN_BITS) - 1;
        }

        int yearAt(int rank) {
            return keys[rank] >> SPAN_BITS + RUST_BITS;
        }
    }

    /** Makes the automatic plan. */
    private static final class AutoPlanner {
        private static final int YEARS_AHEAD = 2;

        private final Ranking candidates = new Ranking();

        /** Makes the plan of a bridge with those gangs whose bits are set. */
        void makePlan(Bridge bridge, Plan plan, int gangs) {
            plan.start(bridge);
            for (int year = 0; year < bridge.years; year++) {
                rankCandidates(bridge, plan, year);
                for (int rank = 0; rank < candidates.size(); rank++) {
                    int span = candidates.spanAt(rank);
                    int gang = tightestGang(bridge, plan, gangs, year, span);
                    if (gang != NONE) {
                        plan.put(year, span, gang);
                    }
                }
            }
        }

        private void rankCandidates(Bridge bridge, Plan plan, int year) {
            candidates.clear();
            for (int span = 0; span < bridge.spanCount; span++) {
                int first = plan.firstPast(span);
                if (first != NOT_FOUND && first >= year && first <= year + YEARS_AHEAD) {
                    candidates.add(span, first, plan.rustAtStart(span, year));
                }
            }
        }

        private int tightestGang(Bridge bridge, Plan plan, int gangs, int year, int span) {
            int best = NONE;
            int least = 0;
            for (int gang = 0; gang < bridge.gangCount; gang++) {
                if ((gangs >> gang & 1) != 0 && plan.reasonAgainst(year, span, gang) == 0) {
                    int left = plan.capacityLeft(year, span, gang);
                    if (best == NONE || left < least) {
                        best = gang;
                        least = left;
                    }
                }
            }
            return best;
        }
    }

    /** Searches for a safe plan. */
    private static final class SafeSearch {
        private static final int MAX_TRIES = 20000;

        private final Ranking endangered = new Ranking();
        private int tries;

        int triesMade() {
            return tries;
        }

        /** Returns 1 if the plan was made, 0 if there is none, or GIVEN_UP. */
        int makePlan(Bridge bridge, Plan plan) {
            plan.start(bridge);
            tries = 0;
            endangered.clear();
            for (int span = 0; span < bridge.spanCount; span++) {
                int first = plan.firstPast(span);
                if (first != NOT_FOUND) {
                    endangered.add(span, first, 0);
                }
            }
            return placeFrom(this, bridge, plan, 0);
        }

        /** Paints the endangered spans from a rank on; the depth is that rank, at most MAX_SPANS. */
        private static int placeFrom(SafeSearch search, Bridge bridge, Plan plan, int rank) {
            if (rank >= search.endangered.size()) {
                return 1;
            }
            int span = search.endangered.spanAt(rank);
            int last = search.endangered.yearAt(rank);
            for (int year = 0; year <= last; year++) {
                for (int gang = 0; gang < bridge.gangCount; gang++) {
                    if (search.tries >= MAX_TRIES) {
                        return GIVEN_UP;
                    }
                    search.tries++;
                    if (plan.reasonAgainst(year, span, gang) == 0) {
                        plan.put(year, span, gang);
                        int found = plan.firstPast(span) == NOT_FOUND ? placeFrom(search, bridge, plan, rank + 1) : 0;
                        if (found != 0) {
                            return found;
                        }
                        plan.put(year, span, NONE);
                    }
                }
            }
            return 0;
        }
    }

    /** What the latest edits changed: for each of them, all that an edit can change as it was before. */
    private static final class History {
        private static final int MAX_EDITS = 16;

        private final int[][] rows = new int[MAX_EDITS][Bridge.SAVED_SIZE + Plan.CELLS];
        private int newest = MAX_EDITS - 1;
        private int size;

        void clear() {
            size = 0;
        }

        int size() {
            return size;
        }

        boolean isEmpty() {
            return size == 0;
        }

        void keep(Bridge bridge, Plan plan) {
            newest = newest + 1 < MAX_EDITS ? newest + 1 : 0;
            bridge.saveTo(rows[newest]);
            plan.saveTo(rows[newest]);
            size = Math.min(MAX_EDITS, size + 1);
        }

        void takeBack(Bridge bridge, Plan plan) {
            bridge.restoreFrom(rows[newest]);
            plan.restoreFrom(rows[newest]);
            newest = newest > 0 ? newest - 1 : MAX_EDITS - 1;
            size--;
        }
    }

    /** The bytes that are written. */
    private static final class Output {
        private static final int LONGEST_PAINTING = 8;

        private final byte[] bytes = new byte[Plan.CELLS * LONGEST_PAINTING];
        private int size;

        void clear() {
            size = 0;
        }

        int size() {
            return size;
        }

        int byteAt(int index) {
            return bytes[index];
        }

        /** Adds a number of one or two digits. */
        void addNumber(int number) {
            if (number >= 10) {
                addSign((char) ('0' + number / 10 % 10));
            }
            addSign((char) ('0' + number % 10));
        }

        void addSign(char sign) {
            if (size < bytes.length) {
                bytes[size] = (byte) sign;
                size++;
            }
        }
    }

    /** The buffer. */
    private static final class Text {
        private final byte[] bytes = new byte[MAX_TEXT];
        private int size;

        void clear() {
            size = 0;
        }

        int size() {
            return size;
        }

        boolean hasRoomFor(int count) {
            return size + count <= MAX_TEXT;
        }

        /** Adds the four bytes of a number, the most significant one first. */
        void append(int number) {
            for (int shift = 24; shift >= 0; shift -= 8) {
                if (size < MAX_TEXT) {
                    bytes[size] = (byte) (number >> shift);
                    size++;
                }
            }
        }
    }

    /** The tokens of a text, one after the other. */
    private static final class Tokens {
        private static final int END = 0;
        private static final int WORD = 1;
        private static final int NUMBER = 2;
        private static final int SEMICOLON = 3;
        private static final int ILLEGAL = 4;
        private static final int MAX_LETTERS = 8;
        private static final int MAX_DIGITS = 4;

        private final Text text;
        private int length;
        private int start;
        private int end;
        private int kind;
        private int number;
        /** The letters of a word, a byte each: eight of them fit. */
        private long word;

        Tokens(Text itsText) {
            text = itsText;
        }

        void begin(int itsLength) {
            length = Math.min(itsLength, text.size);
            start = 0;
            end = 0;
            kind = END;
        }

        void next() {
            while (end < length && (text.bytes[end] == ' ' || text.bytes[end] == '\n')) {
                end++;
            }
            start = end;
            if (end >= length) {
                kind = END;
                return;
            }
            takeLetters();
            if (end > start) {
                kind = end - start <= MAX_LETTERS ? WORD : ILLEGAL;
                return;
            }
            takeDigits();
            if (end > start) {
                kind = end - start <= MAX_DIGITS ? NUMBER : ILLEGAL;
                return;
            }
            kind = text.bytes[end] == ';' ? SEMICOLON : ILLEGAL;
            end++;
        }

        private void takeLetters() {
            word = 0;
            while (end < length && text.bytes[end] >= 'a' && text.bytes[end] <= 'z') {
                word = word << 8 | text.bytes[end];
                end++;
            }
        }

        private void takeDigits() {
            number = 0;
            while (end < length && text.bytes[end] >= '0' && text.bytes[end] <= '9') {
                number = number * 10 + text.bytes[end] - '0';
                end++;
            }
        }
    }

    /** The declared names, each with what it names and the number of that. */
    private static final class Names {
        private static final int A_LANE = 1;
        private static final int A_SPAN = 2;
        private static final int A_GANG = 3;
        private static final int MAX_NAMES = MAX_LANES + MAX_SPANS + MAX_GANGS;

        private final long[] words = new long[MAX_NAMES];
        private final int[] sorts = new int[MAX_NAMES];
        private final int[] numbers = new int[MAX_NAMES];
        private int size;

        void clear() {
            size = 0;
        }

        void add(long word, int sort, int number) {
            if (size < MAX_NAMES) {
                words[size] = word;
                sorts[size] = sort;
                numbers[size] = number;
                size++;
            }
        }

        boolean isDeclared(long word) {
            for (int index = 0; index < size; index++) {
                if (words[index] == word) {
                    return true;
                }
            }
            return false;
        }

        /** The number of what a word names, NONE if it is not declared as that sort. */
        int numberOf(long word, int sort) {
            for (int index = 0; index < size; index++) {
                if (words[index] == word && sorts[index] == sort) {
                    return numbers[index];
                }
            }
            return NONE;
        }
    }

    /** Reads a bridge and its plan from a text, up to the first error. */
    private static final class Parser {
        private static final int ILLEGAL_TOKEN = 1;
        private static final int OTHER_TOKEN = 2;
        private static final int OUT_OF_RANGE = 3;
        private static final int WRONG_NAME = 4;
        private static final int TOO_MANY = 5;
        private static final int PAINTED_TWICE = 6;

        // The reserved words as Tokens holds them: their letters' bytes.
        private static final long BRIDGE = 0x627269646765L;
        private static final long LANE = 0x6c616e65L;
        private static final long SPAN = 0x7370616eL;
        private static final long GANG = 0x67616e67L;
        private static final long WEATHER = 0x77656174686572L;
        private static final long CLOSED = 0x636c6f736564L;
        private static final long PAINT = 0x7061696e74L;
        private static final long NO_LANE = 0x6e6f6e65L;

        /** What number() and the readers of names answer behind an error. */
        private static final int WRONG = -2;

        private final Tokens tokens;
        private final Names names = new Names();
        private Bridge bridge;
        private Plan plan;
        private int failure;
        private int failedAt = NOT_FOUND;

        Parser(Text text, Bridge itsBridge, Plan itsPlan) {
            tokens = new Tokens(text);
            bridge = itsBridge;
            plan = itsPlan;
        }

        int failureKind() {
            return failure;
        }

        int failurePosition() {
            return failedAt;
        }

        /** Reads the first bytes of the text into a bridge and a plan; returns whether they are legal. */
        boolean read(int length, Bridge itsBridge, Plan itsPlan) {
            bridge = itsBridge;
            plan = itsPlan;
            failure = 0;
            failedAt = NOT_FOUND;
            bridge.reset();
            plan.start(bridge);
            names.clear();
            tokens.begin(length);
            boolean legal = true;
            // A statement has at least one byte, so the length bounds their number.
            for (int statement = 0; legal && statement <= length; statement++) {
                tokens.next();
                if (tokens.kind == Tokens.END) {
                    break;
                }
                legal = readStatement(statement == 0);
            }
            plan.followAll();
            return legal;
        }

        private boolean fail(int kind) {
            failure = kind;
            failedAt = tokens.start;
            return false;
        }

        private boolean readStatement(boolean first) {
            if (tokens.kind != Tokens.WORD) {
                return failOnToken();
            }
            long word = tokens.word;
            if (word == BRIDGE) {
                return first ? readBridge() : fail(TOO_MANY);
            }
            if (word == LANE) {
                return bridge.laneCount < MAX_LANES ? readLane() : fail(TOO_MANY);
            }
            if (word == SPAN) {
                return bridge.spanCount < MAX_SPANS ? readSpan() : fail(TOO_MANY);
            }
            if (word == GANG) {
                return bridge.gangCount < MAX_GANGS ? readGang() : fail(TOO_MANY);
            }
            if (word == WEATHER) {
                return readWeather();
            }
            if (word == CLOSED) {
                return readClosed();
            }
            return word == PAINT ? readPainting() : fail(OTHER_TOKEN);
        }

        private boolean readBridge() {
            int years = number(1, MAX_YEARS);
            int shut = years == WRONG ? WRONG : number(1, MAX_SHUT);
            int guard = shut == WRONG ? WRONG : number(0, 10);
            if (guard == WRONG || !semicolon()) {
                return false;
            }
            bridge.years = years;
            bridge.shut = shut;
            bridge.guard = guard;
            return true;
        }

        private boolean readLane() {
            long name = newName();
            int traffic = name == WRONG ? WRONG : number(0, 999);
            if (traffic == WRONG || !semicolon()) {
                return false;
            }
            names.add(name, Names.A_LANE, bridge.laneCount);
            bridge.addLane(traffic);
            return true;
        }

        private boolean readSpan() {
            long name = newName();
            int lane = name == WRONG ? WRONG : laneOrNone();
            int area = lane == WRONG ? WRONG : number(1, 99);
            int rust = area == WRONG ? WRONG : number(0, MAX_RUST);
            int rate = rust == WRONG ? WRONG : number(1, MAX_RATE);
            int limit = rate == WRONG ? WRONG : number(1, MAX_RUST);
            if (limit == WRONG || !semicolon()) {
                return false;
            }
            names.add(name, Names.A_SPAN, bridge.spanCount);
            bridge.addSpan(lane, area, rust, rate, limit);
            return true;
        }

        private boolean readGang() {
            long name = newName();
            int speed = name == WRONG ? WRONG : number(1, MAX_SPEED);
            int wage = speed == WRONG ? WRONG : number(0, 99);
            if (wage == WRONG || !semicolon()) {
                return false;
            }
            names.add(name, Names.A_GANG, bridge.gangCount);
            bridge.addGang(speed, wage);
            return true;
        }

        private boolean readWeather() {
            int year = number(0, bridge.years - 1);
            int days = year == WRONG ? WRONG : number(0, MAX_DAYS);
            if (days == WRONG || !semicolon()) {
                return false;
            }
            bridge.days[year] = days;
            return true;
        }

        private boolean readClosed() {
            int lane = knownName(Names.A_LANE);
            int year = lane == WRONG ? WRONG : number(0, bridge.years - 1);
            if (year == WRONG || !semicolon()) {
                return false;
            }
            bridge.closed[year] |= 1 << lane;
            return true;
        }

        private boolean readPainting() {
            int year = number(0, bridge.years - 1);
            int span = year == WRONG ? WRONG : knownName(Names.A_SPAN);
            if (span == WRONG) {
                return false;
            }
            if (plan.isPainted(year, span)) {
                return fail(PAINTED_TWICE);
            }
            int gang = knownName(Names.A_GANG);
            if (gang == WRONG || !semicolon()) {
                return false;
            }
            plan.put(year, span, gang);
            return true;
        }

        private boolean semicolon() {
            tokens.next();
            return tokens.kind == Tokens.SEMICOLON || failOnToken();
        }

        private int number(int least, int most) {
            tokens.next();
            if (tokens.kind != Tokens.NUMBER) {
                failOnToken();
                return WRONG;
            }
            if (tokens.number < least || tokens.number > most) {
                fail(OUT_OF_RANGE);
                return WRONG;
            }
            return tokens.number;
        }

        private long newName() {
            tokens.next();
            if (tokens.kind != Tokens.WORD || isReserved(tokens.word)) {
                failOnToken();
                return WRONG;
            }
            if (names.isDeclared(tokens.word)) {
                fail(WRONG_NAME);
                return WRONG;
            }
            return tokens.word;
        }

        private int knownName(int sort) {
            tokens.next();
            return thisName(sort);
        }

        private int laneOrNone() {
            tokens.next();
            return tokens.kind == Tokens.WORD && tokens.word == NO_LANE ? NONE : thisName(Names.A_LANE);
        }

        private int thisName(int sort) {
            if (tokens.kind != Tokens.WORD || isReserved(tokens.word)) {
                failOnToken();
                return WRONG;
            }
            int found = names.numberOf(tokens.word, sort);
            if (found == NONE) {
                fail(WRONG_NAME);
                return WRONG;
            }
            return found;
        }

        /** Fails where the grammar wants a token of another kind. */
        private boolean failOnToken() {
            failure = tokens.kind == Tokens.ILLEGAL ? ILLEGAL_TOKEN : OTHER_TOKEN;
            failedAt = tokens.start;
            return false;
        }

        private static boolean isReserved(long word) {
            return word == BRIDGE || word == LANE || word == SPAN || word == GANG || word == WEATHER
                    || word == CLOSED || word == PAINT || word == NO_LANE;
        }
    }
}
