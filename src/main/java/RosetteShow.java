/**
 * A show of THINGS that JUDGES go round in twelve WEEKS, as the document tells it.
 * Every answer is found by running the year anew from what was told, so there is no derived state that could go stale.
 */
public final class RosetteShow {
    public static final int NONE = -1, BAD = -2, NOT = -3, FULL = -4;

    private static final int WEEKS = 12;
    private static final int PLACES = 3;
    private static final int OWNERS = 6;
    private static final int MOST_THINGS = 10;
    private static final int MOST_JUDGES = 4;
    private static final int MOST_NOTES = 8;
    private static final int MOST_LOOKS = 9;
    private static final int MOST_ITEMS = 60;
    private static final int TEXTS = 3;
    private static final int FORMS = 3;
    private static final int SHEETS = 4;

    private static final int SORTS = 3;
    private static final int CAT = 1;
    private static final int WALL = 2;

    private static final int KINDS = 3;
    private static final int GROOMED = 0;
    private static final int KEPT = 1;

    private static final int NULL = 1;
    private static final int INDEX = 2;
    private static final int CAST = 3;
    private static final int STORE = 4;
    private static final int SIZE = 5;

    private static final int SIXTEENTHS = 16;
    private static final int[] DIGEST_WEEKS = {0, 4, 8, 11};

    private final Roll things = new Roll(MOST_THINGS, 0);
    private final Roll judges = new Roll(MOST_JUDGES, 1);
    private final Turns box = new Turns();
    private final Notes events = new Notes();
    private final Notes sightings = new Notes();
    private final Sheet[] sheets = new Sheet[SHEETS];
    private int latestFinding = 0;

    // Made once and used again by every call, for what a run makes is counted.
    private final Plan plan = new Plan(events);
    private final Year year = new Year();
    private final Choice choice = new Choice();
    private final long[] weights = new long[MOST_THINGS];
    private final int[] tally = new int[WEEKS * (PLACES + 1)];

    public RosetteShow() {
        for (int s = 0; s < SHEETS; s++) {
            sheets[s] = new Sheet();
        }
    }

    // ---- things, judges, the box, events

    public int type(int text, int b) {
        Text told = textOf(text);
        if (told == null || b < 0 || b > 255) {
            return BAD;
        }
        return told.append(b) ? told.length : FULL;
    }

    public int wipe(int text) {
        Text told = textOf(text);
        if (told == null) {
            return BAD;
        }
        int had = told.length;
        told.shorten(0);
        return had;
    }

    public int undo(int text) {
        Text told = textOf(text);
        if (told == null) {
            return BAD;
        }
        if (told.length == 0) {
            return NOT;
        }
        told.shorten(told.length - 1);
        return told.length;
    }

    public int fault(int text) {
        Text told = textOf(text);
        return told == null ? BAD : told.faultPlace;
    }

    public int thing(int thing, int what) {
        return isIn(thing, things.size()) && isIn(what, 3) ? things.part(thing, what) : BAD;
    }

    public int judge(int judge, int what) {
        return isIn(judge, judges.size()) && isIn(what, 3) ? judges.part(judge, what) : BAD;
    }

    public int event(int kind, int week, int thing) {
        if (!mayHappen(kind, week, thing)) {
            return BAD;
        }
        return events.add(kind, week, thing) ? events.size : FULL;
    }

    public int back() {
        if (events.size == 0) {
            return NOT;
        }
        events.size--;
        return events.size;
    }

    public int read(int s) {
        if (!isIn(s, SHEETS)) {
            return BAD;
        }
        Sheet from = sheets[s];
        if (from.isLost()) {
            return found(NULL);
        }
        int came = 0;
        for (int i = 0; i + 2 < from.size; i += 3) {
            int kind = from.items[i];
            int week = from.items[i + 1];
            int thing = from.items[i + 2];
            if (!mayHappen(kind, week, thing) || !events.add(kind, week, thing)) {
                break;
            }
            came++;
        }
        return came;
    }

    // ---- weeks

    public int place(int week, int place) {
        if (!isIn(week, WEEKS) || !isIn(place, PLACES)) {
            return BAD;
        }
        runAsTold(week + 1);
        return year.placedAt(week, place);
    }

    public int at(int week, int thing, int what) {
        if (!isIn(week, WEEKS) || !isIn(thing, things.size()) || !isIn(what, 5)) {
            return BAD;
        }
        runAsTold(week + 1);
        return year.tellOf(thing, what);
    }

    public int show(int week, int what) {
        if (!isIn(week, WEEKS) || !isIn(what, 2)) {
            return BAD;
        }
        runAsTold(week + 1);
        return what == 0 ? plan.judgeIn(week) : year.shown;
    }

    public int owned(int owner) {
        if (!isIn(owner, OWNERS)) {
            return BAD;
        }
        runAsTold(WEEKS);
        return year.coloursOf(plan, owner);
    }

    public int champion() {
        runAsTold(WEEKS);
        choice.clear();
        for (int owner = 0; owner < OWNERS; owner++) {
            choice.offer(owner, year.coloursOf(plan, owner));
        }
        return choice.which;
    }

    public int best() {
        runAsTold(WEEKS);
        return year.mostColoured(plan.things);
    }

    public int left(int what) {
        if (!isIn(what, 2)) {
            return BAD;
        }
        runAsTold(WEEKS);
        return what == 0 ? year.fallen : year.neverPlaced(plan.things);
    }

    // ---- plans

    public int brush(int thing, int what) {
        if (!isIn(thing, things.size()) || !isIn(what, 2)) {
            return BAD;
        }
        chooseBrush(thing);
        return choice.tell(what);
    }

    public int rival(int thing, int what) {
        if (!isIn(thing, things.size()) || !isIn(what, 2)) {
            return BAD;
        }
        chooseRival(thing);
        return choice.tell(what);
    }

    public int send(int week, int owner, int what) {
        if (!isIn(week, WEEKS) || !isIn(owner, OWNERS) || !isIn(what, 2)) {
            return BAD;
        }
        chooseJudge(week, owner);
        return choice.tell(what);
    }

    public int spare(int i) {
        if (i < NONE || i > 1) {
            return BAD;
        }
        int bits = sparedEvents();
        if (bits == NONE) {
            return NONE;
        }
        return i == NONE ? Integer.bitCount(bits) : numberOfBit(bits, i);
    }

    // ---- seen, chance, years

    public int seen(int week, int thing, int place) {
        if (!isIn(week, WEEKS) || !isIn(thing, MOST_THINGS) || !isIn(place, PLACES + 1)) {
            return BAD;
        }
        return sightings.add(week, thing, place) ? sightings.size : FULL;
    }

    public int forget() {
        int had = sightings.size;
        sightings.size = 0;
        return had;
    }

    public int never() {
        planAsTold();
        int bits = 0;
        for (int e = 0; e < events.size; e++) {
            plan.absent = 1 << e;
            year.run(plan, WEEKS);
            if (year.bearsOut(sightings, plan.things)) {
                bits |= 1 << e;
            }
        }
        return bits;
    }

    public int looked(int thing) {
        if (!isIn(thing, things.size())) {
            return BAD;
        }
        planAsTold();
        int bits = 0;
        for (int looks = 0; looks <= MOST_LOOKS; looks++) {
            plan.looks[thing] = looks;
            year.run(plan, WEEKS);
            if (year.bearsOut(sightings, plan.things)) {
                bits |= 1 << looks;
            }
        }
        return bits;
    }

    public int tastes(int judge) {
        if (!isIn(judge, judges.size())) {
            return BAD;
        }
        planAsTold();
        int bits = 0;
        for (int taste = 0; taste < SORTS; taste++) {
            plan.tastes[judge] = taste;
            year.run(plan, WEEKS);
            if (year.bearsOut(sightings, plan.things)) {
                bits |= 1 << taste;
            }
        }
        return bits;
    }

    public int ask(int thing) {
        if (!isIn(thing, things.size())) {
            return BAD;
        }
        tallyPlaces(thing);
        choice.clear();
        for (int week = 0; week < WEEKS; week++) {
            choice.offer(week, -greatestTally(week));
        }
        return choice.which;
    }

    public long chance(int c, int thing, int what) {
        if (c < 0 || c > SIXTEENTHS || !isIn(thing, things.size()) || !isIn(what, 2)) {
            return Long.MIN_VALUE - BAD;
        }
        weighBests(c);
        return partOfFraction(weights[thing], what);
    }

    public int years(int seed, int n, int what) {
        if (!isIn(n, WEEKS + 1) || !isIn(what, 2)) {
            return BAD;
        }
        planAsTold();
        drawBox(seed, n);
        year.run(plan, WEEKS);
        return what == 0 ? year.mostColoured(plan.things) : Integer.bitCount(year.fallen);
    }

    // ---- sheets

    public int sheet(int s, int form, int n) {
        if (!isIn(s, SHEETS) || !isIn(form, FORMS) || n > MOST_ITEMS) {
            return BAD;
        }
        if (n < 0) {
            return found(SIZE);
        }
        sheets[s].renew(form, n);
        return n;
    }

    public int lose(int s) {
        if (!isIn(s, SHEETS)) {
            return BAD;
        }
        if (sheets[s].isLost()) {
            return found(NULL);
        }
        sheets[s].form = NONE;
        return sheets[s].size;
    }

    public int lay(int s, int form, int i, int v) {
        if (!isIn(s, SHEETS) || !isIn(form, FORMS)) {
            return BAD;
        }
        int finding = sheets[s].findingAt(form, i);
        if (finding != 0) {
            return found(finding);
        }
        sheets[s].put(i, v);
        return 1;
    }

    public int get(int s, int form, int i) {
        if (!isIn(s, SHEETS) || !isIn(form, FORMS)) {
            return Integer.MIN_VALUE;
        }
        int finding = sheets[s].findingAt(form, i);
        if (finding != 0) {
            found(finding);
            return Integer.MIN_VALUE;
        }
        return sheets[s].items[i];
    }

    public int copy(int s, int i, int t, int j, int n) {
        if (!isIn(s, SHEETS) || !isIn(t, SHEETS)) {
            return BAD;
        }
        Sheet from = sheets[s];
        Sheet to = sheets[t];
        if (from.isLost() || to.isLost()) {
            return found(NULL);
        }
        if (from.form != to.form) {
            return found(STORE);
        }
        if (!from.hasSpan(i, n) || !to.hasSpan(j, n)) {
            return found(INDEX);
        }
        System.arraycopy(from.items, i, to.items, j, n);
        return 1;
    }

    public int write(int thing, int s) {
        if (!isIn(thing, things.size()) || !isIn(s, SHEETS)) {
            return BAD;
        }
        Sheet to = sheets[s];
        if (to.isLost()) {
            return found(NULL);
        }
        int many = Math.min(to.size, WEEKS);
        for (int week = 0; week < many; week++) {
            runAsTold(week + 1);
            to.put(week, year.colours[thing]);
        }
        return many;
    }

    public int count(int what) {
        switch (what) {
            case 0: return things.size();
            case 1: return judges.size();
            case 2: return box.size();
            case 3: return things.length;
            case 4: return judges.length;
            case 5: return box.length;
            case 6: return events.size;
            case 7: return sightings.size;
            case 8: return latestFinding;
            default: return BAD;
        }
    }

    public long digest() {
        long h = 17;
        for (int what = 0; what < 8; what++) {
            h = mix(h, count(what));
        }
        for (int text = 0; text < TEXTS; text++) {
            h = mix(h, fault(text));
        }
        h = digestWeeks(h);
        // One weighing serves all THINGS: it is by far the dearest part.
        weighBests(5);
        for (int thing = 0; thing < things.size(); thing++) {
            h = digestThing(h, thing);
        }
        h = digestJudges(h);
        h = digestOwners(h);
        h = mix(h, champion());
        h = mix(h, best());
        h = mix(h, left(0));
        h = mix(h, left(1));
        h = mix(h, spare(NONE));
        h = mix(h, spare(0));
        h = mix(h, never());
        h = mix(h, years(7, 9, 0));
        return mix(h, years(7, 9, 1));
    }

    private long digestWeeks(long before) {
        long h = before;
        for (int week = 0; week < WEEKS; week++) {
            runAsTold(week + 1);
            h = mix(h, plan.judgeIn(week));
            h = mix(h, year.shown);
            for (int place = 0; place < PLACES; place++) {
                h = mix(h, year.placedAt(week, place));
            }
        }
        return h;
    }

    private long digestThing(long before, int thing) {
        long h = before;
        for (int what = 0; what < 3; what++) {
            h = mix(h, things.part(thing, what));
        }
        for (int week : DIGEST_WEEKS) {
            runAsTold(week + 1);
            for (int what = 0; what < 5; what++) {
                h = mix(h, year.tellOf(thing, what));
            }
        }
        chooseBrush(thing);
        h = mixChoice(h);
        chooseRival(thing);
        h = mixChoice(h);
        h = mix(h, looked(thing));
        h = mix(h, ask(thing));
        h = mix(h, partOfFraction(weights[thing], 0));
        return mix(h, partOfFraction(weights[thing], 1));
    }

    private long digestJudges(long before) {
        long h = before;
        for (int judge = 0; judge < judges.size(); judge++) {
            for (int what = 0; what < 3; what++) {
                h = mix(h, judges.part(judge, what));
            }
            h = mix(h, tastes(judge));
        }
        return h;
    }

    private long digestOwners(long before) {
        long h = before;
        for (int owner = 0; owner < OWNERS; owner++) {
            h = mix(h, owned(owner));
            chooseJudge(6, owner);
            h = mixChoice(h);
        }
        return h;
    }

    private long mixChoice(long h) {
        return mix(mix(h, choice.tell(0)), choice.tell(1));
    }

    private static long mix(long h, long v) {
        return 31 * h + v;
    }

    private static boolean isIn(int number, int end) {
        return number >= 0 && number < end;
    }

    private static boolean mayHappen(int kind, int week, int thing) {
        return isIn(kind, KINDS) && isIn(week, WEEKS) && isIn(thing, MOST_THINGS);
    }

    private Text textOf(int text) {
        switch (text) {
            case 0: return things;
            case 1: return judges;
            case 2: return box;
            default: return null;
        }
    }

    private int found(int finding) {
        latestFinding = finding;
        return -10 - finding;
    }

    /** Takes every supposition of an earlier call out of the plan. */
    private void planAsTold() {
        plan.take(things, judges, box);
    }

    private void runAsTold(int weeks) {
        planAsTold();
        year.run(plan, weeks);
    }

    private void chooseBrush(int thing) {
        planAsTold();
        choice.clear();
        plan.brushed = thing;
        for (int week = 0; week < WEEKS; week++) {
            plan.brushWeek = week;
            year.run(plan, WEEKS);
            choice.offer(week, year.colours[thing]);
        }
    }

    private void chooseRival(int thing) {
        planAsTold();
        choice.clear();
        for (int other = 0; other < plan.things; other++) {
            if (other != thing) {
                plan.alwaysKept = other;
                year.run(plan, WEEKS);
                choice.offer(other, year.colours[thing]);
            }
        }
    }

    private void chooseJudge(int week, int owner) {
        planAsTold();
        choice.clear();
        for (int judge = 0; judge < plan.judges; judge++) {
            plan.turns[week] = judge;
            year.run(plan, WEEKS);
            choice.offer(judge, year.coloursOf(plan, owner));
        }
    }

    /** The EVENTS of SPARE as bits; NONE if two are not enough. */
    private int sparedEvents() {
        planAsTold();
        if (standsWithout(0)) {
            return 0;
        }
        for (int e = 0; e < events.size; e++) {
            if (standsWithout(1 << e)) {
                return 1 << e;
            }
        }
        for (int e = 0; e < events.size; e++) {
            for (int f = e + 1; f < events.size; f++) {
                if (standsWithout(1 << e | 1 << f)) {
                    return 1 << e | 1 << f;
                }
            }
        }
        return NONE;
    }

    /** The number of the i-th bit that is set, the lowest first; NONE if there are not so many. */
    private static int numberOfBit(int bits, int i) {
        int ahead = 0;
        for (int e = 0; e < MOST_NOTES; e++) {
            if ((bits >> e & 1) == 1) {
                if (ahead == i) {
                    return e;
                }
                ahead++;
            }
        }
        return NONE;
    }

    private boolean standsWithout(int absent) {
        plan.absent = absent;
        year.run(plan, WEEKS);
        return year.fallen == 0;
    }

    /** Counts for every WEEK how many of LOOKED bring a THING to each place, the last being none. */
    private void tallyPlaces(int thing) {
        planAsTold();
        for (int i = 0; i < tally.length; i++) {
            tally[i] = 0;
        }
        for (int looks = 0; looks <= MOST_LOOKS; looks++) {
            plan.looks[thing] = looks;
            year.run(plan, WEEKS);
            if (year.bearsOut(sightings, plan.things)) {
                for (int week = 0; week < WEEKS; week++) {
                    tally[week * (PLACES + 1) + year.placeOf(week, thing)]++;
                }
            }
        }
    }

    private int greatestTally(int week) {
        int greatest = 0;
        for (int place = 0; place <= PLACES; place++) {
            greatest = Math.max(greatest, tally[week * (PLACES + 1) + place]);
        }
        return greatest;
    }

    /** Fills weights: of 16 to the power of EVENTS, how much makes each THING BEST. */
    private void weighBests(int c) {
        planAsTold();
        for (int thing = 0; thing < MOST_THINGS; thing++) {
            weights[thing] = 0;
        }
        for (int absent = 0; absent < 1 << events.size; absent++) {
            long weight = weightWithout(absent, c);
            if (weight == 0) {
                continue;
            }
            plan.absent = absent;
            year.run(plan, WEEKS);
            int best = year.mostColoured(plan.things);
            if (best != NONE) {
                weights[best] += weight;
            }
        }
    }

    private long weightWithout(int absent, int c) {
        long weight = 1;
        for (int e = 0; e < events.size; e++) {
            weight *= (absent >> e & 1) == 0 ? c : SIXTEENTHS - c;
        }
        return weight;
    }

    /** The whole is a power of 2, so halving alone brings a fraction to lowest terms, and 0 to 0 by 1. */
    private long partOfFraction(long weight, int what) {
        int halvings = 4 * events.size;
        long above = weight;
        long below = 1L << halvings;
        for (int i = 0; i < halvings && (above & 1) == 0; i++) {
            above >>= 1;
            below >>= 1;
        }
        return what == 0 ? above : below;
    }

    private void drawBox(int seed, int n) {
        int lot = seed;
        for (int week = 0; week < WEEKS; week++) {
            if (week < n) {
                lot = 1103515245 * lot + 12345;
                plan.turns[week] = (lot >>> 16) % 4;
            } else {
                plan.turns[week] = 0;
            }
        }
    }

    /** A text as it was typed; its FAULT is looked for at each change and kept. */
    private abstract static class Text {
        final int[] bytes;
        int length = 0;
        int faultPlace = NONE;

        Text(int room) {
            bytes = new int[room];
        }

        abstract boolean fits(int at, int b);

        abstract boolean mayEndAt(int end);

        boolean append(int b) {
            if (length >= bytes.length) {
                return false;
            }
            bytes[length] = b;
            length++;
            faultPlace = firstFault();
            return true;
        }

        void shorten(int newLength) {
            length = newLength;
            faultPlace = firstFault();
        }

        int firstFault() {
            for (int at = 0; at < length; at++) {
                if (!fits(at, bytes[at])) {
                    return at;
                }
            }
            return mayEndAt(length) ? NONE : length;
        }

        static boolean isFigure(int b, int least, int most) {
            return b >= '0' + least && b <= '0' + most;
        }
    }

    /** THINGS or JUDGES: entries of a sort, a figure and an owner, with ; between them. */
    private static final class Roll extends Text {
        final int leastFigure;

        Roll(int most, int leastFigure) {
            // Just this many entries have room, so that no fault of one too many can come.
            super(4 * most - 1);
            this.leastFigure = leastFigure;
        }

        boolean fits(int at, int b) {
            switch (at % 4) {
                case 0: return sortOf(b) != NONE;
                case 1: return isFigure(b, leastFigure, 9);
                case 2: return isFigure(b, 0, OWNERS - 1);
                default: return b == ';';
            }
        }

        boolean mayEndAt(int end) {
            return end == 0 || end % 4 == 3;
        }

        int size() {
            return faultPlace == NONE ? (length + 1) / 4 : 0;
        }

        int part(int entry, int what) {
            int b = bytes[4 * entry + what];
            return what == 0 ? sortOf(b) : b - '0';
        }

        static int sortOf(int b) {
            switch (b) {
                case 's': return 0;
                case 'c': return CAT;
                case 'w': return WALL;
                default: return NONE;
            }
        }
    }

    /** THE BOX. */
    private static final class Turns extends Text {
        Turns() {
            super(WEEKS);
        }

        boolean fits(int at, int b) {
            return isFigure(b, 0, MOST_JUDGES - 1);
        }

        boolean mayEndAt(int end) {
            return true;
        }

        int size() {
            return faultPlace == NONE ? length : 0;
        }

        int judgeAt(int week) {
            return week < size() ? bytes[week] - '0' : 0;
        }
    }

    /** EVENTS or what was SEEN: a few rows of three numbers. */
    private static final class Notes {
        final int[] numbers = new int[3 * MOST_NOTES];
        int size = 0;

        boolean add(int first, int second, int third) {
            if (size >= MOST_NOTES) {
                return false;
            }
            numbers[3 * size] = first;
            numbers[3 * size + 1] = second;
            numbers[3 * size + 2] = third;
            size++;
            return true;
        }

        int part(int row, int column) {
            return numbers[3 * row + column];
        }
    }

    /** What a year goes by: all that was told, and what is supposed in its place. */
    private static final class Plan {
        final Notes events;
        int things = 0;
        final int[] sorts = new int[MOST_THINGS];
        final int[] looks = new int[MOST_THINGS];
        final int[] owners = new int[MOST_THINGS];
        int judges = 0;
        final int[] tastes = new int[MOST_JUDGES];
        final int[] eyes = new int[MOST_JUDGES];
        final int[] friends = new int[MOST_JUDGES];
        final int[] turns = new int[WEEKS];
        int absent = 0;
        int brushed = NONE;
        int brushWeek = NONE;
        int alwaysKept = NONE;

        Plan(Notes events) {
            this.events = events;
        }

        void take(Roll toldThings, Roll toldJudges, Turns toldBox) {
            things = toldThings.size();
            for (int t = 0; t < things; t++) {
                sorts[t] = toldThings.part(t, 0);
                looks[t] = toldThings.part(t, 1);
                owners[t] = toldThings.part(t, 2);
            }
            judges = toldJudges.size();
            for (int j = 0; j < judges; j++) {
                tastes[j] = toldJudges.part(j, 0);
                eyes[j] = toldJudges.part(j, 1);
                friends[j] = toldJudges.part(j, 2);
            }
            for (int week = 0; week < WEEKS; week++) {
                turns[week] = toldBox.judgeAt(week);
            }
            absent = 0;
            brushed = NONE;
            brushWeek = NONE;
            alwaysKept = NONE;
        }

        int judgeIn(int week) {
            return turns[week] < judges ? turns[week] : NONE;
        }
    }

    /** How the show stands behind the latest WEEK that was run; of later ones nothing may be asked. */
    private static final class Year {
        final int[] looks = new int[MOST_THINGS];
        final int[] colours = new int[MOST_THINGS];
        final int[] firsts = new int[MOST_THINGS];
        final int[] scores = new int[MOST_THINGS];
        final int[] placed = new int[WEEKS * PLACES];
        int fallen = 0;
        int shown = 0;
        int keptIn = 0;
        boolean rains = false;

        void run(Plan plan, int weeks) {
            begin(plan);
            for (int week = 0; week < weeks; week++) {
                doEvents(plan, week);
                scoreAll(plan, plan.judgeIn(week));
                placeAll(plan, week);
            }
        }

        void begin(Plan plan) {
            fallen = 0;
            for (int t = 0; t < MOST_THINGS; t++) {
                looks[t] = plan.looks[t];
                colours[t] = 0;
                firsts[t] = 0;
            }
        }

        void doEvents(Plan plan, int week) {
            rains = false;
            keptIn = plan.alwaysKept == NONE ? 0 : 1 << plan.alwaysKept;
            Notes events = plan.events;
            for (int e = 0; e < events.size; e++) {
                if ((plan.absent >> e & 1) == 0 && events.part(e, 1) == week) {
                    happen(events.part(e, 0), events.part(e, 2));
                }
            }
            if (plan.brushWeek == week) {
                happen(GROOMED, plan.brushed);
            }
        }

        /** A THING that there is not may be told here: what befalls it is never looked at. */
        void happen(int kind, int thing) {
            if (kind == GROOMED) {
                looks[thing] = Math.min(MOST_LOOKS, looks[thing] + 2);
            } else if (kind == KEPT) {
                keptIn |= 1 << thing;
            } else {
                rains = true;
                for (int t = 0; t < MOST_THINGS; t++) {
                    colours[t] = Math.max(0, colours[t] - 1);
                }
            }
        }

        void scoreAll(Plan plan, int judge) {
            shown = 0;
            for (int t = 0; t < plan.things; t++) {
                if (judge == NONE || ((keptIn | fallen) >> t & 1) == 1) {
                    scores[t] = NONE;
                } else {
                    scores[t] = scoreBy(plan, judge, t);
                    shown++;
                }
            }
        }

        int scoreBy(Plan plan, int judge, int t) {
            int score = looks[t];
            if (plan.sorts[t] == WALL) {
                score += firsts[t];
            }
            if (plan.sorts[t] == CAT && rains) {
                score = Math.max(0, score - 2);
            }
            if (plan.sorts[t] == plan.tastes[judge]) {
                score += plan.eyes[judge];
            }
            if (plan.owners[t] == plan.friends[judge]) {
                score += 3;
            }
            return score;
        }

        void placeAll(Plan plan, int week) {
            int taken = 0;
            for (int place = 0; place < PLACES; place++) {
                int t = topWithout(taken, plan.things);
                placed[week * PLACES + place] = t;
                if (t != NONE) {
                    taken |= 1 << t;
                    pin(plan.sorts[t], t, place);
                }
            }
        }

        int topWithout(int taken, int things) {
            int top = NONE;
            for (int t = 0; t < things; t++) {
                boolean isFree = scores[t] != NONE && (taken >> t & 1) == 0;
                if (isFree && (top == NONE || scores[t] > scores[top])) {
                    top = t;
                }
            }
            return top;
        }

        void pin(int sort, int t, int place) {
            colours[t] += PLACES - place;
            if (place == 0) {
                firsts[t]++;
                if (sort == WALL && firsts[t] == 3) {
                    fallen |= 1 << t;
                }
            }
            if (place == 1 && sort == CAT) {
                looks[t] = Math.max(0, looks[t] - 1);
            }
        }

        int placedAt(int week, int place) {
            return placed[week * PLACES + place];
        }

        /** The place of a THING in a WEEK; one more than the last if it was not placed. */
        int placeOf(int week, int thing) {
            for (int place = 0; place < PLACES; place++) {
                if (placedAt(week, place) == thing) {
                    return place;
                }
            }
            return PLACES;
        }

        boolean bearsOut(Notes sightings, int things) {
            for (int i = 0; i < sightings.size; i++) {
                int thing = sightings.part(i, 1);
                if (thing >= things || placeOf(sightings.part(i, 0), thing) != sightings.part(i, 2)) {
                    return false;
                }
            }
            return true;
        }

        int tellOf(int thing, int what) {
            switch (what) {
                case 0: return looks[thing];
                case 1: return colours[thing];
                case 2: return firsts[thing];
                case 3: return fallen >> thing & 1;
                default: return scores[thing];
            }
        }

        int coloursOf(Plan plan, int owner) {
            int sum = 0;
            for (int t = 0; t < plan.things; t++) {
                if (plan.owners[t] == owner) {
                    sum += colours[t];
                }
            }
            return sum;
        }

        int mostColoured(int things) {
            int best = NONE;
            for (int t = 0; t < things; t++) {
                if (best == NONE || colours[t] > colours[best]) {
                    best = t;
                }
            }
            return best;
        }

        int neverPlaced(int things) {
            int bare = (1 << things) - 1;
            for (int i = 0; i < placed.length; i++) {
                if (placed[i] != NONE) {
                    bare &= ~(1 << placed[i]);
                }
            }
            return bare;
        }
    }

    /** The best of what was offered so far, of like ones the first. */
    private static final class Choice {
        int which = NONE;
        int much = NONE;

        void clear() {
            which = NONE;
            much = NONE;
        }

        void offer(int candidate, int value) {
            if (which == NONE || value > much) {
                which = candidate;
                much = value;
            }
        }

        int tell(int what) {
            return what == 0 ? which : much;
        }
    }

    /** A SHEET; its row has room for all that may ever stand in it, so that a new one makes no object. */
    private static final class Sheet {
        final int[] items = new int[MOST_ITEMS];
        int form = NONE;
        int size = 0;

        boolean isLost() {
            return form == NONE;
        }

        void renew(int newForm, int newSize) {
            form = newForm;
            size = newSize;
            for (int i = 0; i < MOST_ITEMS; i++) {
                items[i] = 0;
            }
        }

        /** The FINDING that meets whoever treats item i as of a form; 0 if none does. */
        int findingAt(int asForm, int i) {
            if (isLost()) {
                return NULL;
            }
            if (form != asForm) {
                return CAST;
            }
            return isIn(i, size) ? 0 : INDEX;
        }

        /** Told by differences, for a sum of two such numbers might wrap. */
        boolean hasSpan(int from, int many) {
            return from >= 0 && many >= 0 && from <= size && many <= size - from;
        }

        void put(int i, int v) {
            if (form == 0) {
                items[i] = (byte) v;
            } else if (form == 1) {
                items[i] = (short) v;
            } else {
                items[i] = v;
            }
        }
    }
}
