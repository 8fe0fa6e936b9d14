import java.util.ArrayList;
import java.util.HashMap;
import java.util.List;
import java.util.Map;
import java.util.function.ToIntFunction;
import java.util.regex.Pattern;

/**
 * The document a second time, in another way: whole years as lists of snapshots, suppositions as changed copies,
 * chances by adding up one EVENT after the other. ModelTests holds the class against it.
 */
final class Model {
    record Thing(int sort, int looks, int owner) {
    }

    record Judge(int taste, int eye, int friend) {
    }

    record Event(int kind, int week, int thing) {
    }

    record Sight(int week, int thing, int place) {
    }

    /** What a year goes by. */
    record Setting(List<Thing> things, List<Judge> judges, List<Integer> box, List<Event> events) {
        Setting withThing(int i, Thing t) {
            List<Thing> changed = new ArrayList<>(things);
            changed.set(i, t);
            return new Setting(changed, judges, box, events);
        }

        Setting withJudge(int i, Judge j) {
            List<Judge> changed = new ArrayList<>(judges);
            changed.set(i, j);
            return new Setting(things, changed, box, events);
        }

        Setting withBox(int week, int judge) {
            List<Integer> changed = new ArrayList<>(box);
            changed.set(week, judge);
            return new Setting(things, judges, changed, events);
        }

        Setting withEvents(List<Event> changed) {
            return new Setting(things, judges, box, changed);
        }

        Setting without(int e) {
            List<Event> changed = new ArrayList<>(events);
            changed.remove(e);
            return withEvents(changed);
        }

        Setting and(Event e) {
            List<Event> changed = new ArrayList<>(events);
            changed.add(e);
            return withEvents(changed);
        }
    }

    static final class Standing {
        int looks;
        int colour;
        int firsts;
        boolean fell;
        int score = -1;

        Standing copy() {
            Standing c = new Standing();
            c.looks = looks;
            c.colour = colour;
            c.firsts = firsts;
            c.fell = fell;
            c.score = score;
            return c;
        }
    }

    static final class Week {
        int judge;
        int shown;
        List<Integer> order = new ArrayList<>();
        List<Standing> behind = new ArrayList<>();

        int placed(int place) {
            return place < order.size() ? order.get(place) : -1;
        }

        int placeOf(int thing) {
            int i = order.indexOf(thing);
            return i < 0 ? 3 : i;
        }
    }

    final StringBuilder[] texts = {new StringBuilder(), new StringBuilder(), new StringBuilder()};
    List<Event> events = new ArrayList<>();
    List<Sight> sights = new ArrayList<>();

    // ---- texts

    static int fault(int text, String s) {
        Pattern whole = Pattern.compile(new String[] {
            "([scw][0-9][0-5](;[scw][0-9][0-5]){0,9})?", "([scw][1-9][0-5](;[scw][1-9][0-5]){0,3})?", "[0-3]{0,12}"}[text],
            Pattern.DOTALL);
        if (whole.matcher(s).matches()) {
            return -1;
        }
        // A byte can go on if the text up to it is the start of one that is well.
        for (int n = 1; n <= s.length(); n++) {
            var m = whole.matcher(s.substring(0, n));
            if (!m.matches() && !m.hitEnd()) {
                return n - 1;
            }
        }
        return s.length();
    }

    boolean isWell(int text) {
        return fault(text, texts[text].toString()) == -1;
    }

    String[] entries(int text) {
        return isWell(text) && texts[text].length() > 0 ? texts[text].toString().split(";") : new String[0];
    }

    Setting told() {
        List<Thing> things = new ArrayList<>();
        for (String e : entries(0)) {
            things.add(new Thing("scw".indexOf(e.charAt(0)), e.charAt(1) - '0', e.charAt(2) - '0'));
        }
        List<Judge> judges = new ArrayList<>();
        for (String e : entries(1)) {
            judges.add(new Judge("scw".indexOf(e.charAt(0)), e.charAt(1) - '0', e.charAt(2) - '0'));
        }
        String box = (isWell(2) ? texts[2].toString() : "") + "000000000000";
        List<Integer> turns = new ArrayList<>();
        for (int w = 0; w < 12; w++) {
            turns.add(box.charAt(w) - '0');
        }
        return new Setting(things, judges, turns, events);
    }

    // ---- weeks

    static List<Week> year(Setting s) {
        List<Standing> now = new ArrayList<>();
        for (Thing t : s.things()) {
            Standing st = new Standing();
            st.looks = t.looks();
            now.add(st);
        }
        List<Week> weeks = new ArrayList<>();
        for (int w = 0; w < 12; w++) {
            weeks.add(week(s, w, now));
        }
        return weeks;
    }

    private static Week week(Setting s, int w, List<Standing> now) {
        Week week = new Week();
        boolean rain = false;
        List<Integer> kept = new ArrayList<>();
        for (Event e : s.events()) {
            if (e.week() != w) {
                continue;
            }
            switch (e.kind()) {
                case 0 -> {
                    if (e.thing() < now.size()) {
                        Standing st = now.get(e.thing());
                        st.looks = st.looks + 2 > 9 ? 9 : st.looks + 2;
                    }
                }
                case 1 -> kept.add(e.thing());
                default -> {
                    rain = true;
                    for (Standing st : now) {
                        st.colour = st.colour > 0 ? st.colour - 1 : 0;
                    }
                }
            }
        }
        for (Standing st : now) {
            st.score = -1;
        }
        week.judge = s.box().get(w) < s.judges().size() ? s.box().get(w) : -1;
        if (week.judge >= 0) {
            Judge j = s.judges().get(week.judge);
            List<Integer> shown = new ArrayList<>();
            for (int t = 0; t < now.size(); t++) {
                if (!kept.contains(t) && !now.get(t).fell) {
                    now.get(t).score = score(s.things().get(t), now.get(t), j, rain);
                    shown.add(t);
                }
            }
            week.shown = shown.size();
            // A stable sort leaves the least of like ones first.
            shown.sort((a, b) -> now.get(b).score - now.get(a).score);
            week.order = new ArrayList<>(shown.subList(0, Math.min(3, shown.size())));
            award(s, week, now);
        }
        for (Standing st : now) {
            week.behind.add(st.copy());
        }
        return week;
    }

    private static int score(Thing t, Standing st, Judge j, boolean rain) {
        int base = switch (t.sort()) {
            case 2 -> st.looks + st.firsts;
            case 1 -> rain ? Math.max(0, st.looks - 2) : st.looks;
            default -> st.looks;
        };
        return base + (t.sort() == j.taste() ? j.eye() : 0) + (t.owner() == j.friend() ? 3 : 0);
    }

    private static void award(Setting s, Week week, List<Standing> now) {
        for (int p = 0; p < week.order.size(); p++) {
            int t = week.order.get(p);
            Standing st = now.get(t);
            st.colour += new int[] {3, 2, 1}[p];
            int sort = s.things().get(t).sort();
            if (p == 0) {
                st.firsts++;
                st.fell = sort == 2 && st.firsts >= 3;
            }
            if (p == 1 && sort == 1 && st.looks > 0) {
                st.looks--;
            }
        }
    }

    static int colour(Setting s, int thing) {
        return year(s).get(11).behind.get(thing).colour;
    }

    static int owned(Setting s, int owner) {
        int sum = 0;
        List<Standing> end = year(s).get(11).behind;
        for (int t = 0; t < end.size(); t++) {
            sum += s.things().get(t).owner() == owner ? end.get(t).colour : 0;
        }
        return sum;
    }

    /** The first of 0 to n - 1 with the greatest value, and that value; none: -1 twice. */
    static int[] most(int n, ToIntFunction<Integer> value, int but) {
        int[] best = {-1, -1};
        for (int i = n - 1; i >= 0; i--) {
            if (i != but && (best[0] < 0 || value.applyAsInt(i) >= best[1])) {
                best = new int[] {i, value.applyAsInt(i)};
            }
        }
        return best;
    }

    static int best(Setting s) {
        List<Standing> end = year(s).get(11).behind;
        return most(end.size(), t -> end.get(t).colour, -1)[0];
    }

    static int champion(Setting s) {
        return most(6, o -> owned(s, o), -1)[0];
    }

    static int fallen(Setting s) {
        int bits = 0;
        List<Standing> end = year(s).get(11).behind;
        for (int t = 0; t < end.size(); t++) {
            bits |= end.get(t).fell ? 1 << t : 0;
        }
        return bits;
    }

    static int bare(Setting s) {
        int bits = 0;
        for (int t = 0; t < s.things().size(); t++) {
            final int thing = t;
            if (year(s).stream().noneMatch(w -> w.order.contains(thing))) {
                bits |= 1 << t;
            }
        }
        return bits;
    }

    // ---- plans

    static int[] brush(Setting s, int thing) {
        return most(12, w -> colour(s.and(new Event(0, w, thing)), thing), -1);
    }

    static int[] rival(Setting s, int thing) {
        return most(s.things().size(), other -> {
            Setting changed = s;
            for (int w = 0; w < 12; w++) {
                changed = changed.and(new Event(1, w, other));
            }
            return colour(changed, thing);
        }, thing);
    }

    static int[] send(Setting s, int week, int owner) {
        return most(s.judges().size(), j -> owned(s.withBox(week, j), owner), -1);
    }

    /** The EVENTS that had better not be; null: two are not enough. */
    static List<Integer> spare(Setting s) {
        if (fallen(s) == 0) {
            return List.of();
        }
        int n = s.events().size();
        for (int a = 0; a < n; a++) {
            if (fallen(s.without(a)) == 0) {
                return List.of(a);
            }
        }
        for (int a = 0; a < n; a++) {
            for (int b = a + 1; b < n; b++) {
                if (fallen(s.without(b).without(a)) == 0) {
                    return List.of(a, b);
                }
            }
        }
        return null;
    }

    // ---- seen, chance, years

    boolean comesOut(Setting s) {
        List<Week> weeks = year(s);
        return sights.stream().allMatch(x -> x.thing() < s.things().size() && weeks.get(x.week()).placeOf(x.thing()) == x.place());
    }

    int never(Setting s) {
        int bits = 0;
        for (int e = 0; e < s.events().size(); e++) {
            bits |= comesOut(s.without(e)) ? 1 << e : 0;
        }
        return bits;
    }

    static Setting withLooks(Setting s, int thing, int looks) {
        Thing t = s.things().get(thing);
        return s.withThing(thing, new Thing(t.sort(), looks, t.owner()));
    }

    int looked(Setting s, int thing) {
        int bits = 0;
        for (int v = 0; v < 10; v++) {
            bits |= comesOut(withLooks(s, thing, v)) ? 1 << v : 0;
        }
        return bits;
    }

    int tastes(Setting s, int judge) {
        int bits = 0;
        Judge j = s.judges().get(judge);
        for (int v = 0; v < 3; v++) {
            bits |= comesOut(s.withJudge(judge, new Judge(v, j.eye(), j.friend()))) ? 1 << v : 0;
        }
        return bits;
    }

    int ask(Setting s, int thing) {
        int bits = looked(s, thing);
        int bestWeek = -1;
        int least = Integer.MAX_VALUE;
        for (int w = 0; w < 12; w++) {
            Map<Integer, Integer> groups = new HashMap<>();
            for (int v = 0; v < 10; v++) {
                if ((bits >> v & 1) == 1) {
                    groups.merge(year(withLooks(s, thing, v)).get(w).placeOf(thing), 1, Integer::sum);
                }
            }
            int greatest = groups.values().stream().mapToInt(Integer::intValue).max().orElse(0);
            if (greatest < least) {
                least = greatest;
                bestWeek = w;
            }
        }
        return bestWeek;
    }

    /** Above and below of each THING's chance to be BEST. */
    static long[][] chances(Setting s, int c) {
        long[] above = new long[10];
        spread(s, c, 0, new ArrayList<>(), 1, above);
        long whole = 1;
        for (int i = 0; i < s.events().size(); i++) {
            whole *= 16;
        }
        long[][] fractions = new long[10][];
        for (int t = 0; t < 10; t++) {
            long a = whole;
            long b = above[t];
            while (b != 0) {
                long r = a % b;
                a = b;
                b = r;
            }
            fractions[t] = new long[] {above[t] / a, whole / a};
        }
        return fractions;
    }

    private static void spread(Setting s, int c, int e, List<Event> happened, long weight, long[] above) {
        if (e == s.events().size()) {
            int best = best(s.withEvents(happened));
            if (best >= 0) {
                above[best] += weight;
            }
            return;
        }
        spread(s, c, e + 1, happened, weight * (16 - c), above);
        List<Event> more = new ArrayList<>(happened);
        more.add(s.events().get(e));
        spread(s, c, e + 1, more, weight * c, above);
    }

    static Setting drawn(Setting s, int seed, int n) {
        Setting changed = s;
        int x = seed;
        for (int w = 0; w < 12; w++) {
            x = x * 1103515245 + 12345;
            changed = changed.withBox(w, w < n ? ((x >> 16) & 0xffff) % 4 : 0);
        }
        return changed;
    }

    // ---- digest

    long digest() {
        Setting s = told();
        List<Long> row = new ArrayList<>();
        add(row, s.things().size(), s.judges().size(), isWell(2) ? texts[2].length() : 0);
        for (StringBuilder text : texts) {
            add(row, text.length());
        }
        add(row, events.size(), sights.size());
        for (int text = 0; text < 3; text++) {
            add(row, fault(text, texts[text].toString()));
        }
        List<Week> weeks = year(s);
        for (Week w : weeks) {
            add(row, w.judge, w.shown, w.placed(0), w.placed(1), w.placed(2));
        }
        long[][] chances = chances(s, 5);
        for (int t = 0; t < s.things().size(); t++) {
            Thing thing = s.things().get(t);
            add(row, thing.sort(), thing.looks(), thing.owner());
            for (int w : new int[] {0, 4, 8, 11}) {
                Standing st = weeks.get(w).behind.get(t);
                add(row, st.looks, st.colour, st.firsts, st.fell ? 1 : 0, st.score);
            }
            add(row, brush(s, t));
            add(row, rival(s, t));
            add(row, looked(s, t), ask(s, t));
            row.add(chances[t][0]);
            row.add(chances[t][1]);
        }
        for (int j = 0; j < s.judges().size(); j++) {
            Judge judge = s.judges().get(j);
            add(row, judge.taste(), judge.eye(), judge.friend(), tastes(s, j));
        }
        for (int o = 0; o < 6; o++) {
            add(row, owned(s, o));
            add(row, send(s, 6, o));
        }
        List<Integer> spare = spare(s);
        add(row, champion(s), best(s), fallen(s), bare(s), spare == null ? -1 : spare.size(),
            spare == null || spare.isEmpty() ? -1 : spare.get(0), never(s));
        Setting drawn = drawn(s, 7, 9);
        add(row, best(drawn), Integer.bitCount(fallen(drawn)));
        long h = 17;
        for (long v : row) {
            h = h * 31 + v;
        }
        return h;
    }

    private static void add(List<Long> row, int... values) {
        for (int v : values) {
            row.add((long) v);
        }
    }
}
