import java.util.ArrayList;
import java.util.List;
import java.util.Random;

/** The class against the Model, over many states that are drawn by fixed seeds; promises 2 to 29 and 37. */
final class ModelTests {
    private static final int STATES = 500;

    public static void main(String[] args) {
        for (int seed = 0; seed < STATES; seed++) {
            new ModelTests(seed).run();
        }
        Due.end();
    }

    private final Random lots;
    private final String name;
    private final RosetteShow x = new RosetteShow();
    private final Model m = new Model();

    private ModelTests(int seed) {
        lots = new Random(seed);
        name = "state " + seed + ": ";
    }

    private void run() {
        drawTexts();
        int many = lots.nextInt(9);
        for (int i = 0; i < many; i++) {
            drawEvent();
        }
        drawSights();
        compare();
        change();
        compareSome();
        Due.is(name + "digest", x.digest(), m.digest());
    }

    private void drawTexts() {
        tell(0, entries(lots.nextInt(11), 0));
        tell(1, entries(lots.nextInt(5), 1));
        StringBuilder box = new StringBuilder();
        int turns = lots.nextInt(13);
        for (int i = 0; i < turns; i++) {
            box.append((char) ('0' + lots.nextInt(lots.nextBoolean() ? 4 : 2)));
        }
        tell(2, box.toString());
    }

    private String entries(int many, int least) {
        int spread = 1 + lots.nextInt(10 - least);
        List<String> list = new ArrayList<>();
        for (int i = 0; i < many; i++) {
            char sort = "scww".charAt(lots.nextInt(4));
            int figure = least + lots.nextInt(spread);
            list.add("" + sort + figure + lots.nextInt(6));
        }
        return String.join(";", list);
    }

    private void tell(int text, String bytes) {
        Due.is(name + "wipe", x.wipe(text), m.texts[text].length());
        m.texts[text].setLength(0);
        for (char b : bytes.toCharArray()) {
            m.texts[text].append(b);
            Due.is(name + "type", x.type(text, b), m.texts[text].length());
        }
    }

    private void drawEvent() {
        Model.Event e = new Model.Event(lots.nextInt(3), lots.nextInt(lots.nextBoolean() ? 12 : 4), lots.nextInt(10));
        int due = m.events.size() < 8 ? m.events.size() + 1 : -4;
        if (due > 0) {
            m.events.add(e);
        }
        Due.is(name + "event", x.event(e.kind(), e.week(), e.thing()), due);
    }

    /** Mostly of what comes out so, or nearly, that the answers be not all empty. */
    private void drawSights() {
        Model.Setting s = m.told();
        int many = lots.nextInt(4);
        for (int i = 0; i < many; i++) {
            int week = lots.nextInt(12);
            int thing = lots.nextInt(lots.nextInt(20) == 0 || s.things().isEmpty() ? 10 : s.things().size());
            boolean so = lots.nextInt(6) != 0;
            int place = so ? Model.year(s).get(week).placeOf(thing) : lots.nextInt(4);
            m.sights.add(new Model.Sight(week, thing, place));
            Due.is(name + "seen", x.seen(week, thing, place), m.sights.size());
        }
    }

    private void change() {
        int text = lots.nextInt(3);
        switch (lots.nextInt(4)) {
            case 0 -> {
                int last = m.texts[text].length() - 1;
                if (last >= 0) {
                    m.texts[text].setLength(last);
                }
                Due.is(name + "undo", x.undo(text), last >= 0 ? last : -3);
            }
            case 1 -> {
                char b = "scw;0123456789 :".charAt(lots.nextInt(16));
                int room = new int[] {39, 15, 12}[text];
                if (m.texts[text].length() < room) {
                    m.texts[text].append(b);
                    Due.is(name + "type", x.type(text, b), m.texts[text].length());
                } else {
                    Due.is(name + "type", x.type(text, b), -4);
                }
            }
            case 2 -> {
                int left = m.events.size() - 1;
                if (left >= 0) {
                    m.events.remove(left);
                }
                Due.is(name + "back", x.back(), left >= 0 ? left : -3);
            }
            default -> drawEvent();
        }
    }

    private void compare() {
        Model.Setting s = m.told();
        List<Model.Week> weeks = Model.year(s);
        for (int w = 0; w < 12; w++) {
            Model.Week week = weeks.get(w);
            Due.is(name + "show 0 " + w, x.show(w, 0), week.judge);
            Due.is(name + "show 1 " + w, x.show(w, 1), week.shown);
            for (int p = 0; p < 3; p++) {
                Due.is(name + "place " + w + " " + p, x.place(w, p), week.placed(p));
            }
            for (int t = 0; t < s.things().size(); t++) {
                Model.Standing st = week.behind.get(t);
                int[] want = {st.looks, st.colour, st.firsts, st.fell ? 1 : 0, st.score};
                for (int what = 0; what < 5; what++) {
                    Due.is(name + "at " + w + " " + t + " " + what, x.at(w, t, what), want[what]);
                }
            }
        }
        for (int t = 0; t < s.things().size(); t++) {
            pair("brush " + t, x.brush(t, 0), x.brush(t, 1), Model.brush(s, t));
            pair("rival " + t, x.rival(t, 0), x.rival(t, 1), Model.rival(s, t));
        }
        for (int o = 0; o < 6; o++) {
            Due.is(name + "owned " + o, x.owned(o), Model.owned(s, o));
        }
        compareSome();
    }

    private void compareSome() {
        Model.Setting s = m.told();
        for (int text = 0; text < 3; text++) {
            Due.is(name + "fault " + text, x.fault(text), Model.fault(text, m.texts[text].toString()));
        }
        Due.is(name + "champion", x.champion(), Model.champion(s));
        Due.is(name + "best", x.best(), Model.best(s));
        Due.is(name + "left 0", x.left(0), Model.fallen(s));
        Due.is(name + "left 1", x.left(1), Model.bare(s));
        int week = lots.nextInt(12);
        int owner = lots.nextInt(6);
        pair("send " + week + " " + owner, x.send(week, owner, 0), x.send(week, owner, 1), Model.send(s, week, owner));
        List<Integer> spare = Model.spare(s);
        Due.is(name + "spare -1", x.spare(-1), spare == null ? -1 : spare.size());
        for (int i = 0; i < 2; i++) {
            Due.is(name + "spare " + i, x.spare(i), spare == null || i >= spare.size() ? -1 : spare.get(i));
        }
        Due.is(name + "never", x.never(), m.never(s));
        for (int t = 0; t < s.things().size(); t++) {
            Due.is(name + "looked " + t, x.looked(t), m.looked(s, t));
            Due.is(name + "ask " + t, x.ask(t), m.ask(s, t));
        }
        for (int j = 0; j < s.judges().size(); j++) {
            Due.is(name + "tastes " + j, x.tastes(j), m.tastes(s, j));
        }
        int seed = lots.nextInt();
        int n = lots.nextInt(13);
        Model.Setting drawn = Model.drawn(s, seed, n);
        Due.is(name + "years 0", x.years(seed, n, 0), Model.best(drawn));
        Due.is(name + "years 1", x.years(seed, n, 1), Integer.bitCount(Model.fallen(drawn)));
        int c = lots.nextInt(17);
        long[][] chances = Model.chances(s, c);
        for (int t = 0; t < s.things().size(); t++) {
            Due.is(name + "chance above " + t, x.chance(c, t, 0), chances[t][0]);
            Due.is(name + "chance below " + t, x.chance(c, t, 1), chances[t][1]);
        }
    }

    private void pair(String call, int which, int much, int[] want) {
        Due.is(name + call + ": which", which, want[0]);
        Due.is(name + call + ": how much", much, want[1]);
    }
}
