import java.util.ArrayDeque;
import java.util.ArrayList;
import java.util.Arrays;
import java.util.Deque;
import java.util.HashMap;
import java.util.List;
import java.util.Map;
import java.util.TreeSet;
import java.util.regex.Matcher;
import java.util.regex.Pattern;

/**
 * The document a second time, by other means than the class's own: tokens by patterns, whole states that are copied
 * and run on, answers by trying everything. The random runs hold the two against each other.
 */
final class Twin {
    private static final int NONE = -1, UNKNOWN = -1000000001, OUTSIDE = -1000000002, NOT = -1000000003, FULL = -1000000004;

    /** What the text tells. */
    private static final class Told {
        int[] day;
        final List<Integer> seasons = new ArrayList<>();
        final List<int[]> things = new ArrayList<>();
        final List<Integer> lands = new ArrayList<>();
        final List<int[]> wants = new ArrayList<>();

        int[] lightOf(int number) {
            int x = seasons.isEmpty() ? 4 : seasons.get(number / 24 % seasons.size());
            int from = day[0] + 4 - x;
            int to = day[1] + x - 4;
            return new int[] {from < 1 ? 1 : from > 11 ? 11 : from, to < 13 ? 13 : to > 23 ? 23 : to};
        }

        int lightHeir(int number) {
            int[] light = lightOf(number);
            int h = number % 24;
            return h >= light[0] && h < 12 ? 0 : h >= 12 && h < light[1] ? 1 : 2;
        }
    }

    /** Section 2, copied whole wherever something is tried or kept. */
    private static final class State {
        int hours;
        int eclipse;
        int[] purse = new int[3];
        int[] anger = new int[3];
        int[] value;
        Map<Integer, Integer> knows = new HashMap<>();
        List<int[]> log = new ArrayList<>();

        State copy() {
            State s = new State();
            s.hours = hours;
            s.eclipse = eclipse;
            s.purse = purse.clone();
            s.anger = anger.clone();
            s.value = value.clone();
            s.knows = new HashMap<>(knows);
            s.log = new ArrayList<>(log);
            return s;
        }

        int holder(Told c) {
            return eclipse > 0 ? 2 : c.lightHeir(hours);
        }

        void set(Told c, int t, int v) {
            log.add(0, new int[] {hours, holder(c), t, v});
            value[t] = v;
            if (log.size() > 20) {
                log.remove(20);
            }
        }

        State run(Told c, int n) {
            for (int i = 0; i < n; i++) {
                int h = holder(c);
                for (int rent : c.lands) {
                    purse[h] = Math.min(9999999, purse[h] + rent);
                }
                for (int[] w : c.wants) {
                    if (w[0] == h && value[w[1]] != w[2]) {
                        anger[h] = Math.min(9999999, anger[h] + 1);
                    }
                }
                for (int t = 0; t < value.length; t++) {
                    knows.put(100 * h + t, value[t]);
                }
                for (int t = 0; t < value.length; t++) {
                    int kind = c.things.get(t)[0];
                    if (kind == 0 && hours % 3 == 0 && h < 2 && value[t] < 9) {
                        value[t]++;
                    }
                    if (kind == 1 && h == 2 && value[t] > 0) {
                        value[t]--;
                    }
                    if (kind == 3 && hours % 24 == 12) {
                        value[t] = 0;
                    }
                }
                eclipse = Math.max(0, eclipse - 1);
                hours++;
            }
            return this;
        }
    }

    private final StringBuilder text = new StringBuilder();
    private int faultAt = NONE;
    private Told c;
    private State now = emptyState();
    private final Deque<State> past = new ArrayDeque<>();
    private final State[] images = new State[2];
    private final long[] imageSeeds = new long[2];
    private final List<int[]> found = new ArrayList<>();
    private final List<int[]> book = new ArrayList<>();
    private long seed;

    private static State emptyState() {
        State s = new State();
        s.value = new int[0];
        return s;
    }

    // ---- the text

    private static final class Fault extends Exception {
        private static final long serialVersionUID = 1L;
        final int number;
        final int place;

        Fault(int number, int place) {
            this.number = number;
            this.place = place;
        }
    }

    /** Tokens with their places: numbers whole, all else letter by letter, blanks left out. */
    private static List<String[]> tokensOf(String s) {
        List<String[]> tokens = new ArrayList<>();
        Matcher m = Pattern.compile("[0-9]+|[^ ]", Pattern.DOTALL).matcher(s);
        while (m.find()) {
            tokens.add(new String[] {m.group(), Integer.toString(m.start())});
        }
        tokens.add(new String[] {"", Integer.toString(s.length())});
        return tokens;
    }

    private static int number(String[] token, int least, int most) throws Fault {
        int place = Integer.parseInt(token[1]);
        if (!token[0].matches("[0-9]+")) {
            throw new Fault(1, place);
        }
        if (token[0].length() > 3 || Integer.parseInt(token[0]) < least || Integer.parseInt(token[0]) > most) {
            throw new Fault(2, place);
        }
        return Integer.parseInt(token[0]);
    }

    private static Told read(String s) throws Fault {
        List<String[]> tokens = tokensOf(s);
        if (tokens.size() == 1) {
            return null;
        }
        Told told = new Told();
        int i = 0;
        while (!tokens.get(i)[0].isEmpty()) {
            String word = tokens.get(i)[0];
            int place = Integer.parseInt(tokens.get(i)[1]);
            if (word.length() != 1 || "cstlw".indexOf(word) < 0 || told.day == null && !word.equals("c")) {
                throw new Fault(1, place);
            }
            boolean isOver = word.equals("c") && told.day != null || word.equals("s") && !told.seasons.isEmpty()
                || word.equals("t") && told.things.size() == 8 || word.equals("l") && told.lands.size() == 6
                || word.equals("w") && told.wants.size() == 10;
            if (isOver) {
                throw new Fault(3, place);
            }
            i++;
            switch (word.charAt(0)) {
                case 'c' -> told.day = new int[] {number(tokens.get(i++), 1, 11), number(tokens.get(i++), 13, 23)};
                case 't' -> told.things.add(new int[] {number(tokens.get(i++), 0, 3), number(tokens.get(i++), 0, 9)});
                case 'l' -> told.lands.add(number(tokens.get(i++), 1, 9));
                case 'w' -> told.wants.add(new int[] {number(tokens.get(i++), 0, 2),
                    number(tokens.get(i++), 0, told.things.size() - 1), number(tokens.get(i++), 0, 9)});
                default -> {
                    told.seasons.add(number(tokens.get(i++), 0, 9));
                    while (told.seasons.size() < 12 && tokens.get(i)[0].equals(",")) {
                        i++;
                        told.seasons.add(number(tokens.get(i++), 0, 9));
                    }
                }
            }
            if (!tokens.get(i)[0].equals(";")) {
                throw new Fault(1, Integer.parseInt(tokens.get(i)[1]));
            }
            i++;
        }
        return told;
    }

    int feed(int letter) {
        if (letter < 0 || letter > 255) {
            return OUTSIDE;
        }
        if (text.length() == 240) {
            return FULL;
        }
        return text.append((char) letter).length();
    }

    int county() {
        String s = text.toString();
        text.setLength(0);
        try {
            c = read(s);
        } catch (Fault f) {
            faultAt = f.place;
            return -10 - f.number;
        }
        faultAt = NONE;
        now = emptyState();
        now.value = new int[things()];
        for (int t = 0; t < things(); t++) {
            now.value[t] = c.things.get(t)[1];
        }
        past.clear();
        Arrays.fill(images, null);
        found.clear();
        book.clear();
        return things();
    }

    int fault() {
        return faultAt;
    }

    private int things() {
        return c == null ? 0 : c.things.size();
    }

    private List<int[]> wants() {
        return c == null ? List.of() : c.wants;
    }

    private int wrongAbout(int h) {
        int set = 0;
        for (int t = 0; t < things(); t++) {
            if (!Integer.valueOf(now.value[t]).equals(now.knows.get(100 * h + t))) {
                set += 1 << t;
            }
        }
        return set;
    }

    /** How many notes it takes by leaving them one by one. */
    private int notes() {
        if (c == null) {
            return 0;
        }
        int sum = 0;
        for (int h = 0; h < 3; h++) {
            for (int t = 0; t < things(); t++) {
                if (h != now.holder(c) && (wrongAbout(h) >> t & 1) == 1) {
                    sum++;
                }
            }
        }
        return sum;
    }

    int told(int what) {
        int met = 0;
        for (int w = 0; w < wants().size(); w++) {
            int[] want = wants().get(w);
            met += now.value[want[1]] == want[2] ? 1 << w : 0;
        }
        int[] purses = now.purse.clone();
        Arrays.sort(purses);
        int[] answers = {c == null ? 0 : 1, things(), c == null ? 0 : c.lands.size(), wants().size(),
            c == null ? 0 : c.seasons.size(), text.length(), now.hours, now.eclipse, c == null ? NONE : now.holder(c),
            met, notes(), purses[2] - purses[0], now.log.size(), found.size(), book.size(), past.size()};
        return what < 0 || what > 15 ? OUTSIDE : answers[what];
    }

    int heir(int h, int what) {
        if (noHeir(h)) {
            return UNKNOWN;
        }
        int own = (int) wants().stream().filter(w -> w[0] == h).count();
        return what < 0 || what > 3 ? OUTSIDE : new int[] {now.purse[h], now.anger[h], own, wrongAbout(h)}[what];
    }

    int thing(int t, int what) {
        if (noThing(t)) {
            return UNKNOWN;
        }
        return what == 0 ? c.things.get(t)[0] : what == 1 ? now.value[t] : OUTSIDE;
    }

    int want(int w, int what) {
        if (w < 0 || w >= wants().size()) {
            return UNKNOWN;
        }
        return what < 0 || what > 2 ? OUTSIDE : wants().get(w)[what];
    }

    int known(int h, int t) {
        return noHeir(h) || noThing(t) ? UNKNOWN : now.knows.getOrDefault(100 * h + t, NONE);
    }

    int logged(int i, int what) {
        if (what < 0 || what > 3) {
            return OUTSIDE;
        }
        return i < 0 || i >= now.log.size() ? NONE : now.log.get(i)[what];
    }

    private static boolean noHeir(int h) {
        return h < 0 || h > 2;
    }

    private boolean noThing(int t) {
        return t < 0 || t >= things();
    }

    // ---- deeds

    private void remember() {
        past.addLast(now.copy());
        if (past.size() > 30) {
            past.removeFirst();
        }
    }

    int hour(int n) {
        if (n < 1 || n > 30) {
            return OUTSIDE;
        }
        if (c == null) {
            return NOT;
        }
        for (int i = 0; i < n; i++) {
            remember();
            now.run(c, 1);
        }
        return now.hours;
    }

    int put(int t, int v) {
        if (noThing(t)) {
            return UNKNOWN;
        }
        if (v < 0 || v > 9) {
            return OUTSIDE;
        }
        remember();
        now.set(c, t, v);
        return now.holder(c);
    }

    int note(int h, int t) {
        if (noHeir(h) || noThing(t)) {
            return UNKNOWN;
        }
        if (now.holder(c) == h) {
            return NOT;
        }
        remember();
        now.knows.put(100 * h + t, now.value[t]);
        return now.value[t];
    }

    int eclipse(int n) {
        if (n < 0 || n > 24) {
            return OUTSIDE;
        }
        if (c == null) {
            return NOT;
        }
        remember();
        int was = now.eclipse;
        now.eclipse = n;
        return was;
    }

    private int draw(int n) {
        seed = Math.floorMod(seed * 1103515245L + 12345L, 1L << 31);
        return (int) (seed / 65536 % n);
    }

    int drift(int n) {
        if (n < 1 || n > 30) {
            return OUTSIDE;
        }
        if (c == null) {
            return NOT;
        }
        for (int i = 0; i < n; i++) {
            remember();
            int lot = draw(8);
            if (lot == 0 && things() > 0) {
                int t = draw(things());
                now.set(c, t, draw(10));
            }
            if (lot == 1) {
                now.eclipse = draw(4);
            }
            now.run(c, 1);
        }
        return now.hours;
    }

    int undo(int n) {
        if (n < 1 || n > 30) {
            return OUTSIDE;
        }
        if (n > past.size()) {
            return NOT;
        }
        for (int i = 0; i < n; i++) {
            now = past.removeLast();
        }
        return now.hours;
    }

    // ---- tried

    int whose(int n) {
        if (n < 0 || n > 240) {
            return OUTSIDE;
        }
        return c == null ? NOT : now.copy().run(c, n).holder(c);
    }

    int gets(int h, int n) {
        if (noHeir(h)) {
            return UNKNOWN;
        }
        if (n < 0 || n > 240) {
            return OUTSIDE;
        }
        return c == null ? 0 : now.copy().run(c, n).purse[h] - now.purse[h];
    }

    int willBe(int t, int n) {
        if (noThing(t)) {
            return UNKNOWN;
        }
        return n < 0 || n > 240 ? OUTSIDE : now.copy().run(c, n).value[t];
    }

    int next(int h) {
        if (noHeir(h)) {
            return UNKNOWN;
        }
        if (c == null) {
            return NOT;
        }
        State s = now.copy();
        for (int i = 0; i <= 48; i++) {
            if (s.holder(c) == h) {
                return i;
            }
            s.run(c, 1);
        }
        return NONE;
    }

    int keepSo(int h, int t, int v, int n, int what) {
        if (noHeir(h) || noThing(t)) {
            return UNKNOWN;
        }
        if (v < 0 || v > 9 || n < 1 || n > 48 || what < 0 || what > 1) {
            return OUTSIDE;
        }
        for (int k = 0; k < n; k++) {
            for (int start = 0; start < 10; start++) {
                State s = now.copy().run(c, k);
                s.set(c, t, start);
                boolean isHis = true;
                for (int i = k; i < n; i++) {
                    isHis &= s.holder(c) == h;
                    s.run(c, 1);
                }
                if (isHis && s.value[t] == v) {
                    return what == 0 ? k : start;
                }
            }
        }
        return NONE;
    }

    private int metOf(int t, int v) {
        return (int) wants().stream().filter(w -> w[1] == t && w[2] == v).count();
    }

    int agreed(int t) {
        if (t == NONE) {
            int sum = 0;
            for (int i = 0; i < things(); i++) {
                int most = 0;
                for (int v = 0; v < 10; v++) {
                    most = Math.max(most, metOf(i, v));
                }
                sum += most;
            }
            return sum;
        }
        if (noThing(t)) {
            return UNKNOWN;
        }
        int best = 9;
        for (int v = 8; v >= 0; v--) {
            best = metOf(t, v) >= metOf(t, best) ? v : best;
        }
        return metOf(t, best) == 0 ? NONE : best;
    }

    int against(int h, int k) {
        if (noHeir(h) || noHeir(k) || h == k) {
            return UNKNOWN;
        }
        int sum = 0;
        for (int a = 0; a < wants().size(); a++) {
            for (int b = a + 1; b < wants().size(); b++) {
                int[] p = wants().get(a);
                int[] q = wants().get(b);
                boolean isTheirs = p[0] == h && q[0] == k || p[0] == k && q[0] == h;
                sum += isTheirs && p[1] == q[1] && p[2] != q[2] ? 1 : 0;
            }
        }
        return sum;
    }

    int movers(int t, int x, int n) {
        if (noThing(t)) {
            return UNKNOWN;
        }
        if (x < 0 || x > 9 || n < 0 || n > 48) {
            return OUTSIDE;
        }
        if (n > now.hours) {
            return NOT;
        }
        State s = now.copy();
        s.eclipse = 0;
        s.hours -= n;
        s.value[t] = x;
        int set = 0;
        for (int i = 0; i < n; i++) {
            set |= 1 << s.holder(c);
            s.run(c, 1);
        }
        return s.value[t] == now.value[t] ? 0 : set;
    }

    int poorest(int what) {
        if (what < 0 || what > 1) {
            return OUTSIDE;
        }
        if (c == null) {
            return NOT;
        }
        TreeSet<Integer> days = new TreeSet<>();
        for (int day = 0; day < Math.max(1, c.seasons.size()); day++) {
            int dark = 0;
            for (int h = 0; h < 24; h++) {
                dark += c.lightHeir(24 * day + h) == 2 ? 1 : 0;
            }
            days.add(100 * dark + day);
        }
        return what == 0 ? days.first() % 100 : days.first() / 100;
    }

    int light(int what) {
        if (what < 0 || what > 1) {
            return OUTSIDE;
        }
        return c == null ? NOT : c.lightOf(now.hours)[what];
    }

    int child(int hour, int e) {
        if (hour < 0 || hour > 23 || e < 0 || e > 11) {
            return OUTSIDE;
        }
        if (c == null) {
            return NOT;
        }
        int set = 0;
        for (int h = 0; h < 24; h++) {
            int apart = Math.min(Math.abs(h - hour), 24 - Math.abs(h - hour));
            set |= apart <= e ? 1 << c.lightHeir(now.hours - now.hours % 24 + h) : 0;
        }
        return set;
    }

    int clear(int n, int q) {
        if (n < 0 || n > 60 || q < 0 || q > 100) {
            return OUTSIDE;
        }
        return n == 0 ? 1000000000 : (int) ((long) clear(n - 1, q) * q / 100);
    }

    // ---- what was found

    int find(int t, int v, boolean is) {
        if (noThing(t)) {
            return UNKNOWN;
        }
        if (v < 0 || v > 9) {
            return OUTSIDE;
        }
        if (found.size() == 6) {
            return FULL;
        }
        found.add(new int[] {t, v, is ? 1 : 0});
        return found.size();
    }

    /** The values of all things by each pair that fits. */
    private Map<Integer, int[]> worlds() {
        Map<Integer, int[]> worlds = new java.util.TreeMap<>();
        for (int t = 0; t < things(); t++) {
            for (int v = 0; v < 10; v++) {
                int[] world = now.value.clone();
                world[t] = v;
                if (found.stream().allMatch(f -> world[f[0]] == f[1] == (f[2] == 1))) {
                    worlds.put(10 * t + v, world);
                }
            }
        }
        return worlds;
    }

    int fits(int what) {
        if (what < 0 || what > 1) {
            return OUTSIDE;
        }
        Map<Integer, int[]> worlds = worlds();
        return what == 0 ? worlds.size() : worlds.isEmpty() ? NONE : worlds.keySet().iterator().next();
    }

    int lookAt() {
        Map<Integer, int[]> worlds = worlds();
        TreeSet<Integer> ranks = new TreeSet<>();
        for (int t = 0; t < things(); t++) {
            Map<Integer, Integer> parts = new HashMap<>();
            for (int[] world : worlds.values()) {
                parts.merge(world[t], 1, Integer::sum);
            }
            if (parts.size() > 1) {
                ranks.add(100 * parts.values().stream().max(Integer::compare).get() + t);
            }
        }
        return ranks.isEmpty() ? NONE : ranks.first() % 100;
    }

    int write(int t, int v) {
        if (noThing(t)) {
            return UNKNOWN;
        }
        if (v < 0 || v > 9) {
            return OUTSIDE;
        }
        if (book.size() == 20) {
            return FULL;
        }
        book.add(new int[] {t, v});
        return book.size();
    }

    int judge() {
        for (int[] entry : book) {
            if (now.value[entry[0]] != entry[1]) {
                return book.indexOf(entry);
            }
        }
        return NONE;
    }

    int tear() {
        int had = found.size() + book.size();
        found.clear();
        book.clear();
        return had;
    }

    // ---- images

    int seed(int v) {
        if (v < 0) {
            return OUTSIDE;
        }
        int was = (int) seed;
        seed = v;
        return was;
    }

    int keep(int i) {
        if (i != 0 && i != 1) {
            return UNKNOWN;
        }
        images[i] = now.copy();
        imageSeeds[i] = seed;
        past.clear();
        return 1;
    }

    int goBack(int i) {
        if (i != 0 && i != 1) {
            return UNKNOWN;
        }
        if (images[i] == null) {
            return NOT;
        }
        now = images[i].copy();
        seed = imageSeeds[i];
        past.clear();
        return 1;
    }
}
