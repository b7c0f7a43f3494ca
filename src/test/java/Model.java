import java.util.ArrayDeque;
import java.util.ArrayList;
import java.util.Deque;
import java.util.List;
import java.util.regex.Matcher;
import java.util.regex.Pattern;

/** The document told a second time, as plainly as can be: year by year, with a new copy for every action. */
final class Model {
    static final Pattern COLLECTION = collection();

    static final class Die {
        int house;
        int from;
        int to;
        List<Integer> cracks = new ArrayList<>();
    }

    static final class Seal {
        int die;
        int material;
        int colour;
        int bubbles;
        int shows;
        int charter = -1;
    }

    static final class State {
        List<int[]> reigns = new ArrayList<>();
        List<Die> dies = new ArrayList<>();
        List<Seal> seals = new ArrayList<>();
        List<List<Integer>> shelves = new ArrayList<>();
        int[] settings = {10, 3};

        State() {
            for (int h = 0; h < 6; h++) {
                shelves.add(new ArrayList<>());
            }
        }

        State copy() {
            State c = new State();
            c.reigns.addAll(reigns);
            for (Die d : dies) {
                Die e = new Die();
                e.house = d.house;
                e.from = d.from;
                e.to = d.to;
                e.cracks.addAll(d.cracks);
                c.dies.add(e);
            }
            for (Seal s : seals) {
                Seal t = new Seal();
                t.die = s.die;
                t.material = s.material;
                t.colour = s.colour;
                t.bubbles = s.bubbles;
                t.shows = s.shows;
                t.charter = s.charter;
                c.seals.add(t);
            }
            for (int h = 0; h < 6; h++) {
                c.shelves.get(h).addAll(shelves.get(h));
            }
            c.settings = settings.clone();
            return c;
        }

        int[] reignOf(int year) {
            int[] in = null;
            for (int[] r : reigns) {
                if (r[0] <= year) {
                    in = r;
                }
            }
            return in;
        }

        boolean right(int colour, int year) {
            int[] in = reignOf(year);
            return in != null && (in[1] & 1 << colour) != 0;
        }

        boolean possible(int s, int year) {
            Seal seal = seals.get(s);
            Die die = dies.get(seal.die);
            if (year < die.from || year > die.to) {
                return false;
            }
            if (seal.colour >= 0 && !right(seal.colour, year)) {
                return false;
            }
            for (int k = 0; k < die.cracks.size(); k++) {
                boolean shown = (seal.shows & 1 << k) != 0;
                if (shown ? year < die.cracks.get(k) : year > die.cracks.get(k)) {
                    return false;
                }
            }
            return true;
        }

        List<Integer> years(int s) {
            List<Integer> all = new ArrayList<>();
            for (int y = 1000; y <= 1999; y++) {
                if (possible(s, y)) {
                    all.add(y);
                }
            }
            return all;
        }

        int ownFake(int s) {
            Seal seal = seals.get(s);
            if (seal.bubbles > settings[seal.material]) {
                return 1;
            }
            boolean someRight = seal.colour < 0;
            for (int y = 1000; y <= 1999 && !someRight; y++) {
                someRight = right(seal.colour, y);
            }
            if (!someRight) {
                return 2;
            }
            return years(s).isEmpty() ? 3 : 0;
        }

        List<Integer> honest(int c) {
            List<Integer> all = new ArrayList<>();
            for (int s = 0; s < seals.size(); s++) {
                if (seals.get(s).charter == c && ownFake(s) == 0) {
                    all.add(s);
                }
            }
            return all;
        }

        List<Integer> commonYears(List<Integer> some) {
            List<Integer> all = new ArrayList<>();
            if (some.isEmpty()) {
                return all;
            }
            all.addAll(years(some.get(0)));
            for (int s : some) {
                all.removeIf(y -> !possible(s, y));
            }
            return all;
        }

        int fake(int s) {
            int own = ownFake(s);
            int c = seals.get(s).charter;
            if (own == 0 && c >= 0 && commonYears(honest(c)).isEmpty()) {
                return 4;
            }
            return own;
        }

        int fakes() {
            int n = 0;
            for (int s = 0; s < seals.size(); s++) {
                n += fake(s) != 0 ? 1 : 0;
            }
            return n;
        }

        boolean good(int h) {
            List<Integer> shelf = shelves.get(h);
            for (int i = 0; i < shelf.size(); i++) {
                for (int j = i + 1; j < shelf.size(); j++) {
                    int a = shelf.get(i);
                    int b = shelf.get(j);
                    if (fake(a) == 0 && fake(b) == 0 && years(b).get(0) < years(a).get(0)) {
                        return false;
                    }
                }
            }
            return true;
        }

        int bad() {
            int n = 0;
            for (int h = 0; h < 6; h++) {
                n += good(h) ? 0 : 1;
            }
            return n;
        }

        int shelfOf(int s) {
            for (int h = 0; h < 6; h++) {
                if (shelves.get(h).contains(s)) {
                    return h;
                }
            }
            return -1;
        }

        int onCharter(int c) {
            return (int) seals.stream().filter(s -> s.charter == c).count();
        }

        void knowDie(int d) {
            index(d >= 0 && d < dies.size());
        }

        void knowSeal(int s) {
            index(s >= 0 && s < seals.size());
        }

        int reign(int year, int colours) {
            argument(year >= 1000 && year <= 1999 && colours >= 1 && colours <= 255);
            allowed(reigns.size() < 10);
            allowed(reigns.isEmpty() || reigns.get(reigns.size() - 1)[0] < year);
            reigns.add(new int[] {year, colours});
            return reigns.size() - 1;
        }

        int die(int house, int from, int to) {
            argument(house >= 0 && house <= 5 && from >= 1000 && from <= 1999 && to >= from && to <= 1999);
            allowed(dies.size() < 10);
            Die d = new Die();
            d.house = house;
            d.from = from;
            d.to = to;
            dies.add(d);
            return dies.size() - 1;
        }

        int crack(int d, int year) {
            knowDie(d);
            argument(year >= 1000 && year <= 1999);
            List<Integer> cracks = dies.get(d).cracks;
            allowed(cracks.size() < 4 && !cracks.contains(year));
            cracks.add(year);
            return cracks.size() - 1;
        }

        boolean hasAll(int d, int set) {
            return set >= 0 && set <= 15 && set >> dies.get(d).cracks.size() == 0;
        }

        int seal(int d, int material, int colour, int bubbles, int cracks) {
            knowDie(d);
            argument(material == 0 || material == 1);
            argument(colour >= -1 && colour <= 7);
            argument(bubbles >= 0 && bubbles <= 99);
            argument(hasAll(d, cracks));
            allowed(seals.size() < 24);
            Seal s = new Seal();
            s.die = d;
            s.material = material;
            s.colour = colour;
            s.bubbles = bubbles;
            s.shows = cracks;
            seals.add(s);
            return seals.size() - 1;
        }

        int show(int s, int cracks) {
            knowSeal(s);
            argument(hasAll(seals.get(s).die, cracks));
            int was = seals.get(s).shows;
            seals.get(s).shows = cracks;
            return was;
        }

        int hang(int s, int c) {
            knowSeal(s);
            index(c >= 0 && c <= 5);
            seals.get(s).charter = c;
            return onCharter(c);
        }

        int cut(int s) {
            knowSeal(s);
            int c = seals.get(s).charter;
            allowed(c >= 0);
            seals.get(s).charter = -1;
            return c;
        }

        int shelve(int s, int h, int k) {
            knowSeal(s);
            index(h >= 0 && h <= 5);
            List<Integer> others = new ArrayList<>(shelves.get(h));
            others.remove((Integer) s);
            argument(k >= 0 && k <= others.size());
            allowed(others.size() < 6);
            for (int o : others) {
                allowed(house(o) == house(s));
            }
            for (List<Integer> shelf : shelves) {
                shelf.remove((Integer) s);
            }
            shelves.get(h).add(k, s);
            return shelves.get(h).size();
        }

        int house(int s) {
            return dies.get(seals.get(s).die).house;
        }

        int take(int s) {
            knowSeal(s);
            int h = shelfOf(s);
            allowed(h >= 0);
            shelves.get(h).remove((Integer) s);
            return h;
        }

        int sort(int h) {
            index(h >= 0 && h <= 5);
            List<Integer> was = new ArrayList<>(shelves.get(h));
            List<Integer> now = shelves.get(h);
            now.sort((a, b) -> Integer.compare(rank(a), rank(b)));
            int moved = 0;
            for (int i = 0; i < was.size(); i++) {
                moved += was.get(i).equals(now.get(i)) ? 0 : 1;
            }
            return moved;
        }

        int rank(int s) {
            return fake(s) != 0 ? 9999 : years(s).get(0);
        }

        int set(int what, int v) {
            argument((what == 0 || what == 1) && v >= 0 && v <= 99);
            int was = settings[what];
            settings[what] = v;
            return was;
        }
    }

    State state = new State();
    Deque<State> remembered = new ArrayDeque<>();
    State[] slots = new State[2];
    StringBuilder text = new StringBuilder();

    static void index(boolean ok) {
        if (!ok) {
            throw new IndexOutOfBoundsException();
        }
    }

    static void argument(boolean ok) {
        if (!ok) {
            throw new IllegalArgumentException();
        }
    }

    static void allowed(boolean ok) {
        if (!ok) {
            throw new IllegalStateException();
        }
    }

    private static Pattern collection() {
        String year = "1[0-9][0-9][0-9]";
        StringBuilder rising = new StringBuilder();
        for (int first = 0; first <= 7; first++) {
            rising.append(first == 0 ? "(?:" : "|").append(first);
            for (int next = first + 1; next <= 7; next++) {
                rising.append(next).append('?');
            }
        }
        rising.append(')');
        String entry = "(?:r" + year + rising + "|d[0-5]" + year + "-" + year + "|k[0-9]" + year
                + "|[wb][0-9][0-7.][0-9][0-9]0?1?2?3?|h(?:[01][0-9]|2[0-3])[0-5])";
        return Pattern.compile(entry + "(?:;" + entry + ")*");
    }

    int errorPosition() {
        if (COLLECTION.matcher(text).matches()) {
            return -1;
        }
        for (int k = 1; k <= text.length(); k++) {
            Matcher m = COLLECTION.matcher(text.substring(0, k));
            if (!m.matches() && !m.hitEnd()) {
                return k - 1;
            }
        }
        return text.length();
    }

    int load() {
        allowed(errorPosition() == -1);
        state = new State();
        remembered.clear();
        slots = new State[2];
        int left = 0;
        for (String entry : text.toString().split(";")) {
            try {
                enter(entry);
            } catch (IndexOutOfBoundsException | IllegalArgumentException | IllegalStateException e) {
                left++;
            }
        }
        return left;
    }

    private void enter(String e) {
        int digit = e.charAt(1) - '0';
        switch (e.charAt(0)) {
            case 'r' -> state.reign(Integer.parseInt(e.substring(1, 5)), digits(e, 5));
            case 'd' -> state.die(digit, Integer.parseInt(e.substring(2, 6)), Integer.parseInt(e.substring(7)));
            case 'k' -> state.crack(digit, Integer.parseInt(e.substring(2)));
            case 'h' -> state.hang(Integer.parseInt(e.substring(1, 3)), e.charAt(3) - '0');
            default -> state.seal(digit, e.charAt(0) == 'w' ? 0 : 1, e.charAt(2) == '.' ? -1 : e.charAt(2) - '0',
                    Integer.parseInt(e.substring(3, 5)), digits(e, 5));
        }
    }

    private static int digits(String e, int from) {
        int set = 0;
        for (int i = from; i < e.length(); i++) {
            set += 1 << e.charAt(i) - '0';
        }
        return set;
    }

    private int act(java.util.function.ToIntFunction<State> action) {
        State next = state.copy();
        int answer = action.applyAsInt(next);
        remembered.addLast(state);
        if (remembered.size() > 14) {
            remembered.removeFirst();
        }
        state = next;
        return answer;
    }

    private static int some(List<Integer> years, int what) {
        if (what == 2) {
            return years.size();
        }
        return years.isEmpty() ? -1 : years.get(what == 0 ? 0 : years.size() - 1);
    }

    private int older(int s, int t) {
        state.knowSeal(s);
        state.knowSeal(t);
        List<Integer> a = state.years(s);
        List<Integer> b = state.years(t);
        if (a.isEmpty() || b.isEmpty()) {
            return -1;
        }
        if (some(a, 1) < some(b, 0)) {
            return s;
        }
        return some(b, 1) < some(a, 0) ? t : -1;
    }

    private int decides(int c) {
        index(c >= 0 && c <= 5);
        int best = -1;
        int most = -1;
        for (int s : state.honest(c)) {
            List<Integer> rest = state.honest(c);
            rest.remove((Integer) s);
            int years = state.commonYears(rest).size();
            if (years > most) {
                most = years;
                best = s;
            }
        }
        return best;
    }

    private int leastBubbles(int material, int fakes) {
        argument((material == 0 || material == 1) && fakes >= 0);
        for (int v = 0; v <= 99; v++) {
            State s = state.copy();
            s.settings[material] = v;
            if (s.fakes() <= fakes) {
                return v;
            }
        }
        return -1;
    }

    private int runScript(int n, long script) {
        argument(n >= 1 && n <= 3 && script >= 0 && Long.toString(script).length() <= 6 * n);
        String digits = "0".repeat(6 * n - Long.toString(script).length()) + script;
        State s = state.copy();
        for (int i = 0; i < n; i++) {
            if (!command(s, digits.substring(6 * i, 6 * i + 6))) {
                return i;
            }
        }
        return -1;
    }

    private static boolean command(State s, String g) {
        try {
            if (g.matches("1.....")) {
                s.crack(num(g, 1, 2), num(g, 2, 6));
            } else if (g.matches("2...00")) {
                s.hang(num(g, 1, 3), num(g, 3, 4));
            } else if (g.matches("3..000")) {
                s.cut(num(g, 1, 3));
            } else if (g.matches("4....0")) {
                s.shelve(num(g, 1, 3), num(g, 3, 4), num(g, 4, 5));
            } else if (g.matches("5....0")) {
                s.show(num(g, 1, 3), num(g, 3, 5));
            } else if (g.matches("6.0000")) {
                s.sort(num(g, 1, 2));
            } else if (g.matches("7...00")) {
                s.set(num(g, 1, 2), num(g, 2, 4));
            } else if (g.matches("8000..")) {
                return s.fakes() <= num(g, 4, 6);
            } else if (g.matches("9..00.")) {
                s.knowSeal(num(g, 1, 3));
                return s.fake(num(g, 1, 3)) == num(g, 5, 6);
            } else {
                return false;
            }
            return true;
        } catch (IndexOutOfBoundsException | IllegalArgumentException | IllegalStateException e) {
            return false;
        }
    }

    private static int num(String g, int from, int to) {
        return Integer.parseInt(g.substring(from, to));
    }

    private int simulate(long seed, int m) {
        argument(m >= 1 && m <= 60);
        State s = state.copy();
        long x = seed;
        for (int i = 0; i < m; i++) {
            x = x * 6364136223846793005L + 1442695040888963407L;
            int r = (int) (x >>> 33);
            int q = r / 8;
            try {
                switch (r % 8) {
                    case 0, 1 -> s.seal(q % 10, q / 16 % 2, q / 32 % 9 - 1, q / 512 % 20, 0);
                    case 2 -> s.crack(q % 10, 1000 + q / 16 % 1000);
                    case 3 -> s.show(q % 24, q / 32 % 16);
                    case 4 -> s.hang(q % 24, q / 32 % 6);
                    case 5 -> s.shelve(q % 24, q / 32 % 6, 0);
                    case 6 -> s.cut(q % 24);
                    default -> s.sort(q % 6);
                }
            } catch (IndexOutOfBoundsException | IllegalArgumentException | IllegalStateException e) {
                continue;
            }
        }
        return 1000 * s.seals.size() + 10 * s.fakes() + s.bad();
    }

    private int about(int what) {
        argument(what >= 0 && what <= 8);
        int n = 0;
        switch (what) {
            case 0: return state.reigns.size();
            case 1: return state.dies.size();
            case 2: return state.seals.size();
            case 3: return state.fakes();
            case 4:
                for (Seal s : state.seals) {
                    n += s.bubbles > state.settings[s.material] ? 1 : 0;
                }
                return n;
            case 5: return state.seals.size() - state.onCharter(-1);
            case 6:
                for (int c = 0; c < 6; c++) {
                    n += charter(c, 4) > 0 ? 1 : 0;
                }
                return n;
            case 7:
                for (List<Integer> shelf : state.shelves) {
                    n += shelf.size();
                }
                return n;
            default: return state.bad();
        }
    }

    private int charter(int c, int what) {
        index(c >= 0 && c <= 5);
        argument(what >= 0 && what <= 4);
        if (what == 0) {
            return state.onCharter(c);
        }
        if (what <= 3) {
            return some(state.commonYears(state.honest(c)), what - 1);
        }
        int n = 0;
        for (int s = 0; s < state.seals.size(); s++) {
            n += state.seals.get(s).charter == c && state.fake(s) != 0 ? 1 : 0;
        }
        return n;
    }

    private int ofReign(int r, int what) {
        index(r >= 0 && r < state.reigns.size());
        argument(what >= 0 && what <= 2);
        if (what == 1) {
            return r + 1 < state.reigns.size() ? state.reigns.get(r + 1)[0] - 1 : 1999;
        }
        return state.reigns.get(r)[what / 2];
    }

    private int ofDie(int d, int what) {
        state.knowDie(d);
        argument(what >= 0 && what <= 5);
        Die die = state.dies.get(d);
        if (what < 4) {
            return new int[] {die.house, die.from, die.to, die.cracks.size()}[what];
        }
        int n = 0;
        for (int s = 0; s < state.seals.size(); s++) {
            n += state.seals.get(s).die == d && (what == 4 || state.fake(s) != 0) ? 1 : 0;
        }
        return n;
    }

    private int ofSeal(int s, int what) {
        state.knowSeal(s);
        argument(what >= 0 && what <= 7);
        Seal seal = state.seals.get(s);
        int h = state.shelfOf(s);
        int place = h < 0 ? -1 : state.shelves.get(h).indexOf(s);
        return new int[] {seal.die, seal.material, seal.colour, seal.bubbles, seal.shows, seal.charter, h, place}[what];
    }

    private int inYear(int year) {
        argument(year >= 1000 && year <= 1999);
        int n = 0;
        for (int s = 0; s < state.seals.size(); s++) {
            n += state.fake(s) == 0 && state.possible(s, year) ? 1 : 0;
        }
        return n;
    }

    private int ifCracked(int d, int year) {
        State s = state.copy();
        s.crack(d, year);
        return s.fakes() - state.fakes();
    }

    private int ifHung(int s, int c) {
        State t = state.copy();
        t.hang(s, c);
        return t.commonYears(t.honest(c)).size();
    }

    private int undo() {
        allowed(!remembered.isEmpty());
        state = remembered.removeLast();
        return remembered.size();
    }

    private int save(int slot) {
        index(slot == 0 || slot == 1);
        slots[slot] = state.copy();
        return state.seals.size();
    }

    private int restore(int slot) {
        index(slot == 0 || slot == 1);
        allowed(slots[slot] != null);
        state = slots[slot].copy();
        remembered.clear();
        return state.seals.size();
    }

    private int append(int c) {
        argument(c >= 0 && c <= 255);
        allowed(text.length() < 120);
        text.append((char) c);
        return text.length();
    }

    private int clearText() {
        int was = text.length();
        text.setLength(0);
        return was;
    }

    long call(int method, int[] a, long wide) {
        switch (method) {
            case 2: return append(a[0]);
            case 3: return clearText();
            case 4: return errorPosition();
            case 5: return load();
            case 6: return about(a[0]);
            case 7: return ofReign(a[0], a[1]);
            case 8: return ofDie(a[0], a[1]);
            case 9:
                state.knowDie(a[0]);
                index(a[1] >= 0 && a[1] < state.dies.get(a[0]).cracks.size());
                return state.dies.get(a[0]).cracks.get(a[1]);
            case 10: return ofSeal(a[0], a[1]);
            case 11:
                state.knowSeal(a[0]);
                argument(a[1] >= 0 && a[1] <= 3);
                return a[1] == 3 ? state.fake(a[0]) : some(state.years(a[0]), a[1]);
            case 12:
                state.knowSeal(a[0]);
                argument(a[1] >= 1000 && a[1] <= 1999);
                return state.possible(a[0], a[1]) ? 1 : 0;
            case 13: return charter(a[0], a[1]);
            case 14:
                index(a[0] >= 0 && a[0] <= 5);
                argument(a[1] >= 0);
                return a[1] < state.shelves.get(a[0]).size() ? state.shelves.get(a[0]).get(a[1]) : -1;
            case 15: return act(s -> s.reign(a[0], a[1]));
            case 16: return act(s -> s.die(a[0], a[1], a[2]));
            case 17: return act(s -> s.crack(a[0], a[1]));
            case 18: return act(s -> s.seal(a[0], a[1], a[2], a[3], a[4]));
            case 19: return act(s -> s.show(a[0], a[1]));
            case 20: return act(s -> s.hang(a[0], a[1]));
            case 21: return act(s -> s.cut(a[0]));
            case 22: return act(s -> s.shelve(a[0], a[1], a[2]));
            case 23: return act(s -> s.take(a[0]));
            case 24: return act(s -> s.sort(a[0]));
            case 25: return act(s -> s.set(a[0], a[1]));
            case 26: return undo();
            case 27: return older(a[0], a[1]);
            case 28: return decides(a[0]);
            case 29: return ifCracked(a[0], a[1]);
            case 30: return ifHung(a[0], a[1]);
            case 31: return inYear(a[0]);
            case 32: return leastBubbles(a[0], a[1]);
            case 33: return runScript(a[0], wide);
            case 34: return simulate(wide, a[0]);
            case 35: return save(a[0]);
            case 36: return restore(a[0]);
            default: throw new IllegalStateException("no promise " + method);
        }
    }
}
