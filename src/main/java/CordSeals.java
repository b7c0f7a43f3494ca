/** A collection of seals: which years are possible for them, which of them are fakes, and why. */
public final class CordSeals {
    public static final int NONE = -1;

    private static final int FIRST_YEAR = 1000;
    private static final int LAST_YEAR = 1999;
    private static final int MOST_REIGNS = 10;
    private static final int COLOURS = 8;
    private static final int MOST_DIES = 10;
    private static final int HOUSES = 6;
    private static final int MOST_CRACKS = 4;
    private static final int MOST_SEALS = 24;
    private static final int MATERIALS = 2;
    private static final int WAX = 0;
    private static final int LEAD = 1;
    private static final int MOST_BUBBLES = 99;
    private static final int CHARTERS = 6;
    private static final int SHELVES = 6;
    private static final int PLACES = 6;
    private static final int MOST_REMEMBERED = 14;
    private static final int MOST_SIGNS = 120;
    private static final int SLOTS = 2;
    private static final int MOST_COMMANDS = 3;
    private static final long GROUP = 1000000L;
    private static final int MOST_TURNS = 60;

    private static final int CAST = 1;
    private static final int WRONG_COLOUR = 2;
    private static final int NO_YEAR = 3;
    private static final int NO_CHARTER_YEAR = 4;

    // What the actions of a state answer in place of an exception: their other answers are 0 or more,
    // so scripts and simulations can go on behind a failure without making an object for it.
    private static final int NO_SUCH = -2;
    private static final int OUT_OF_RANGE = -3;
    private static final int NOT_NOW = -4;

    private final Text text = new Text();
    private final Judge judge = new Judge();
    private final Memory memory = new Memory();
    private final State[] slots = new State[SLOTS];
    private final boolean[] saved = new boolean[SLOTS];
    private State state = new State();
    private State trial = new State();

    public CordSeals() {
        for (int i = 0; i < SLOTS; i++) {
            slots[i] = new State();
        }
    }

    // ---- text

    public int append(int c) throws IllegalArgumentException, IllegalStateException {
        mustFit(c >= 0 && c <= 255);
        mustBeFree(text.length < MOST_SIGNS);
        return text.add((char) c);
    }

    public int clearText() {
        return text.makeEmpty();
    }

    public int errorPosition() {
        return text.firstError();
    }

    public int load() throws IllegalStateException {
        mustBeFree(text.firstError() == NONE);
        state.makeEmpty();
        memory.forget();
        for (int i = 0; i < SLOTS; i++) {
            saved[i] = false;
        }
        return enterText();
    }

    private int enterText() {
        int leftOut = 0;
        text.toStart();
        for (int entries = 0; entries < MOST_SIGNS && text.readNext(); entries++) {
            if (state.enter(text) < 0) {
                leftOut++;
            }
        }
        return leftOut;
    }

    // ---- what there is

    public int about(int what) throws IllegalArgumentException {
        mustFit(what >= 0 && what <= 8);
        judge.look(state);
        switch (what) {
            case 0: return state.reigns.count;
            case 1: return state.dies.count;
            case 2: return state.seals.count;
            case 3: return judge.fakes(state);
            case 4: return judge.casts(state);
            case 5: return state.seals.hanging();
            case 6: return judge.chartersWithFakes(state);
            case 7: return state.shelves.filled();
            default: return judge.badShelves(state);
        }
    }

    public int ofReign(int r, int what) throws IndexOutOfBoundsException, IllegalArgumentException {
        mustExist(r >= 0 && r < state.reigns.count);
        mustFit(what >= 0 && what <= 2);
        switch (what) {
            case 0: return state.reigns.begin[r];
            case 1: return state.reigns.endOf(r);
            default: return state.reigns.colours[r];
        }
    }

    public int ofDie(int d, int what) throws IndexOutOfBoundsException, IllegalArgumentException {
        mustExist(state.dies.has(d));
        mustFit(what >= 0 && what <= 5);
        switch (what) {
            case 0: return state.dies.house[d];
            case 1: return state.dies.from[d];
            case 2: return state.dies.to[d];
            case 3: return state.dies.cracks[d];
            case 4: return state.seals.ofOneDie(d);
            default:
                judge.look(state);
                return judge.fakesOfDie(state, d);
        }
    }

    public int crackYear(int d, int k) throws IndexOutOfBoundsException {
        mustExist(state.dies.has(d));
        mustExist(k >= 0 && k < state.dies.cracks[d]);
        return state.dies.yearOfCrack(d, k);
    }

    public int ofSeal(int s, int what) throws IndexOutOfBoundsException, IllegalArgumentException {
        mustExist(state.seals.has(s));
        mustFit(what >= 0 && what <= 7);
        switch (what) {
            case 0: return state.seals.die[s];
            case 1: return state.seals.material[s];
            case 2: return state.seals.colour[s];
            case 3: return state.seals.bubbles[s];
            case 4: return state.seals.shown[s];
            case 5: return state.seals.hangsOn[s];
            case 6: return state.shelves.shelfOf(s);
            default: return state.shelves.placeOf(s);
        }
    }

    public int dated(int s, int what) throws IndexOutOfBoundsException, IllegalArgumentException {
        mustExist(state.seals.has(s));
        mustFit(what >= 0 && what <= 3);
        judge.look(state);
        switch (what) {
            case 0: return judge.first[s];
            case 1: return judge.ofSeals[s].last(state.reigns);
            case 2: return judge.ofSeals[s].count(state.reigns);
            default: return judge.reason[s];
        }
    }

    public boolean isPossible(int s, int year) throws IndexOutOfBoundsException, IllegalArgumentException {
        mustExist(state.seals.has(s));
        mustFit(isYear(year));
        judge.look(state);
        return judge.ofSeals[s].contains(state.reigns, year);
    }

    public int charter(int c, int what) throws IndexOutOfBoundsException, IllegalArgumentException {
        mustExist(isCharter(c));
        mustFit(what >= 0 && what <= 4);
        judge.look(state);
        switch (what) {
            case 0: return state.seals.ofOneCharter(c);
            case 1: return judge.ofCharters[c].first(state.reigns);
            case 2: return judge.ofCharters[c].last(state.reigns);
            case 3: return judge.ofCharters[c].count(state.reigns);
            default: return judge.fakesOfCharter(state, c);
        }
    }

    public int onShelf(int h, int k) throws IndexOutOfBoundsException, IllegalArgumentException {
        mustExist(isShelf(h));
        mustFit(k >= 0);
        return k < state.shelves.count[h] ? state.shelves.at(h, k) : NONE;
    }

    // ---- actions

    public int reign(int year, int colours) throws IllegalArgumentException, IllegalStateException {
        return finish(freshTrial().addReign(year, colours));
    }

    public int die(int house, int from, int to) throws IllegalArgumentException, IllegalStateException {
        return finish(freshTrial().addDie(house, from, to));
    }

    public int crack(int d, int year)
            throws IndexOutOfBoundsException, IllegalArgumentException, IllegalStateException {
        return finish(freshTrial().addCrack(d, year));
    }

    public int seal(int d, int material, int colour, int bubbles, int cracks)
            throws IndexOutOfBoundsException, IllegalArgumentException, IllegalStateException {
        return finish(freshTrial().addSeal(d, material, colour, bubbles, cracks));
    }

    public int show(int s, int cracks) throws IndexOutOfBoundsException, IllegalArgumentException {
        return finish(freshTrial().showCracks(s, cracks));
    }

    public int hang(int s, int c) throws IndexOutOfBoundsException {
        return finish(freshTrial().hangOn(s, c));
    }

    public int cut(int s) throws IndexOutOfBoundsException, IllegalStateException {
        return finish(freshTrial().cutOff(s));
    }

    public int shelve(int s, int h, int k)
            throws IndexOutOfBoundsException, IllegalArgumentException, IllegalStateException {
        return finish(freshTrial().putOnShelf(s, h, k));
    }

    public int take(int s) throws IndexOutOfBoundsException, IllegalStateException {
        return finish(freshTrial().takeOff(s));
    }

    public int sort(int h) throws IndexOutOfBoundsException {
        return finish(judge.sortShelf(freshTrial(), h));
    }

    public int set(int what, int v) throws IllegalArgumentException {
        return finish(freshTrial().change(what, v));
    }

    public int undo() throws IllegalStateException {
        mustBeFree(memory.count > 0);
        state = memory.recall(state);
        return memory.count;
    }

    private State freshTrial() {
        trial.copy(state);
        return trial;
    }

    // An action is done on the trial, so that the present state itself can be remembered without a copy.
    private int finish(int answer) {
        mustBeAnswer(answer);
        State before = state;
        state = trial;
        trial = memory.remember(before);
        return answer;
    }

    // ---- what would be

    public int older(int s, int t) throws IndexOutOfBoundsException {
        mustExist(state.seals.has(s) && state.seals.has(t));
        judge.look(state);
        if (judge.isAhead(state, s, t)) {
            return s;
        }
        return judge.isAhead(state, t, s) ? t : NONE;
    }

    public int decides(int c) throws IndexOutOfBoundsException {
        mustExist(isCharter(c));
        judge.look(state);
        return judge.decider(state, c);
    }

    public int ifCracked(int d, int year)
            throws IndexOutOfBoundsException, IllegalArgumentException, IllegalStateException {
        mustBeAnswer(freshTrial().addCrack(d, year));
        return judge.fakesIn(trial) - judge.fakesIn(state);
    }

    public int ifHung(int s, int c) throws IndexOutOfBoundsException {
        mustBeAnswer(freshTrial().hangOn(s, c));
        judge.look(trial);
        return judge.ofCharters[c].count(trial.reigns);
    }

    public int inYear(int year) throws IllegalArgumentException {
        mustFit(isYear(year));
        judge.look(state);
        return judge.genuineIn(state, year);
    }

    public int leastBubbles(int material, int fakes) throws IllegalArgumentException {
        mustFit(isMaterial(material) && fakes >= 0);
        freshTrial();
        judge.date(trial);
        for (int v = 0; v <= MOST_BUBBLES; v++) {
            if (mayTellMore(material, v) && fakesWith(material, v) <= fakes) {
                return v;
            }
        }
        return NONE;
    }

    // A setting tells other casts than the one below it only if a seal has just as many bubbles.
    private boolean mayTellMore(int material, int v) {
        return v == 0 || trial.seals.haveBubbles(material, v);
    }

    private int fakesWith(int material, int v) {
        trial.settings[material] = v;
        judge.blame(trial);
        return judge.fakes(trial);
    }

    // ---- scripts, simulations

    public int runScript(int n, long script) throws IllegalArgumentException {
        mustFit(n >= 1 && n <= MOST_COMMANDS);
        long weight = 1;
        for (int i = 0; i < n; i++) {
            weight *= GROUP;
        }
        mustFit(script >= 0 && script < weight);
        freshTrial();
        for (int i = 0; i < n; i++) {
            weight /= GROUP;
            if (!succeeds((int) (script / weight % GROUP))) {
                return i;
            }
        }
        return NONE;
    }

    private boolean succeeds(int group) {
        int second = group / 10000 % 10;
        int seal = group / 1000 % 100;
        int fourth = group / 100 % 10;
        switch (group / 100000) {
            case 1: return trial.addCrack(second, group % 10000) >= 0;
            case 2: return group % 100 == 0 && trial.hangOn(seal, fourth) >= 0;
            case 3: return group % 1000 == 0 && trial.cutOff(seal) >= 0;
            case 4: return group % 10 == 0 && trial.putOnShelf(seal, fourth, group / 10 % 10) >= 0;
            case 5: return group % 10 == 0 && trial.showCracks(seal, group / 10 % 100) >= 0;
            case 6: return group % 10000 == 0 && judge.sortShelf(trial, second) >= 0;
            case 7: return group % 100 == 0 && trial.change(second, group / 100 % 100) >= 0;
            case 8: return group / 100 % 1000 == 0 && judge.fakesIn(trial) <= group % 100;
            case 9: return group / 10 % 100 == 0 && isFakeBy(seal, group % 10);
            default: return false;
        }
    }

    private boolean isFakeBy(int s, int reason) {
        if (!trial.seals.has(s)) {
            return false;
        }
        judge.look(trial);
        return judge.reason[s] == reason;
    }

    public int simulate(long seed, int m) throws IllegalArgumentException {
        mustFit(m >= 1 && m <= MOST_TURNS);
        freshTrial();
        long x = seed;
        for (int i = 0; i < m; i++) {
            x = x * 6364136223846793005L + 1442695040888963407L;
            int r = (int) (x >>> 33);
            takeTurn(r % 8, r / 8);
        }
        judge.look(trial);
        return 1000 * trial.seals.count + 10 * judge.fakes(trial) + judge.badShelves(trial);
    }

    private int takeTurn(int kind, int q) {
        switch (kind) {
            case 2: return trial.addCrack(q % 10, FIRST_YEAR + q / 16 % 1000);
            case 3: return trial.showCracks(q % 24, q / 32 % 16);
            case 4: return trial.hangOn(q % 24, q / 32 % 6);
            case 5: return trial.putOnShelf(q % 24, q / 32 % 6, 0);
            case 6: return trial.cutOff(q % 24);
            case 7: return judge.sortShelf(trial, q % 6);
            default: return trial.addSeal(q % 10, q / 16 % 2, q / 32 % 9 - 1, q / 512 % 20, 0);
        }
    }

    // ---- save slots

    public int save(int slot) throws IndexOutOfBoundsException {
        mustExist(isSlot(slot));
        slots[slot].copy(state);
        saved[slot] = true;
        return state.seals.count;
    }

    public int restore(int slot) throws IndexOutOfBoundsException, IllegalStateException {
        mustExist(isSlot(slot));
        mustBeFree(saved[slot]);
        state.copy(slots[slot]);
        memory.forget();
        return state.seals.count;
    }

    // ---- ranges and exceptions

    private static boolean isYear(int year) {
        return year >= FIRST_YEAR && year <= LAST_YEAR;
    }

    private static boolean isMaterial(int material) {
        return material >= 0 && material < MATERIALS;
    }

    private static boolean isBubbles(int bubbles) {
        return bubbles >= 0 && bubbles <= MOST_BUBBLES;
    }

    private static boolean isCharter(int c) {
        return c >= 0 && c < CHARTERS;
    }

    private static boolean isShelf(int h) {
        return h >= 0 && h < SHELVES;
    }

    private static boolean isSlot(int slot) {
        return slot >= 0 && slot < SLOTS;
    }

    private static void mustExist(boolean exists) {
        if (!exists) {
            throw new IndexOutOfBoundsException("there is no such thing");
        }
    }

    private static void mustFit(boolean fits) {
        if (!fits) {
            throw new IllegalArgumentException("an argument is out of its range");
        }
    }

    private static void mustBeFree(boolean free) {
        if (!free) {
            throw new IllegalStateException("this can't be done now");
        }
    }

    private static void mustBeAnswer(int answer) {
        mustExist(answer != NO_SUCH);
        mustFit(answer != OUT_OF_RANGE);
        mustBeFree(answer != NOT_NOW);
    }

    /**
     * The reigns. They cut the years into spans: span 0 is ahead of all reigns (it may be empty), and span
     * i + 1 is reign i.
     */
    private static final class Reigns {
        int count;
        final int[] begin = new int[MOST_REIGNS];
        final int[] colours = new int[MOST_REIGNS];

        void copy(Reigns other) {
            count = other.count;
            System.arraycopy(other.begin, 0, begin, 0, MOST_REIGNS);
            System.arraycopy(other.colours, 0, colours, 0, MOST_REIGNS);
        }

        boolean isBehindAll(int year) {
            return count == 0 || year > begin[count - 1];
        }

        int endOf(int r) {
            return lastOfSpan(r + 1);
        }

        int firstOfSpan(int i) {
            return i == 0 ? FIRST_YEAR : begin[i - 1];
        }

        int lastOfSpan(int i) {
            return i == count ? LAST_YEAR : begin[i] - 1;
        }

        int spanOf(int year) {
            int i = 0;
            while (i < count && begin[i] <= year) {
                i++;
            }
            return i;
        }

        int rightSpans(int colour) {
            if (colour == NONE) {
                return (1 << (count + 1)) - 1;
            }
            int spans = 0;
            for (int r = 0; r < count; r++) {
                if ((colours[r] >> colour & 1) != 0) {
                    spans |= 1 << (r + 1);
                }
            }
            return spans;
        }
    }

    private static final class Dies {
        int count;
        final int[] house = new int[MOST_DIES];
        final int[] from = new int[MOST_DIES];
        final int[] to = new int[MOST_DIES];
        final int[] cracks = new int[MOST_DIES];
        final int[] crackYears = new int[MOST_DIES * MOST_CRACKS];

        void copy(Dies other) {
            count = other.count;
            System.arraycopy(other.house, 0, house, 0, MOST_DIES);
            System.arraycopy(other.from, 0, from, 0, MOST_DIES);
            System.arraycopy(other.to, 0, to, 0, MOST_DIES);
            System.arraycopy(other.cracks, 0, cracks, 0, MOST_DIES);
            System.arraycopy(other.crackYears, 0, crackYears, 0, MOST_DIES * MOST_CRACKS);
        }

        boolean has(int d) {
            return d >= 0 && d < count;
        }

        boolean hasCracks(int d, int set) {
            return set >= 0 && set < 1 << cracks[d];
        }

        int yearOfCrack(int d, int k) {
            return crackYears[d * MOST_CRACKS + k];
        }

        boolean crackedIn(int d, int year) {
            for (int k = 0; k < cracks[d]; k++) {
                if (yearOfCrack(d, k) == year) {
                    return true;
                }
            }
            return false;
        }

        int firstYear(int d, int shown) {
            int year = from[d];
            for (int k = 0; k < cracks[d]; k++) {
                if ((shown >> k & 1) != 0) {
                    year = Math.max(year, yearOfCrack(d, k));
                }
            }
            return year;
        }

        int lastYear(int d, int shown) {
            int year = to[d];
            for (int k = 0; k < cracks[d]; k++) {
                if ((shown >> k & 1) == 0) {
                    year = Math.min(year, yearOfCrack(d, k));
                }
            }
            return year;
        }
    }

    private static final class Seals {
        int count;
        final int[] die = new int[MOST_SEALS];
        final int[] material = new int[MOST_SEALS];
        final int[] colour = new int[MOST_SEALS];
        final int[] bubbles = new int[MOST_SEALS];
        final int[] shown = new int[MOST_SEALS];
        final int[] hangsOn = new int[MOST_SEALS];

        void copy(Seals other) {
            count = other.count;
            System.arraycopy(other.die, 0, die, 0, MOST_SEALS);
            System.arraycopy(other.material, 0, material, 0, MOST_SEALS);
            System.arraycopy(other.colour, 0, colour, 0, MOST_SEALS);
            System.arraycopy(other.bubbles, 0, bubbles, 0, MOST_SEALS);
            System.arraycopy(other.shown, 0, shown, 0, MOST_SEALS);
            System.arraycopy(other.hangsOn, 0, hangsOn, 0, MOST_SEALS);
        }

        boolean has(int s) {
            return s >= 0 && s < count;
        }

        int ofOneDie(int d) {
            int found = 0;
            for (int s = 0; s < count; s++) {
                if (die[s] == d) {
                    found++;
                }
            }
            return found;
        }

        int ofOneCharter(int c) {
            int found = 0;
            for (int s = 0; s < count; s++) {
                if (hangsOn[s] == c) {
                    found++;
                }
            }
            return found;
        }

        boolean haveBubbles(int ofMaterial, int number) {
            for (int s = 0; s < count; s++) {
                if (material[s] == ofMaterial && bubbles[s] == number) {
                    return true;
                }
            }
            return false;
        }

        int hanging() {
            return count - ofOneCharter(NONE);
        }
    }

    private static final class Shelves {
        final int[] count = new int[SHELVES];
        final int[] seals = new int[SHELVES * PLACES];

        void copy(Shelves other) {
            System.arraycopy(other.count, 0, count, 0, SHELVES);
            System.arraycopy(other.seals, 0, seals, 0, SHELVES * PLACES);
        }

        void makeEmpty() {
            for (int h = 0; h < SHELVES; h++) {
                count[h] = 0;
            }
        }

        int at(int h, int k) {
            return seals[h * PLACES + k];
        }

        void put(int h, int k, int s) {
            seals[h * PLACES + k] = s;
        }

        int filled() {
            int found = 0;
            for (int h = 0; h < SHELVES; h++) {
                found += count[h];
            }
            return found;
        }

        int placeOn(int h, int s) {
            for (int k = 0; k < count[h]; k++) {
                if (at(h, k) == s) {
                    return k;
                }
            }
            return NONE;
        }

        int shelfOf(int s) {
            for (int h = 0; h < SHELVES; h++) {
                if (placeOn(h, s) != NONE) {
                    return h;
                }
            }
            return NONE;
        }

        int placeOf(int s) {
            int h = shelfOf(s);
            return h == NONE ? NONE : placeOn(h, s);
        }

        int others(int h, int s) {
            return placeOn(h, s) == NONE ? count[h] : count[h] - 1;
        }

        void remove(int s) {
            int h = shelfOf(s);
            if (h == NONE) {
                return;
            }
            for (int k = placeOn(h, s) + 1; k < count[h]; k++) {
                put(h, k - 1, at(h, k));
            }
            count[h]--;
        }

        void insert(int h, int place, int s) {
            for (int k = count[h]; k > place; k--) {
                put(h, k, at(h, k - 1));
            }
            put(h, place, s);
            count[h]++;
        }
    }

    /** What actions change and undo brings back; an action that answers less than 0 changes nothing. */
    private static final class State {
        final Reigns reigns = new Reigns();
        final Dies dies = new Dies();
        final Seals seals = new Seals();
        final Shelves shelves = new Shelves();
        final int[] settings = new int[MATERIALS];

        State() {
            makeEmpty();
        }

        void makeEmpty() {
            reigns.count = 0;
            dies.count = 0;
            seals.count = 0;
            shelves.makeEmpty();
            settings[WAX] = 10;
            settings[LEAD] = 3;
        }

        void copy(State other) {
            reigns.copy(other.reigns);
            dies.copy(other.dies);
            seals.copy(other.seals);
            shelves.copy(other.shelves);
            System.arraycopy(other.settings, 0, settings, 0, MATERIALS);
        }

        int enter(Text entry) {
            switch (entry.kind) {
                case 'r': return addReign(entry.year, entry.set);
                case 'd': return addDie(entry.number, entry.year, entry.lastYear);
                case 'k': return addCrack(entry.number, entry.year);
                case 'w': return addSeal(entry.number, WAX, entry.colour, entry.bubbles, entry.set);
                case 'b': return addSeal(entry.number, LEAD, entry.colour, entry.bubbles, entry.set);
                default: return hangOn(entry.number, entry.hangsOn);
            }
        }

        int addReign(int year, int colours) {
            if (!isYear(year) || colours < 1 || colours >= 1 << COLOURS) {
                return OUT_OF_RANGE;
            }
            if (reigns.count >= MOST_REIGNS || !reigns.isBehindAll(year)) {
                return NOT_NOW;
            }
            reigns.begin[reigns.count] = year;
            reigns.colours[reigns.count] = colours;
            return reigns.count++;
        }

        int addDie(int house, int from, int to) {
            if (house < 0 || house >= HOUSES || !isYear(from) || !isYear(to) || to < from) {
                return OUT_OF_RANGE;
            }
            if (dies.count >= MOST_DIES) {
                return NOT_NOW;
            }
            dies.house[dies.count] = house;
            dies.from[dies.count] = from;
            dies.to[dies.count] = to;
            dies.cracks[dies.count] = 0;
            return dies.count++;
        }

        int addCrack(int d, int year) {
            if (!dies.has(d)) {
                return NO_SUCH;
            }
            if (!isYear(year)) {
                return OUT_OF_RANGE;
            }
            if (dies.cracks[d] >= MOST_CRACKS || dies.crackedIn(d, year)) {
                return NOT_NOW;
            }
            dies.crackYears[d * MOST_CRACKS + dies.cracks[d]] = year;
            return dies.cracks[d]++;
        }

        int addSeal(int d, int material, int colour, int bubbles, int cracks) {
            if (!dies.has(d)) {
                return NO_SUCH;
            }
            if (!isMaterial(material) || colour < NONE || colour >= COLOURS
                    || !isBubbles(bubbles) || !dies.hasCracks(d, cracks)) {
                return OUT_OF_RANGE;
            }
            if (seals.count >= MOST_SEALS) {
                return NOT_NOW;
            }
            seals.die[seals.count] = d;
            seals.material[seals.count] = material;
            seals.colour[seals.count] = colour;
            seals.bubbles[seals.count] = bubbles;
            seals.shown[seals.count] = cracks;
            seals.hangsOn[seals.count] = NONE;
            return seals.count++;
        }

        int showCracks(int s, int cracks) {
            if (!seals.has(s)) {
                return NO_SUCH;
            }
            if (!dies.hasCracks(seals.die[s], cracks)) {
                return OUT_OF_RANGE;
            }
            int previous = seals.shown[s];
            seals.shown[s] = cracks;
            return previous;
        }

        int hangOn(int s, int c) {
            if (!seals.has(s) || !isCharter(c)) {
                return NO_SUCH;
            }
            seals.hangsOn[s] = c;
            return seals.ofOneCharter(c);
        }

        int cutOff(int s) {
            if (!seals.has(s)) {
                return NO_SUCH;
            }
            int c = seals.hangsOn[s];
            if (c == NONE) {
                return NOT_NOW;
            }
            seals.hangsOn[s] = NONE;
            return c;
        }

        int putOnShelf(int s, int h, int k) {
            if (!seals.has(s) || !isShelf(h)) {
                return NO_SUCH;
            }
            int others = shelves.others(h, s);
            if (k < 0 || k > others) {
                return OUT_OF_RANGE;
            }
            if (others >= PLACES || hasOtherHouse(h, s)) {
                return NOT_NOW;
            }
            shelves.remove(s);
            shelves.insert(h, k, s);
            return shelves.count[h];
        }

        private boolean hasOtherHouse(int h, int s) {
            for (int k = 0; k < shelves.count[h]; k++) {
                if (houseOf(shelves.at(h, k)) != houseOf(s)) {
                    return true;
                }
            }
            return false;
        }

        private int houseOf(int s) {
            return dies.house[seals.die[s]];
        }

        int takeOff(int s) {
            if (!seals.has(s)) {
                return NO_SUCH;
            }
            int h = shelves.shelfOf(s);
            if (h == NONE) {
                return NOT_NOW;
            }
            shelves.remove(s);
            return h;
        }

        int change(int what, int v) {
            if (!isMaterial(what) || !isBubbles(v)) {
                return OUT_OF_RANGE;
            }
            int previous = settings[what];
            settings[what] = v;
            return previous;
        }
    }

    /** A set of years: those from low to high that are in one of its spans. */
    private static final class Years {
        private int low;
        private int high;
        private int spans;

        void start(int from, int to, int rightSpans) {
            low = from;
            high = to;
            spans = rightSpans;
        }

        void copy(Years other) {
            low = other.low;
            high = other.high;
            spans = other.spans;
        }

        void narrow(Years other) {
            low = Math.max(low, other.low);
            high = Math.min(high, other.high);
            spans &= other.spans;
        }

        private boolean hasSpan(int i) {
            return (spans >> i & 1) != 0;
        }

        int first(Reigns reigns) {
            for (int i = 0; i <= reigns.count; i++) {
                int from = Math.max(low, reigns.firstOfSpan(i));
                if (hasSpan(i) && from <= Math.min(high, reigns.lastOfSpan(i))) {
                    return from;
                }
            }
            return NONE;
        }

        int last(Reigns reigns) {
            for (int i = reigns.count; i >= 0; i--) {
                int to = Math.min(high, reigns.lastOfSpan(i));
                if (hasSpan(i) && to >= Math.max(low, reigns.firstOfSpan(i))) {
                    return to;
                }
            }
            return NONE;
        }

        int count(Reigns reigns) {
            int years = 0;
            for (int i = 0; i <= reigns.count; i++) {
                int from = Math.max(low, reigns.firstOfSpan(i));
                int to = Math.min(high, reigns.lastOfSpan(i));
                if (hasSpan(i) && from <= to) {
                    years += to - from + 1;
                }
            }
            return years;
        }

        boolean contains(Reigns reigns, int year) {
            return year >= low && year <= high && hasSpan(reigns.spanOf(year));
        }
    }

    /** Dates the seals of a state and finds the fakes among them; what it found holds for this state only. */
    private static final class Judge {
        final Years[] ofSeals = new Years[MOST_SEALS];
        final Years[] ofCharters = new Years[CHARTERS];
        final int[] reason = new int[MOST_SEALS];
        final int[] first = new int[MOST_SEALS];
        private final int[] before = new int[SHELVES * PLACES];
        private final Years common = new Years();

        Judge() {
            for (int s = 0; s < MOST_SEALS; s++) {
                ofSeals[s] = new Years();
            }
            for (int c = 0; c < CHARTERS; c++) {
                ofCharters[c] = new Years();
            }
        }

        void look(State state) {
            date(state);
            blame(state);
        }

        void date(State state) {
            Seals seals = state.seals;
            for (int s = 0; s < seals.count; s++) {
                int d = seals.die[s];
                int from = state.dies.firstYear(d, seals.shown[s]);
                int to = state.dies.lastYear(d, seals.shown[s]);
                ofSeals[s].start(from, to, state.reigns.rightSpans(seals.colour[s]));
                first[s] = ofSeals[s].first(state.reigns);
            }
        }

        // Needs the years that date() found; the settings may have been changed since then.
        void blame(State state) {
            for (int s = 0; s < state.seals.count; s++) {
                reason[s] = ownReason(state, s);
            }
            for (int c = 0; c < CHARTERS; c++) {
                findCommon(state, c, NONE);
                ofCharters[c].copy(common);
                if (common.first(state.reigns) == NONE) {
                    blameCharter(state, c);
                }
            }
        }

        private int ownReason(State state, int s) {
            if (state.seals.bubbles[s] > state.settings[state.seals.material[s]]) {
                return CAST;
            }
            if (ofSeals[s].spans == 0) {
                return WRONG_COLOUR;
            }
            return first[s] == NONE ? NO_YEAR : 0;
        }

        private void blameCharter(State state, int c) {
            for (int s = 0; s < state.seals.count; s++) {
                if (state.seals.hangsOn[s] == c && reason[s] == 0) {
                    reason[s] = NO_CHARTER_YEAR;
                }
            }
        }

        private boolean dates(State state, int s, int c) {
            return state.seals.hangsOn[s] == c && (reason[s] == 0 || reason[s] == NO_CHARTER_YEAR);
        }

        // A charter without seals that date it has no span, and so no year.
        private void findCommon(State state, int c, int without) {
            boolean found = false;
            common.start(FIRST_YEAR, LAST_YEAR, 0);
            for (int s = 0; s < state.seals.count; s++) {
                if (s != without && dates(state, s, c)) {
                    if (found) {
                        common.narrow(ofSeals[s]);
                    } else {
                        common.copy(ofSeals[s]);
                    }
                    found = true;
                }
            }
        }

        int decider(State state, int c) {
            int best = NONE;
            int most = NONE;
            for (int s = 0; s < state.seals.count; s++) {
                if (dates(state, s, c)) {
                    findCommon(state, c, s);
                    int years = common.count(state.reigns);
                    if (years > most) {
                        most = years;
                        best = s;
                    }
                }
            }
            return best;
        }

        boolean isAhead(State state, int s, int t) {
            int last = ofSeals[s].last(state.reigns);
            return last != NONE && last < first[t];
        }

        int fakesIn(State state) {
            look(state);
            return fakes(state);
        }

        int fakes(State state) {
            int found = 0;
            for (int s = 0; s < state.seals.count; s++) {
                if (reason[s] != 0) {
                    found++;
                }
            }
            return found;
        }

        int casts(State state) {
            int found = 0;
            for (int s = 0; s < state.seals.count; s++) {
                if (reason[s] == CAST) {
                    found++;
                }
            }
            return found;
        }

        int fakesOfDie(State state, int d) {
            int found = 0;
            for (int s = 0; s < state.seals.count; s++) {
                if (state.seals.die[s] == d && reason[s] != 0) {
                    found++;
                }
            }
            return found;
        }

        int fakesOfCharter(State state, int c) {
            int found = 0;
            for (int s = 0; s < state.seals.count; s++) {
                if (state.seals.hangsOn[s] == c && reason[s] != 0) {
                    found++;
                }
            }
            return found;
        }

        int chartersWithFakes(State state) {
            int found = 0;
            for (int c = 0; c < CHARTERS; c++) {
                if (fakesOfCharter(state, c) > 0) {
                    found++;
                }
            }
            return found;
        }

        int genuineIn(State state, int year) {
            int found = 0;
            for (int s = 0; s < state.seals.count; s++) {
                if (reason[s] == 0 && ofSeals[s].contains(state.reigns, year)) {
                    found++;
                }
            }
            return found;
        }

        int badShelves(State state) {
            int found = 0;
            for (int h = 0; h < SHELVES; h++) {
                if (!isGood(state, h)) {
                    found++;
                }
            }
            return found;
        }

        private boolean isGood(State state, int h) {
            int latest = FIRST_YEAR;
            for (int k = 0; k < state.shelves.count[h]; k++) {
                int s = state.shelves.at(h, k);
                if (reason[s] == 0 && first[s] < latest) {
                    return false;
                }
                if (reason[s] == 0) {
                    latest = first[s];
                }
            }
            return true;
        }

        int sortShelf(State state, int h) {
            if (!isShelf(h)) {
                return NO_SUCH;
            }
            look(state);
            int moved = 0;
            System.arraycopy(state.shelves.seals, 0, before, 0, SHELVES * PLACES);
            for (int k = 1; k < state.shelves.count[h]; k++) {
                sinkIn(state, h, k);
            }
            for (int k = 0; k < state.shelves.count[h]; k++) {
                if (before[h * PLACES + k] != state.shelves.at(h, k)) {
                    moved++;
                }
            }
            return moved;
        }

        // Passes later ones only, not equal ones, so that equal ones keep their order.
        private void sinkIn(State state, int h, int k) {
            int s = state.shelves.at(h, k);
            int place = k;
            while (place > 0 && rankOf(state.shelves.at(h, place - 1)) > rankOf(s)) {
                state.shelves.put(h, place, state.shelves.at(h, place - 1));
                place--;
            }
            state.shelves.put(h, place, s);
        }

        private int rankOf(int s) {
            return reason[s] == 0 ? first[s] : LAST_YEAR + 1;
        }
    }

    /** The remembered states, in a ring. Rows change hands with the caller, so that none is ever copied. */
    private static final class Memory {
        int count;
        private int oldest;
        private final State[] ring = new State[MOST_REMEMBERED];

        Memory() {
            for (int i = 0; i < MOST_REMEMBERED; i++) {
                ring[i] = new State();
            }
        }

        void forget() {
            count = 0;
        }

        /** Keeps a state and returns one that is not needed any more. */
        State remember(State before) {
            int i = (oldest + count) % MOST_REMEMBERED;
            State spare = ring[i];
            ring[i] = before;
            if (count < MOST_REMEMBERED) {
                count++;
            } else {
                oldest = (oldest + 1) % MOST_REMEMBERED;
            }
            return spare;
        }

        /** Gives back the last remembered state for one that is not needed any more. */
        State recall(State spare) {
            if (count == 0) {
                return spare;
            }
            count--;
            int i = (oldest + count) % MOST_REMEMBERED;
            State last = ring[i];
            ring[i] = spare;
            return last;
        }
    }

    /** The text buffer, and what the entry read last tells. */
    private static final class Text {
        int length;
        private final char[] signs = new char[MOST_SIGNS];
        private int at;
        private boolean failed;

        int kind;
        int number;
        int year;
        int lastYear;
        int colour;
        int bubbles;
        int set;
        int hangsOn;

        int add(char c) {
            if (length < MOST_SIGNS) {
                signs[length] = c;
                length++;
            }
            return length;
        }

        int makeEmpty() {
            int previous = length;
            length = 0;
            return previous;
        }

        int firstError() {
            toStart();
            int entries = 0;
            while (entries < MOST_SIGNS && readNext()) {
                entries++;
            }
            return failed ? at : NONE;
        }

        void toStart() {
            at = 0;
            failed = false;
        }

        /** Reads one entry; false if there is none left, or if a sign is not allowed: then at is its index. */
        boolean readNext() {
            if (at > 0 && at >= length) {
                return false;
            }
            if (at > 0) {
                readSign(';');
            }
            if (!failed) {
                readEntry();
            }
            return !failed;
        }

        private void readEntry() {
            kind = at < length ? signs[at] : ' ';
            switch (kind) {
                case 'r':
                    readReign();
                    break;
                case 'd':
                    readDie();
                    break;
                case 'k':
                    readCrack();
                    break;
                case 'w':
                case 'b':
                    readSeal();
                    break;
                case 'h':
                    readHanging();
                    break;
                default:
                    failed = true;
            }
        }

        private void readReign() {
            at++;
            year = readYear();
            set = readRising(COLOURS - 1);
            if (set == 0) {
                failed = true;
            }
        }

        private void readDie() {
            at++;
            number = readDigit(0, HOUSES - 1);
            year = readYear();
            readSign('-');
            lastYear = readYear();
        }

        private void readCrack() {
            at++;
            number = readDigit(0, MOST_DIES - 1);
            year = readYear();
        }

        private void readSeal() {
            at++;
            number = readDigit(0, MOST_DIES - 1);
            colour = readColour();
            bubbles = 10 * readDigit(0, 9);
            bubbles += readDigit(0, 9);
            set = readRising(MOST_CRACKS - 1);
        }

        private void readHanging() {
            at++;
            int tens = readDigit(0, (MOST_SEALS - 1) / 10);
            int most = tens == (MOST_SEALS - 1) / 10 ? (MOST_SEALS - 1) % 10 : 9;
            number = 10 * tens + readDigit(0, most);
            hangsOn = readDigit(0, CHARTERS - 1);
        }

        private int readYear() {
            int read = readDigit(1, 1);
            for (int i = 0; i < 3; i++) {
                read = 10 * read + readDigit(0, 9);
            }
            return read;
        }

        private int readColour() {
            if (!failed && at < length && signs[at] == '.') {
                at++;
                return NONE;
            }
            return readDigit(0, COLOURS - 1);
        }

        private int readDigit(int least, int most) {
            if (failed || !isDigit(least, most)) {
                failed = true;
                return 0;
            }
            at++;
            return signs[at - 1] - '0';
        }

        // Stops at the first sign that is no greater digit: what may stand there is for the caller to say.
        private int readRising(int most) {
            int read = 0;
            for (int digit = 0; digit <= most; digit++) {
                if (!failed && isDigit(digit, digit)) {
                    at++;
                    read |= 1 << digit;
                }
            }
            return read;
        }

        private boolean isDigit(int least, int most) {
            return at < length && signs[at] >= '0' + least && signs[at] <= '0' + most;
        }

        private void readSign(char sign) {
            if (failed || at >= length || signs[at] != sign) {
                failed = true;
                return;
            }
            at++;
        }
    }
}
