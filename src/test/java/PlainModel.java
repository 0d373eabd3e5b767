import java.util.ArrayList;
import java.util.Arrays;
import java.util.HashMap;
import java.util.List;
import java.util.Map;
import java.util.Set;

/**
 * The document once more, as plainly as it can be said: minute by minute, every order and every share tried.
 * It shares no code with the class under test; RandomTest asks both the same.
 */
public final class PlainModel {
    private static final Set<String> WORDS = Set.of(("house at worth pieces weight long pegs gang hands pace helped by wind of law "
            + "owed near told hour gale dawn rest lift with when off stands loop end stop").split(" "));
    private static final List<String> LAWS = List.of("worth", "owed", "near", "told");

    static final class House {
        String name;
        int at;
        int worth;
        int pieces;
        int weight;
        int length = 4;
        int pegs;
        int on;
        boolean stands = true;
        final Map<House, Integer> helpedBy = new HashMap<>();

        boolean open() {
            return stands && on > 0;
        }

        boolean fallsBy(int s) {
            return open() && s > 10 + weight + pegs * 3;
        }
    }

    static final class Gang {
        String name;
        House home;
        int hands;
        int pace = 1;
        int at;
        House hand;
        int way;
        int pieceDone;

        int takes(House h) {
            return Math.max(1, (int) Math.ceil((h.weight + h.pegs) * 4.0 / hands));
        }

        int walk(int from, House h) {
            return pace * Math.abs(from - h.at);
        }

        void take(House h) {
            hand = h;
            way = walk(at, h);
            at = h.at;
            pieceDone = 0;
        }
    }

    record Wind(String name, int strength, int chances) {
    }

    record Step(String kind, int number, House house, Gang gang, String test, List<Step> body) {
    }

    /** A fault of a text. */
    private static final class Fault extends RuntimeException {
        private static final long serialVersionUID = 1;
        final int kind;
        final int place;

        Fault(int kind, int place) {
            super(null, null, false, false);
            this.kind = kind;
            this.place = place;
        }
    }

    /** Ends a life, by stop or by the 300 steps. */
    private static final class Ended extends RuntimeException {
        private static final long serialVersionUID = 1;

        Ended() {
            super(null, null, false, false);
        }
    }

    record Token(String text, int place) {
    }

    /** The shore with all that became of it, and the years. */
    static final class State {
        List<House> houses = new ArrayList<>();
        List<Gang> gangs = new ArrayList<>();
        List<Wind> winds = new ArrayList<>();
        String law = "told";
        boolean lawTold;
        int minute;
        String yearsText;

        State copy() {
            State c = new State();
            Map<House, House> twins = new HashMap<>();
            for (House h : houses) {
                House t = new House();
                t.name = h.name;
                t.at = h.at;
                t.worth = h.worth;
                t.pieces = h.pieces;
                t.weight = h.weight;
                t.length = h.length;
                t.pegs = h.pegs;
                t.on = h.on;
                t.stands = h.stands;
                twins.put(h, t);
                c.houses.add(t);
            }
            for (House h : houses) {
                h.helpedBy.forEach((by, n) -> twins.get(h).helpedBy.put(twins.get(by), n));
            }
            for (Gang g : gangs) {
                Gang t = new Gang();
                t.name = g.name;
                t.home = twins.get(g.home);
                t.hands = g.hands;
                t.pace = g.pace;
                t.at = g.at;
                t.hand = twins.get(g.hand);
                t.way = g.way;
                t.pieceDone = g.pieceDone;
                c.gangs.add(t);
            }
            c.winds.addAll(winds);
            c.law = law;
            c.lawTold = lawTold;
            c.minute = minute;
            c.yearsText = yearsText;
            return c;
        }

        int helped(House h, House by) {
            return h.helpedBy.getOrDefault(by, 0);
        }

        int due(House h) {
            int due = 0;
            for (House other : houses) {
                due += helped(other, h) - helped(h, other);
            }
            return due;
        }

        House house(String name) {
            return houses.stream().filter(h -> h.name.equals(name)).findFirst().orElse(null);
        }

        Gang gang(String name) {
            return gangs.stream().filter(g -> g.name.equals(name)).findFirst().orElse(null);
        }

        boolean taken(String name) {
            return house(name) != null || gang(name) != null || winds.stream().anyMatch(w -> w.name.equals(name));
        }

        boolean free(Gang gang, House h) {
            return h.open() && gangs.stream().noneMatch(g -> g != gang && g.hand == h);
        }

        House first(Gang gang) {
            List<House> candidates = new ArrayList<>(houses);
            candidates.removeIf(h -> !free(gang, h));
            if (law.equals("worth")) {
                candidates.sort((a, b) -> b.worth - a.worth);
            } else if (law.equals("owed")) {
                candidates.sort((a, b) -> due(b) - due(a));
            } else if (law.equals("near")) {
                candidates.sort((a, b) -> Math.abs(a.at - gang.at) - Math.abs(b.at - gang.at));
            }
            return candidates.isEmpty() ? null : candidates.get(0);
        }

        int hour(int minutes) {
            int off = 0;
            for (int m = 0; m < minutes; m++) {
                for (Gang g : gangs) {
                    if (g.hand == null) {
                        House h = first(g);
                        if (h == null) {
                            continue;
                        }
                        g.take(h);
                    }
                    if (g.way > 0) {
                        g.way--;
                        continue;
                    }
                    g.pieceDone++;
                    if (g.pieceDone == g.takes(g.hand)) {
                        g.pieceDone = 0;
                        g.hand.on--;
                        if (g.hand.on == 0) {
                            off++;
                            if (g.hand != g.home) {
                                g.hand.helpedBy.put(g.home, Math.min(9999, helped(g.hand, g.home) + 1));
                            }
                            g.hand = null;
                        }
                    }
                }
                minute++;
            }
            return off;
        }

        int gale(int s) {
            int fell = 0;
            for (House h : houses) {
                if (h.fallsBy(s)) {
                    h.stands = false;
                    fell++;
                    for (Gang g : gangs) {
                        if (g.hand == h) {
                            g.hand = null;
                        }
                    }
                }
            }
            return fell;
        }

        int dawn() {
            int lifted = 0;
            for (House h : houses) {
                if (h.stands && h.on != h.pieces) {
                    h.on = h.pieces;
                    lifted++;
                }
            }
            for (Gang g : gangs) {
                g.hand = null;
            }
            minute = 0;
            return lifted;
        }

        int chances() {
            return winds.stream().mapToInt(Wind::chances).sum();
        }

        /** LOSS times all chances. */
        long loss() {
            long sum = 0;
            for (Wind w : winds) {
                for (House h : houses) {
                    sum += h.fallsBy(w.strength) ? (long) h.worth * w.chances : 0;
                }
            }
            return sum;
        }

        int standingWorth() {
            return houses.stream().filter(h -> h.stands).mapToInt(h -> h.worth).sum();
        }

        int set(java.util.function.Predicate<House> p) {
            int set = 0;
            for (int i = 0; i < houses.size(); i++) {
                set |= p.test(houses.get(i)) ? 1 << i : 0;
            }
            return set;
        }
    }

    private int status;
    private long top;
    private long bottom = 1;
    private final long[][] trays = new long[4][];
    private final int[] sorts = new int[4];
    private StringBuilder tape = new StringBuilder();
    private State state = new State();
    private final List<State> marks = new ArrayList<>();
    private int faultKind = -1;
    private int faultPlace = -1;
    private int bestSet = -1;
    private List<Integer> order = new ArrayList<>();
    private int[] lived;

    int houseCount() {
        return state.houses.size();
    }

    int gangCount() {
        return state.gangs.size();
    }

    public int status() {
        return status;
    }

    public long top() {
        return top;
    }

    public long bottom() {
        return bottom;
    }

    private int none(int why) {
        status = why;
        return -1;
    }

    private boolean no(int why) {
        status = why;
        return false;
    }

    private int ok(int answer) {
        status = 0;
        return answer;
    }

    private boolean fraction(long t, long b) {
        status = 0;
        long d = 1;
        for (long i = 1; i <= b; i++) {
            if (t % i == 0 && b % i == 0) {
                d = i;
            }
        }
        top = t / d;
        bottom = b / d;
        return true;
    }

    // ---- trays

    private static boolean isTray(int t) {
        return t >= 0 && t <= 3;
    }

    public boolean tray(int tray, int sort, int many) {
        if (!isTray(tray) || sort < 0 || sort > 3) {
            return no(1);
        }
        if (many > 60) {
            return no(5);
        }
        if (many < 0) {
            return no(6);
        }
        trays[tray] = new long[many];
        sorts[tray] = sort;
        status = 0;
        return true;
    }

    private int place(int tray, int place) {
        if (!isTray(tray)) {
            return 1;
        }
        if (trays[tray] == null) {
            return 3;
        }
        return place < 0 || place >= trays[tray].length ? 4 : 0;
    }

    public boolean write(int tray, int place, long v) {
        status = place(tray, place);
        if (status != 0) {
            return false;
        }
        int unused = 64 - (8 << sorts[tray]);
        trays[tray][place] = v << unused >> unused;
        return true;
    }

    public long read(int tray, int place) {
        status = place(tray, place);
        return status != 0 ? -1 : trays[tray][place];
    }

    public boolean pour(int tray, int i, int to, int j, int many) {
        if (!isTray(tray) || !isTray(to)) {
            return no(1);
        }
        if (trays[tray] == null || trays[to] == null) {
            return no(3);
        }
        if (sorts[tray] != sorts[to]) {
            return no(11);
        }
        if (many < 0) {
            return no(6);
        }
        if (i < 0 || j < 0 || (long) i + many > trays[tray].length || (long) j + many > trays[to].length) {
            return no(4);
        }
        long[] was = trays[tray].clone();
        for (int k = 0; k < many; k++) {
            trays[to][j + k] = was[i + k];
        }
        status = 0;
        return true;
    }

    // ---- texts

    public int feed(int a, int b, int c, int d, int e) {
        if (tape.length() > 880) {
            return -1;
        }
        for (int four : new int[] {a, b, c, d, e}) {
            for (int k = 3; k >= 0; k--) {
                tape.append((char) (four >>> 8 * k & 255));
            }
        }
        return tape.length();
    }

    /** Reads tokens one by one, by looking at the text as a whole. */
    private static final class Reader {
        final String text;
        int at;
        State state;
        int steps;

        Reader(String text, State state) {
            this.text = text;
            this.state = state;
        }

        /** The token that stands next; an empty one at the end. */
        Token peek() {
            int i = at;
            while (i < text.length() && (text.charAt(i) == 10 || text.charAt(i) == 32)) {
                i++;
            }
            if (i == text.length()) {
                return new Token("", i);
            }
            java.util.regex.Matcher m = java.util.regex.Pattern.compile("[a-z]+|[0-9]+|[;<>=]").matcher(text);
            if (!m.find(i) || m.start() != i) {
                throw new Fault(1, i);
            }
            if (m.group().matches("[0-9]{5,}")) {
                throw new Fault(1, i);
            }
            return new Token(m.group(), i);
        }

        Token take() {
            Token t = peek();
            at = t.place + t.text.length();
            return t;
        }

        void expect(String word) {
            Token t = take();
            if (!t.text.equals(word)) {
                throw new Fault(2, t.place);
            }
        }

        int number(int low, int high) {
            Token t = take();
            if (!t.text.matches("[0-9]+")) {
                throw new Fault(2, t.place);
            }
            int n = Integer.parseInt(t.text);
            if (n < low || n > high) {
                throw new Fault(4, t.place);
            }
            return n;
        }

        Token name() {
            Token t = take();
            if (!t.text.matches("[a-z]{1,8}") || WORDS.contains(t.text)) {
                throw new Fault(2, t.place);
            }
            return t;
        }

        String newName() {
            Token t = name();
            if (state.taken(t.text)) {
                throw new Fault(3, t.place);
            }
            return t.text;
        }

        House house() {
            Token t = name();
            if (state.house(t.text) == null) {
                throw new Fault(3, t.place);
            }
            return state.house(t.text);
        }

        Gang gang() {
            Token t = name();
            if (state.gang(t.text) == null) {
                throw new Fault(3, t.place);
            }
            return state.gang(t.text);
        }

        int named(String word, int low, int high) {
            expect(word);
            return number(low, high);
        }

        void shore() {
            while (!peek().text.isEmpty()) {
                Token t = take();
                switch (t.text) {
                    case "house" -> houseAt(t.place);
                    case "gang" -> gangAt(t.place);
                    case "helped" -> {
                        House h = house();
                        expect("by");
                        int place = peek().place;
                        House by = house();
                        if (by == h) {
                            throw new Fault(5, place);
                        }
                        h.helpedBy.put(by, number(0, 99));
                    }
                    case "wind" -> {
                        if (state.winds.size() == 6) {
                            throw new Fault(6, t.place);
                        }
                        String name = newName();
                        int strength = number(0, 99);
                        state.winds.add(new Wind(name, strength, named("of", 1, 99)));
                    }
                    case "law" -> {
                        if (state.lawTold) {
                            throw new Fault(5, t.place);
                        }
                        state.lawTold = true;
                        Token law = take();
                        if (!LAWS.contains(law.text)) {
                            throw new Fault(2, law.place);
                        }
                        state.law = law.text;
                    }
                    default -> throw new Fault(2, t.place);
                }
                expect(";");
            }
        }

        void houseAt(int place) {
            if (state.houses.size() == 8) {
                throw new Fault(6, place);
            }
            House h = new House();
            h.name = newName();
            h.at = named("at", 0, 60);
            h.worth = named("worth", 0, 999);
            h.pieces = named("pieces", 1, 9);
            h.on = h.pieces;
            h.weight = named("weight", 1, 20);
            if (peek().text.equals("long")) {
                h.length = named("long", 1, 20);
            }
            if (peek().text.equals("pegs")) {
                h.pegs = named("pegs", 0, 9);
            }
            state.houses.add(h);
        }

        void gangAt(int place) {
            if (state.gangs.size() == 4) {
                throw new Fault(6, place);
            }
            Gang g = new Gang();
            g.name = newName();
            expect("of");
            g.home = house();
            g.at = g.home.at;
            g.hands = named("hands", 1, 40);
            if (peek().text.equals("pace")) {
                g.pace = named("pace", 0, 9);
            }
            state.gangs.add(g);
        }

        List<Step> steps(int depth) {
            List<Step> list = new ArrayList<>();
            while (true) {
                Token t = peek();
                if (t.text.isEmpty() && depth == 0) {
                    return list;
                }
                if (t.text.equals("end") && depth > 0) {
                    take();
                    return list;
                }
                if (!List.of("hour", "gale", "dawn", "lift", "rest", "when", "loop", "stop").contains(t.text)) {
                    throw new Fault(2, t.place);
                }
                if (steps == 30) {
                    throw new Fault(6, t.place);
                }
                boolean opens = t.text.equals("when") || t.text.equals("loop");
                if (opens && depth == 3) {
                    throw new Fault(7, t.place);
                }
                steps++;
                take();
                list.add(step(t.text, depth));
                expect(";");
            }
        }

        Step step(String kind, int depth) {
            int number = 0;
            House house = null;
            Gang gang = null;
            String test = null;
            List<Step> body = null;
            if (kind.equals("hour")) {
                number = number(1, 240);
            } else if (kind.equals("lift")) {
                house = house();
                expect("with");
                gang = gang();
            } else if (kind.equals("rest")) {
                gang = gang();
            } else if (kind.equals("loop")) {
                number = number(1, 99);
            } else if (kind.equals("when")) {
                Token t = take();
                test = t.text;
                if (test.equals("off") || test.equals("stands")) {
                    house = house();
                } else if (test.equals("worth")) {
                    Token sign = take();
                    if (!List.of("<", ">", "=").contains(sign.text)) {
                        throw new Fault(2, sign.place);
                    }
                    test = sign.text;
                    number = number(0, 9999);
                } else {
                    throw new Fault(2, t.place);
                }
            }
            if (kind.equals("loop") || kind.equals("when")) {
                expect(";");
                body = steps(depth + 1);
            }
            return new Step(kind, number, house, gang, test, body);
        }
    }

    public int shore(int n) {
        if (n < 0 || n > tape.length()) {
            return none(5);
        }
        Reader r = new Reader(tape.substring(0, n), new State());
        tape = new StringBuilder();
        try {
            r.shore();
        } catch (Fault f) {
            faultKind = f.kind;
            faultPlace = f.place;
            return none(10);
        }
        faultKind = 0;
        faultPlace = -1;
        state = r.state;
        return ok(state.houses.size());
    }

    public int years(int n) {
        if (n < 0 || n > tape.length() || n > 300) {
            return none(5);
        }
        Reader r = new Reader(tape.substring(0, n), state);
        tape = new StringBuilder();
        try {
            r.steps(0);
        } catch (Fault f) {
            faultKind = f.kind;
            faultPlace = f.place;
            return none(10);
        }
        faultKind = 0;
        faultPlace = -1;
        state.yearsText = r.text;
        return ok(r.steps);
    }

    public int fault(int what) {
        return what == 0 ? faultKind : what == 1 ? faultPlace : -1;
    }

    public int many(int what) {
        return switch (what) {
            case 0 -> ok(state.houses.size());
            case 1 -> ok(state.gangs.size());
            case 2 -> ok(state.winds.size());
            case 3 -> ok(LAWS.indexOf(state.law));
            case 4 -> ok(state.minute);
            case 5 -> ok(state.set(h -> h.stands));
            case 6 -> ok(state.set(h -> h.stands && h.on == 0));
            case 7 -> ok(state.standingWorth());
            case 8 -> ok(state.houses.stream().filter(h -> !h.stands).mapToInt(h -> h.worth).sum());
            case 9 -> ok(state.chances());
            default -> none(5);
        };
    }

    private House h(int i) {
        return i >= 0 && i < state.houses.size() ? state.houses.get(i) : null;
    }

    private Gang g(int i) {
        return i >= 0 && i < state.gangs.size() ? state.gangs.get(i) : null;
    }

    public int house(int house, int what) {
        House h = h(house);
        if (h == null) {
            return none(2);
        }
        int[] all = {h.at, h.worth, h.pieces, h.weight, h.length, h.pegs, h.on, leastStrength(h), state.due(h)};
        return what < 0 || what > 8 ? none(5) : ok(all[what]);
    }

    private static int leastStrength(House h) {
        House whole = new House();
        whole.on = 1;
        whole.weight = h.weight;
        whole.pegs = h.pegs;
        int s = 0;
        while (!whole.fallsBy(s)) {
            s++;
        }
        return s;
    }

    public int gang(int gang, int what) {
        Gang g = g(gang);
        if (g == null) {
            return none(2);
        }
        if (what < 0 || what > 5) {
            return none(5);
        }
        if (what == 4 && g.hand == null) {
            return none(8);
        }
        int left = g.hand == null ? 0 : g.way + g.takes(g.hand) - g.pieceDone;
        int[] all = {state.houses.indexOf(g.home), g.hands, g.pace, g.at, state.houses.indexOf(g.hand), left};
        return ok(all[what]);
    }

    public int wind(int wind, int what) {
        if (wind < 0 || wind >= state.winds.size()) {
            return none(2);
        }
        Wind w = state.winds.get(wind);
        return what == 0 ? ok(w.strength) : what == 1 ? ok(w.chances) : none(5);
    }

    public int helped(int house, int by) {
        if (h(house) == null || h(by) == null) {
            return none(2);
        }
        return house == by ? none(5) : ok(state.helped(h(house), h(by)));
    }

    // ---- lifting

    public int takes(int gang, int house) {
        return g(gang) == null || h(house) == null ? none(2) : ok(g(gang).takes(h(house)));
    }

    public int walk(int gang, int house) {
        return g(gang) == null || h(house) == null ? none(2) : ok(g(gang).walk(g(gang).at, h(house)));
    }

    public int next(int gang) {
        Gang g = g(gang);
        if (g == null) {
            return none(2);
        }
        if (g.hand != null) {
            return none(9);
        }
        House h = state.first(g);
        return h == null ? none(8) : ok(state.houses.indexOf(h));
    }

    public int lift(int gang, int house) {
        Gang g = g(gang);
        if (g == null || h(house) == null) {
            return none(2);
        }
        if (!state.free(g, h(house))) {
            return none(9);
        }
        g.take(h(house));
        return ok(g.way);
    }

    public boolean rest(int gang) {
        if (g(gang) == null) {
            return no(2);
        }
        if (g(gang).hand == null) {
            return no(8);
        }
        g(gang).hand = null;
        status = 0;
        return true;
    }

    public int hour(int minutes) {
        if (minutes < 1 || minutes > 240) {
            return none(5);
        }
        return state.minute + minutes > 9999 ? none(7) : ok(state.hour(minutes));
    }

    public int gale(int strength) {
        return strength < 0 || strength > 99 ? none(5) : ok(state.gale(strength));
    }

    public int dawn() {
        return ok(state.dawn());
    }

    public int help(int house, int by, int times) {
        House h = h(house);
        if (h == null || h(by) == null) {
            return none(2);
        }
        if (house == by || times < 1 || times > 99) {
            return none(5);
        }
        int then = state.helped(h, h(by)) + times;
        if (then > 9999) {
            return none(7);
        }
        h.helpedBy.put(h(by), then);
        return ok(then);
    }

    // ---- what the gale takes

    public int falls(int strength) {
        return strength < 0 || strength > 99 ? none(5) : ok(state.set(h -> h.fallsBy(strength)));
    }

    public boolean risk(int house) {
        if (h(house) == null) {
            return no(2);
        }
        if (state.winds.isEmpty()) {
            return no(8);
        }
        return fraction(state.winds.stream().filter(w -> h(house).fallsBy(w.strength)).mapToInt(Wind::chances).sum(), state.chances());
    }

    public boolean loss() {
        return state.winds.isEmpty() ? no(8) : fraction(state.loss(), state.chances());
    }

    public boolean saves(int minutes, int rain) {
        if (minutes < 1 || minutes > 240 || rain < 0 || rain > 99) {
            return no(5);
        }
        if (state.winds.isEmpty()) {
            return no(8);
        }
        State then = state.copy();
        int off = then.hour(minutes);
        return fraction(state.loss() - then.loss() - (long) rain * off * state.chances(), state.chances());
    }

    public int dearest() {
        int dearest = -1;
        long least = Long.MAX_VALUE;
        for (int i = 0; i < state.houses.size() && !state.winds.isEmpty(); i++) {
            if (h(i).open()) {
                State then = state.copy();
                then.houses.get(i).on = 0;
                if (then.loss() < least) {
                    least = then.loss();
                    dearest = i;
                }
            }
        }
        return dearest < 0 ? none(8) : ok(dearest);
    }

    public int worstWind() {
        int worst = -1;
        int most = -1;
        for (int w = 0; w < state.winds.size(); w++) {
            State then = state.copy();
            then.gale(state.winds.get(w).strength);
            int fell = state.standingWorth() - then.standingWorth();
            if (fell > most) {
                most = fell;
                worst = w;
            }
        }
        return worst < 0 ? none(8) : ok(worst);
    }

    // ---- the best order

    /** By sets of houses the least minutes of a gang, by every order; the first such order beside it. */
    private Map<Integer, Integer> times;
    private Map<Integer, List<Integer>> orders;

    private void tryOrders(Gang g) {
        times = new HashMap<>();
        orders = new HashMap<>();
        tryOrders(g, g.at, 0, 0, new ArrayList<>());
    }

    private void tryOrders(Gang g, int at, int set, int time, List<Integer> sofar) {
        if (!times.containsKey(set) || time < times.get(set)) {
            times.put(set, time);
            orders.put(set, new ArrayList<>(sofar));
        }
        for (int i = 0; i < state.houses.size(); i++) {
            House h = h(i);
            if (h.open() && (set >> i & 1) == 0) {
                sofar.add(i);
                tryOrders(g, h.at, set | 1 << i, time + g.walk(at, h) + h.on * g.takes(h), sofar);
                sofar.remove(sofar.size() - 1);
            }
        }
    }

    private int worth(int set) {
        int worth = 0;
        for (int i = 0; i < state.houses.size(); i++) {
            worth += (set >> i & 1) * h(i).worth;
        }
        return worth;
    }

    public int best(int gang, int minutes) {
        if (g(gang) == null) {
            return none(2);
        }
        if (minutes < 0 || minutes > 240) {
            return none(5);
        }
        tryOrders(g(gang));
        List<Integer> sets = new ArrayList<>(times.keySet());
        sets.removeIf(s -> times.get(s) > minutes);
        sets.sort((a, b) -> {
            int byWorth = worth(b) - worth(a);
            int byCount = Integer.bitCount(a) - Integer.bitCount(b);
            return byWorth != 0 ? byWorth : byCount != 0 ? byCount : a - b;
        });
        bestSet = sets.get(0);
        return ok(worth(bestSet));
    }

    public int bestSet() {
        return bestSet < 0 ? none(8) : ok(bestSet);
    }

    public int soonest(int gang, int set) {
        if (g(gang) == null) {
            return none(2);
        }
        if (set < 0 || set >= 1 << state.houses.size()) {
            return none(5);
        }
        tryOrders(g(gang));
        if (!times.containsKey(set)) {
            return none(9);
        }
        order = orders.get(set);
        return ok(times.get(set));
    }

    public int order(int k) {
        return k < 0 || k >= order.size() ? none(8) : ok(order.get(k));
    }

    /** The most worth in n minutes by all gangs from one on, of the houses that are left. */
    private int share(List<Map<Integer, Integer>> by, int gang, int left, int n) {
        if (gang == by.size()) {
            return 0;
        }
        int most = 0;
        for (int part : by.get(gang).keySet()) {
            if ((part & ~left) == 0 && by.get(gang).get(part) <= n) {
                most = Math.max(most, worth(part) + share(by, gang + 1, left & ~part, n));
            }
        }
        return most;
    }

    private int allTime(List<Map<Integer, Integer>> by, int gang, int left) {
        if (gang == by.size()) {
            return left == 0 ? 0 : 9999999;
        }
        int least = 9999999;
        for (int part : by.get(gang).keySet()) {
            if ((part & ~left) == 0) {
                least = Math.min(least, Math.max(by.get(gang).get(part), allTime(by, gang + 1, left & ~part)));
            }
        }
        return least;
    }

    private List<Map<Integer, Integer>> allTimes() {
        List<Map<Integer, Integer>> by = new ArrayList<>();
        for (Gang g : state.gangs) {
            tryOrders(g);
            by.add(times);
        }
        return by;
    }

    public int shared(int minutes) {
        if (minutes < 0 || minutes > 240) {
            return none(5);
        }
        return ok(share(allTimes(), 0, 255, minutes));
    }

    public int allOff() {
        int time = allTime(allTimes(), 0, state.set(House::open));
        return time > 999 ? none(8) : ok(time);
    }

    // ---- prophets, debts

    private int whyNoScore(int told, int came, int n) {
        if (!isTray(told) || !isTray(came)) {
            return 1;
        }
        if (trays[told] == null || trays[came] == null) {
            return 3;
        }
        if (Math.min(trays[told].length, trays[came].length) < n) {
            return 4;
        }
        if (n < 1) {
            return 5;
        }
        boolean fine = Arrays.stream(trays[told], 0, n).allMatch(v -> v >= 0 && v <= 100)
                && Arrays.stream(trays[came], 0, n).allMatch(v -> v == 0 || v == 1);
        return fine ? 0 : 5;
    }

    public int score(int told, int came, int n) {
        status = whyNoScore(told, came, n);
        if (status != 0) {
            return -1;
        }
        int sum = 0;
        for (int i = 0; i < n; i++) {
            sum += (int) Math.pow(Math.abs(trays[told][i] - (trays[came][i] == 1 ? 100 : 0)), 2);
        }
        return sum;
    }

    public int words(int told, int came, int n) {
        int his = score(told, came, n);
        if (status != 0) {
            return -1;
        }
        long mean = Arrays.stream(trays[came], 0, n).sum() * 100 / n;
        int always = 0;
        for (int i = 0; i < n; i++) {
            always += (int) Math.pow(mean - 100 * trays[came][i], 2);
        }
        return always - his;
    }

    public int owed() {
        int owed = -1;
        for (int i = 0; i < state.houses.size(); i++) {
            if (owed < 0 || state.due(h(i)) > state.due(h(owed))) {
                owed = i;
            }
        }
        return owed < 0 ? none(8) : ok(owed);
    }

    public int riders() {
        return ok(state.set(h -> state.houses.stream().anyMatch(by -> state.helped(h, by) > 0)
                && state.houses.stream().noneMatch(other -> state.helped(other, h) > 0)));
    }

    public int chain(int house) {
        if (h(house) == null) {
            return none(2);
        }
        return ok(reach(house, 0) & ~(1 << house));
    }

    private int reach(int by, int seen) {
        int set = seen;
        for (int i = 0; i < state.houses.size(); i++) {
            if ((set >> i & 1) == 0 && state.helped(h(i), h(by)) > 0) {
                set = reach(i, set | 1 << i);
            }
        }
        return set;
    }

    public int quits(int a, int b) {
        if (h(a) == null || h(b) == null) {
            return none(2);
        }
        return a == b ? none(5) : ok(state.helped(h(a), h(b)) - state.helped(h(b), h(a)));
    }

    // ---- the ground, slates

    public int ground(int room) {
        if (room < 1 || room > 99) {
            return none(5);
        }
        List<Integer> lengths = new ArrayList<>();
        state.houses.stream().filter(h -> h.on == 0).forEach(h -> lengths.add(h.length));
        if (lengths.stream().anyMatch(l -> l > room)) {
            return none(9);
        }
        return ok(lay(lengths, 0, new ArrayList<>(), room));
    }

    private static int lay(List<Integer> lengths, int i, List<Integer> rows, int room) {
        if (i == lengths.size()) {
            return rows.size();
        }
        rows.add(lengths.get(i));
        int least = lay(lengths, i + 1, rows, room);
        rows.remove(rows.size() - 1);
        for (int r = 0; r < rows.size(); r++) {
            int was = rows.get(r);
            if (was + lengths.get(i) <= room) {
                rows.set(r, was + lengths.get(i));
                least = Math.min(least, lay(lengths, i + 1, rows, room));
                rows.set(r, was);
            }
        }
        return least;
    }

    public int signs(int tray, int n) {
        if (!isTray(tray)) {
            return none(1);
        }
        if (trays[tray] == null) {
            return none(3);
        }
        if (n > trays[tray].length) {
            return none(4);
        }
        if (n < 1) {
            return none(5);
        }
        int[] homes = new int[8];
        int over = 0;
        for (int i = 0; i < n; i++) {
            long to = trays[tray][i];
            if (to < 0 || to >= state.houses.size()) {
                return none(2);
            }
            homes[(int) to]++;
            over += homes[(int) to] > h((int) to).pieces ? 1 : 0;
        }
        return ok(over);
    }

    private int whyNotFlown(int tray) {
        if (!isTray(tray)) {
            return 1;
        }
        if (trays[tray] == null) {
            return 3;
        }
        if (trays[tray].length < state.houses.size()) {
            return 4;
        }
        return Arrays.stream(trays[tray], 0, state.houses.size()).allMatch(v -> v == 0 || v == 1) ? 0 : 5;
    }

    private boolean fits(int tray, Wind w) {
        for (int i = 0; i < state.houses.size(); i++) {
            if (h(i).stands && h(i).fallsBy(w.strength) != (trays[tray][i] == 1)) {
                return false;
            }
        }
        return true;
    }

    public int flown(int tray) {
        status = whyNotFlown(tray);
        if (status != 0) {
            return -1;
        }
        int set = 0;
        for (int w = 0; w < state.winds.size(); w++) {
            set |= fits(tray, state.winds.get(w)) ? 1 << w : 0;
        }
        return set;
    }

    public int likeliest(int tray) {
        status = whyNotFlown(tray);
        if (status != 0) {
            return -1;
        }
        Wind likeliest = null;
        for (Wind w : state.winds) {
            if (fits(tray, w) && (likeliest == null || w.chances > likeliest.chances)) {
                likeliest = w;
            }
        }
        return likeliest == null ? none(8) : ok(state.winds.indexOf(likeliest));
    }

    public int neighbour(int house) {
        House from = h(house);
        if (from == null) {
            return none(2);
        }
        return state.houses.stream().filter(h -> h != from && h.stands)
                .min((a, b) -> Math.abs(a.at - from.at) - Math.abs(b.at - from.at))
                .map(h -> ok(state.houses.indexOf(h))).orElseGet(() -> none(8));
    }

    // ---- years

    private int[] tally;
    private int drawn;

    /** Tells how many steps were come to, then what lived() tells. */
    private int[] liveIn(State s, int seed) {
        tally = new int[6];
        drawn = seed;
        try {
            doAll(s, new Reader(s.yearsText, s).steps(0));
        } catch (Ended e) {
            return tally;
        }
        return tally;
    }

    private void doAll(State s, List<Step> steps) {
        for (Step step : steps) {
            if (tally[0] == 300) {
                tally[5] = 1;
                throw new Ended();
            }
            tally[0]++;
            doOne(s, step);
        }
    }

    private void doOne(State s, Step step) {
        switch (step.kind) {
            case "hour" -> {
                if (s.minute + step.number > 9999) {
                    tally[1]++;
                } else {
                    tally[2] += step.number;
                    tally[3] += s.hour(step.number);
                }
            }
            case "gale" -> doGale(s);
            case "dawn" -> s.dawn();
            case "lift" -> {
                if (s.free(step.gang, step.house)) {
                    step.gang.take(step.house);
                } else {
                    tally[1]++;
                }
            }
            case "rest" -> step.gang.hand = null;
            case "when" -> {
                if (holds(s, step)) {
                    doAll(s, step.body);
                }
            }
            case "loop" -> {
                for (int i = 0; i < step.number; i++) {
                    doAll(s, step.body);
                }
            }
            default -> throw new Ended();
        }
    }

    private boolean holds(State s, Step step) {
        return switch (step.test) {
            case "off" -> step.house.on == 0;
            case "stands" -> step.house.stands;
            case "<" -> s.standingWorth() < step.number;
            case ">" -> s.standingWorth() > step.number;
            default -> s.standingWorth() == step.number;
        };
    }

    private void doGale(State s) {
        if (s.winds.isEmpty()) {
            tally[1]++;
            return;
        }
        List<Wind> all = new ArrayList<>();
        for (Wind w : s.winds) {
            for (int i = 0; i < w.chances; i++) {
                all.add(w);
            }
        }
        drawn = (drawn * 2909 + 10597) % 65536;
        tally[4] += s.gale(all.get(drawn / 8 % all.size()).strength);
    }

    public int live(int seed) {
        if (seed < 0 || seed > 9999) {
            return none(5);
        }
        if (state.yearsText == null) {
            return none(8);
        }
        lived = liveIn(state, seed);
        return ok(lived[0]);
    }

    public int lived(int what) {
        if (what < 0 || what > 4) {
            return none(5);
        }
        return lived == null ? none(8) : ok(lived[what + 1]);
    }

    public boolean mean(int seed, int many) {
        if (seed < 0 || many < 1 || many > 20 || (long) seed + many > 10000) {
            return no(5);
        }
        if (state.yearsText == null) {
            return no(8);
        }
        long worth = 0;
        for (int i = 0; i < many; i++) {
            State then = state.copy();
            liveIn(then, seed + i);
            worth += then.standingWorth();
        }
        return fraction(worth, many);
    }

    // ---- marks

    public int mark() {
        if (marks.size() == 3) {
            return none(7);
        }
        marks.add(state.copy());
        return ok(marks.size());
    }

    public int back() {
        if (marks.isEmpty()) {
            return none(8);
        }
        state = marks.remove(marks.size() - 1);
        return ok(marks.size());
    }
}
