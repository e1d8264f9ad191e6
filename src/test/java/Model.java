import java.util.ArrayDeque;
import java.util.ArrayList;
import java.util.Arrays;
import java.util.Deque;
import java.util.HashMap;
import java.util.List;
import java.util.Map;
import java.util.function.IntPredicate;
import java.util.function.ToIntFunction;

/**
 * The document once more, as slowly and as directly as it reads: trees instead of steps, all rows
 * of a match tried one by one. Tests run it beside the class and compare what both answer.
 */
final class Model {
    static final int NONE = -1;
    static final long NOTHING = -1000000000000000L;

    static final class Fault extends RuntimeException {
        final int kind;
        final int place;

        Fault(int kind, int place) {
            super(null, null, false, false);
            this.kind = kind;
            this.place = place;
        }
    }

    record Person(String name, int pitch, int calm) { }

    record Want(int person, int due, int length) { }

    interface Sum extends ToIntFunction<Map<String, Integer>> { }

    static final class Town {
        final List<String> voices = new ArrayList<>();
        final List<Integer> pitches = new ArrayList<>();
        final List<Person> persons = new ArrayList<>();
        final List<Want> wants = new ArrayList<>();
        Sum picks;
        Sum mixes;
        Sum hush;
        int stroke;
        int statements;
    }

    static final class Voice {
        int pitch;
        boolean struck;
        int begun;
    }

    static final class Saying {
        int what;
        int due;
        int waited;
        int voice = NONE;
        int left;
        boolean mixed;
    }

    static final class State {
        int minute;
        final List<Voice> voices = new ArrayList<>();
        final List<Saying> sayings = new ArrayList<>();
        final List<int[]> kept = new ArrayList<>();

        State copy() {
            State other = new State();
            other.minute = minute;
            for (Voice v : voices) {
                Voice w = new Voice();
                w.pitch = v.pitch;
                w.struck = v.struck;
                w.begun = v.begun;
                other.voices.add(w);
            }
            for (Saying s : sayings) {
                Saying r = new Saying();
                r.what = s.what;
                r.due = s.due;
                r.waited = s.waited;
                r.voice = s.voice;
                r.left = s.left;
                r.mixed = s.mixed;
                other.sayings.add(r);
            }
            other.kept.addAll(kept);
            return other;
        }

        int busy() {
            int n = 0;
            for (int v = 0; v < voices.size(); v++) if (by(v) != NONE) n++;
            return n;
        }

        int by(int voice) {
            for (int s = 0; s < sayings.size(); s++) {
                if (sayings.get(s).what == 2 && sayings.get(s).voice == voice) return s;
            }
            return NONE;
        }

        boolean free(int voice) {
            return !voices.get(voice).struck && by(voice) == NONE;
        }

        int count(IntPredicate kind) {
            int n = 0;
            for (Saying s : sayings) if (kind.test(s.what)) n++;
            return n;
        }

        void end(int s, int as) {
            sayings.get(s).what = as;
            sayings.get(s).left = 0;
            kept.add(new int[] {minute, s, as});
        }
    }

    // ---- the text

    static final class Parser {
        static final List<String> OWN = List.of("voice", "pitch", "person", "calm", "wants", "at",
                "long", "picks", "mixes", "hush", "stroke", "tone", "waits", "minute", "load",
                "busy", "if", "or", "and", "not", "all", "min", "max");
        final String text;
        final Town town = new Town();
        int behind;
        boolean glued;
        int open;
        String where = "";

        Parser(String text) {
            this.text = text;
        }

        static boolean letter(char c) {
            return c >= 'a' && c <= 'z';
        }

        static boolean digit(char c) {
            return c >= '0' && c <= '9';
        }

        int start() {
            int p = behind;
            while (p < text.length() && (text.charAt(p) == ' ' || text.charAt(p) == '\n')) p++;
            return p;
        }

        /** The token ahead, "" at the end; faults of its own letters and digits come at once. */
        String ahead() {
            int p = start();
            if (p >= text.length()) return "";
            char c = text.charAt(p);
            if (!letter(c) && !digit(c)) return String.valueOf(c);
            if (glued && p == behind) throw new Fault(1, p);
            int q = p;
            int most = letter(c) ? 6 : 4;
            while (q < text.length() && (letter(c) ? letter(text.charAt(q)) : digit(text.charAt(q)))) {
                if (q - p == most) throw new Fault(1, q);
                q++;
            }
            return text.substring(p, q);
        }

        Fault wrong() {
            return new Fault(1, start());
        }

        String take() {
            String token = ahead();
            behind = start() + token.length();
            glued = !token.isEmpty() && (letter(token.charAt(0)) || digit(token.charAt(0)));
            return token;
        }

        void take(String wanted) {
            if (!ahead().equals(wanted)) throw wrong();
            take();
        }

        int number(int least, int most) {
            String token = ahead();
            if (token.isEmpty() || !digit(token.charAt(0))) throw wrong();
            int n = Integer.parseInt(token);
            if (n < least || n > most) throw new Fault(4, start());
            take();
            return n;
        }

        String name() {
            String token = ahead();
            if (token.isEmpty() || !letter(token.charAt(0)) || OWN.contains(token)) throw wrong();
            return token;
        }

        int person(String name) {
            for (int p = 0; p < town.persons.size(); p++) {
                if (town.persons.get(p).name.equals(name)) return p;
            }
            return NONE;
        }

        String freshName() {
            String name = name();
            if (town.voices.contains(name) || person(name) != NONE) throw new Fault(2, start());
            take();
            return name;
        }

        Town read() {
            while (start() < text.length()) {
                // Ahead of any look at what stands there.
                if (town.statements == 80) throw new Fault(6, start());
                String first = ahead();
                if (!List.of("voice", "person", "wants", "picks", "mixes", "hush", "stroke").contains(first)) {
                    throw wrong();
                }
                boolean many = switch (first) {
                    case "voice" -> town.voices.size() == 7;
                    case "person" -> town.persons.size() == 8;
                    case "wants" -> town.wants.size() == 12;
                    case "picks" -> town.picks != null;
                    case "mixes" -> town.mixes != null;
                    case "hush" -> town.hush != null;
                    default -> false;
                };
                if (many) throw new Fault(6, start());
                take();
                statement(first);
                take(";");
                town.statements++;
            }
            return town;
        }

        void statement(String first) {
            where = first;
            switch (first) {
                case "voice" -> {
                    String name = freshName();
                    take("pitch");
                    town.pitches.add(number(0, 9));
                    town.voices.add(name);
                }
                case "person" -> {
                    String name = freshName();
                    take("pitch");
                    int pitch = number(0, 9);
                    take("calm");
                    town.persons.add(new Person(name, pitch, number(0, 99)));
                }
                case "wants" -> {
                    int person = person(name());
                    if (person == NONE) throw new Fault(3, start());
                    take();
                    take("at");
                    int due = number(0, 999);
                    take("long");
                    town.wants.add(new Want(person, due, number(1, 20)));
                }
                case "picks" -> town.picks = sum();
                case "mixes" -> town.mixes = test();
                case "hush" -> town.hush = test();
                default -> town.stroke = number(0, 100);
            }
        }

        Sum sum() {
            Sum left = product();
            while (ahead().equals("+") || ahead().equals("-")) {
                Sum a = left;
                boolean plus = take().equals("+");
                Sum b = product();
                left = e -> clip(plus ? (long) a.applyAsInt(e) + b.applyAsInt(e)
                        : (long) a.applyAsInt(e) - b.applyAsInt(e));
            }
            return left;
        }

        static int clip(long x) {
            return x > 1000000 ? 1000000 : x < -1000000 ? -1000000 : (int) x;
        }

        Sum product() {
            Sum left = part();
            while (ahead().equals("*") || ahead().equals("/") || ahead().equals("%")) {
                Sum a = left;
                String sign = take();
                Sum b = part();
                left = e -> clip(times(sign, a.applyAsInt(e), b.applyAsInt(e)));
            }
            return left;
        }

        static long times(String sign, long a, long b) {
            if (sign.equals("*")) return a * b;
            if (b == 0) return 0;
            long q = (long) Math.floor((double) a / b);
            return sign.equals("/") ? q : a - b * q;
        }

        void open() {
            if (open == 7) throw new Fault(5, start());
            open++;
            take();
        }

        Sum part() {
            String token = ahead();
            if (!token.isEmpty() && digit(token.charAt(0))) {
                int n = number(0, 9999);
                return e -> n;
            }
            if (token.equals("(")) {
                open();
                Sum inner = sum();
                take(")");
                open--;
                return inner;
            }
            if (token.equals("min") || token.equals("max") || token.equals("if")) {
                take();
                if (!ahead().equals("(")) throw wrong();
                open();
                Sum test = token.equals("if") ? test() : null;
                if (test != null) take(",");
                Sum a = sum();
                take(",");
                Sum b = sum();
                take(")");
                open--;
                if (test != null) return e -> test.applyAsInt(e) == 1 ? a.applyAsInt(e) : b.applyAsInt(e);
                return token.equals("min") ? e -> Math.min(a.applyAsInt(e), b.applyAsInt(e))
                        : e -> Math.max(a.applyAsInt(e), b.applyAsInt(e));
            }
            List<String> asked = new ArrayList<>(List.of("tone", "waits", "minute", "long"));
            if (where.equals("picks")) asked.addAll(List.of("load", "pitch"));
            if (where.equals("mixes")) asked.addAll(List.of("pitch", "busy"));
            if (where.equals("hush")) asked.add("calm");
            if (!asked.contains(token)) throw wrong();
            take();
            return e -> e.get(token);
        }

        Sum test() {
            Sum left = both();
            while (ahead().equals("or")) {
                take();
                Sum a = left;
                Sum b = both();
                left = e -> a.applyAsInt(e) == 1 || b.applyAsInt(e) == 1 ? 1 : 0;
            }
            return left;
        }

        Sum both() {
            Sum left = fact();
            while (ahead().equals("and")) {
                take();
                Sum a = left;
                Sum b = fact();
                left = e -> a.applyAsInt(e) == 1 && b.applyAsInt(e) == 1 ? 1 : 0;
            }
            return left;
        }

        Sum fact() {
            String token = ahead();
            if (token.equals("not")) {
                open();
                Sum inner = fact();
                open--;
                return e -> 1 - inner.applyAsInt(e);
            }
            if (token.equals("[")) {
                open();
                Sum inner = test();
                take("]");
                open--;
                return inner;
            }
            if (token.equals("all")) {
                take();
                return e -> 1;
            }
            Sum a = sum();
            String sign = ahead();
            if (!List.of("<", ">", "=").contains(sign)) throw wrong();
            take();
            Sum b = sum();
            return e -> {
                int c = Integer.compare(a.applyAsInt(e), b.applyAsInt(e));
                return (sign.equals("<") ? c < 0 : sign.equals(">") ? c > 0 : c == 0) ? 1 : 0;
            };
        }
    }

    // ---- minutes

    Town town = new Town();
    State now = new State();
    final Deque<State> past = new ArrayDeque<>();
    final List<int[]> heard = new ArrayList<>();
    final int[] refused = new int[6];
    private byte[] tape = new byte[0];
    private int[] picture = new int[0];
    private int fault;
    private int place = NONE;
    private long seed = 1;

    Map<String, Integer> facts(State st, int s) {
        Map<String, Integer> facts = new HashMap<>();
        Want want = town.wants.get(s);
        facts.put("tone", town.persons.get(want.person).pitch);
        facts.put("waits", st.sayings.get(s).waited);
        facts.put("minute", st.minute);
        facts.put("long", want.length);
        return facts;
    }

    int sumOfPicks(State st, int s, int v) {
        Map<String, Integer> facts = facts(st, s);
        facts.put("load", st.voices.get(v).begun);
        facts.put("pitch", st.voices.get(v).pitch);
        if (town.picks == null) return 9 - Math.abs(facts.get("pitch") - facts.get("tone"));
        return town.picks.applyAsInt(facts);
    }

    /** One MINUTE; what SOUNDS ahead of its MINUTE being less goes to sounding, if it is given. */
    void minute(State st, int allowed, int[] sounding) {
        for (Saying s : st.sayings) if (s.what == 0 && s.due <= st.minute) s.what = 1;
        for (int s = 0; s < st.sayings.size(); s++) {
            Saying saying = st.sayings.get(s);
            if (saying.what != 1) continue;
            int best = NONE;
            int most = 0;
            for (int v = 0; v < st.voices.size(); v++) {
                if ((allowed >> v & 1) == 0 || !st.free(v)) continue;
                int sum = sumOfPicks(st, s, v);
                if (sum > most) {
                    most = sum;
                    best = v;
                }
            }
            if (best == NONE) continue;
            saying.what = 2;
            saying.voice = best;
            saying.left = town.wants.get(s).length;
            Voice voice = st.voices.get(best);
            voice.begun = Math.min(99, voice.begun + 1);
            Map<String, Integer> facts = facts(st, s);
            facts.put("pitch", voice.pitch);
            facts.put("busy", st.busy());
            saying.mixed = town.mixes != null && town.mixes.applyAsInt(facts) == 1;
        }
        for (int s = 0; s < st.sayings.size(); s++) {
            Saying saying = st.sayings.get(s);
            if (saying.what != 1) continue;
            saying.waited = Math.min(99, saying.waited + 1);
            int calm = town.persons.get(town.wants.get(s).person).calm;
            Map<String, Integer> facts = facts(st, s);
            facts.put("calm", calm);
            boolean hush = town.hush == null ? saying.waited > calm : town.hush.applyAsInt(facts) == 1;
            if (hush) st.end(s, 4);
        }
        for (int s = 0; s < st.sayings.size(); s++) {
            Saying saying = st.sayings.get(s);
            if (sounding != null) sounding[s] = saying.what == 2 ? saying.voice : 255;
            if (saying.what == 2 && --saying.left == 0) st.end(s, 3);
        }
        st.minute = Math.min(999, st.minute + 1);
    }

    State ahead(State from, int n) {
        State st = from.copy();
        for (int i = 0; i < n; i++) minute(st, 127, null);
        return st;
    }

    void strike(State st, int v) {
        int s = st.by(v);
        st.voices.get(v).struck = true;
        if (s != NONE) st.end(s, 5);
    }

    int draw(int m) {
        seed = (1103515245L * seed + 12345L) % (1L << 31);
        return (int) (seed / 64 % m);
    }

    boolean isVoice(int v) {
        return v >= 0 && v < now.voices.size();
    }

    boolean isSaying(int s) {
        return s >= 0 && s < now.sayings.size();
    }

    boolean can(int n, int least, int most) {
        return n >= least && n <= most && n + now.minute <= 999;
    }

    int no(int group) {
        refused[group]++;
        return NONE;
    }

    void act() {
        past.addLast(now.copy());
        if (past.size() > 20) past.removeFirst();
    }

    // ---- the calls, by their names

    int feed(int... numbers) {
        if (tape.length + 20 > 1600) return no(0);
        byte[] longer = Arrays.copyOf(tape, tape.length + 20);
        for (int i = 0; i < 20; i++) longer[tape.length + i] = (byte) (numbers[i / 4] >> (24 - 8 * (i % 4)));
        tape = longer;
        return tape.length;
    }

    boolean end(int n) {
        if (n < 0 || n > tape.length) return no(0) != NONE;
        tape = Arrays.copyOf(tape, n);
        return true;
    }

    private byte[] rip() {
        byte[] told = tape;
        tape = new byte[0];
        return told;
    }

    int town() {
        StringBuilder text = new StringBuilder();
        for (byte b : rip()) text.append((char) (b & 255));
        fault = 0;
        place = NONE;
        try {
            town = new Parser(text.toString()).read();
        } catch (Fault f) {
            fault = f.kind;
            place = f.place;
            return no(1);
        }
        now = new State();
        for (int pitch : town.pitches) {
            Voice v = new Voice();
            v.pitch = pitch;
            now.voices.add(v);
        }
        for (Want want : town.wants) {
            Saying s = new Saying();
            s.due = want.due;
            now.sayings.add(s);
        }
        past.clear();
        heard.clear();
        return town.statements;
    }

    int fault(int what) {
        return what == 0 ? fault : what == 1 ? place : NONE;
    }

    int has(int what) {
        int struck = 0;
        for (Voice v : now.voices) if (v.struck) struck++;
        if (what >= 6 && what <= 11) return now.count(k -> k == what - 6);
        return switch (what) {
            case 0 -> town.voices.size();
            case 1 -> town.persons.size();
            case 2 -> town.wants.size();
            case 3 -> now.minute;
            case 4 -> struck;
            case 5 -> now.busy();
            case 12 -> Math.min(40, now.kept.size());
            case 13 -> heard.size();
            case 14 -> past.size();
            case 15 -> (int) seed;
            default -> NONE;
        };
    }

    int letter(int kind, int which, int k) {
        if (k < 0 || k > 5 || which < 0) return NONE;
        String name = null;
        if (kind == 0 && which < town.voices.size()) name = town.voices.get(which);
        if (kind == 1 && which < town.persons.size()) name = town.persons.get(which).name;
        if (name == null) return NONE;
        return k < name.length() ? name.charAt(k) - 'a' + 1 : 0;
    }

    int voice(int v, int what) {
        if (!isVoice(v)) return NONE;
        Voice voice = now.voices.get(v);
        return switch (what) {
            case 0 -> voice.pitch;
            case 1 -> voice.struck ? 1 : 0;
            case 2 -> voice.begun;
            case 3 -> now.by(v);
            default -> NONE;
        };
    }

    int person(int p, int what) {
        if (p < 0 || p >= town.persons.size()) return NONE;
        int all = 0;
        int sound = 0;
        for (int s = 0; s < town.wants.size(); s++) {
            if (town.wants.get(s).person != p) continue;
            all++;
            if (now.sayings.get(s).what == 2) sound++;
        }
        return switch (what) {
            case 0 -> town.persons.get(p).pitch;
            case 1 -> town.persons.get(p).calm;
            case 2 -> all;
            case 3 -> sound;
            default -> NONE;
        };
    }

    int saying(int s, int what) {
        if (!isSaying(s)) return NONE;
        Saying saying = now.sayings.get(s);
        return switch (what) {
            case 0 -> town.wants.get(s).person;
            case 1 -> saying.due;
            case 2 -> town.wants.get(s).length;
            case 3 -> saying.what;
            case 4 -> saying.waited;
            case 5 -> saying.voice;
            case 6 -> saying.left;
            case 7 -> saying.mixed ? 1 : 0;
            default -> NONE;
        };
    }

    long picks(int s, int v) {
        return isSaying(s) && isVoice(v) ? sumOfPicks(now, s, v) : NOTHING;
    }

    int later(int s, int n, int what) {
        if (!isSaying(s) || !can(n, 0, 60) || what < 0 || what > 2) return NONE;
        Saying saying = ahead(now, n).sayings.get(s);
        return what == 0 ? saying.what : what == 1 ? saying.voice : saying.mixed ? 1 : 0;
    }

    int ends(int s) {
        if (!isSaying(s)) return NONE;
        for (int n = 0; can(n, 0, 60); n++) if (ahead(now, n).sayings.get(s).what > 2) return n;
        return NONE;
    }

    int busy(int n) {
        return can(n, 0, 60) ? ahead(now, n).busy() : NONE;
    }

    /** Tries every row, the first rows first. */
    private void rows(int s, int[] row, int sum, int[] best) {
        if (s == row.length) {
            if (sum <= best[row.length]) return;
            System.arraycopy(row, 0, best, 0, row.length);
            best[row.length] = sum;
            return;
        }
        row[s] = NONE;
        rows(s + 1, row, sum, best);
        if (now.sayings.get(s).what != 1) return;
        for (int v = 0; v < now.voices.size(); v++) {
            boolean taken = !now.free(v);
            for (int r = 0; r < s; r++) taken |= row[r] == v;
            if (taken) continue;
            int more = sumOfPicks(now, s, v);
            if (more <= 0) continue;
            row[s] = v;
            rows(s + 1, row, sum + more, best);
        }
        row[s] = NONE;
    }

    int match(int s) {
        if (s != NONE && !isSaying(s)) return NONE;
        int size = now.sayings.size();
        int[] best = new int[size + 1];
        Arrays.fill(best, NONE);
        rows(0, new int[size], 0, best);
        return s == NONE ? best[size] : best[s];
    }

    int choir(int n) {
        if (!can(n, 1, 30)) return NONE;
        int best = NONE;
        for (int bits = (1 << now.voices.size()) - 1; bits >= 0; bits--) {
            boolean good = true;
            for (int v = 0; v < now.voices.size(); v++) {
                if ((bits >> v & 1) != 0 && now.voices.get(v).struck) good = false;
            }
            if (!good) continue;
            State st = now.copy();
            for (int i = 0; i < n; i++) minute(st, bits, null);
            if (st.count(k -> k == 4) != now.count(k -> k == 4)) continue;
            if (best == NONE || Integer.bitCount(bits) <= Integer.bitCount(best)) best = bits;
        }
        return best;
    }

    int worst(int n, int what) {
        if (!can(n, 1, 30) || what < 0 || what > 1) return NONE;
        int[] best = {NONE, NONE};
        for (int v = now.voices.size() - 1; v >= 0; v--) {
            if (now.voices.get(v).struck) continue;
            State st = now.copy();
            strike(st, v);
            int lost = ahead(st, n).count(k -> k == 4 || k == 5);
            if (lost >= best[1]) best = new int[] {v, lost};
        }
        return best[what];
    }

    int tune(int v, int n, int what) {
        if (!isVoice(v) || !can(n, 1, 30) || what < 0 || what > 1) return NONE;
        int[] best = {NONE, NONE};
        for (int pitch = 9; pitch >= 0; pitch--) {
            State st = now.copy();
            st.voices.get(v).pitch = pitch;
            int said = ahead(st, n).count(k -> k == 3);
            if (said >= best[1]) best = new int[] {pitch, said};
        }
        return best[what];
    }

    int needed(int v) {
        if (!isVoice(v)) return NONE;
        int n = 0;
        for (int s = 0; s < now.sayings.size(); s++) {
            if (now.sayings.get(s).what != 1 || !now.free(v) || sumOfPicks(now, s, v) <= 0) continue;
            boolean only = true;
            for (int w = 0; w < now.voices.size(); w++) {
                if (w != v && now.free(w) && sumOfPicks(now, s, w) > 0) only = false;
            }
            if (only) n++;
        }
        return n;
    }

    int odds(int s) {
        if (s != NONE && !isSaying(s) || now.voices.isEmpty() || now.minute >= 999) return NONE;
        int n = 0;
        for (int number = 0; number < 100; number++) {
            for (int v = 0; v < now.voices.size(); v++) {
                State st = now.copy();
                if (number < town.stroke && !st.voices.get(v).struck) strike(st, v);
                minute(st, 127, null);
                if (s == NONE || st.sayings.get(s).what == 5) n++;
            }
        }
        return n;
    }

    int hear() {
        byte[] told = rip();
        int rows = told.length / 3;
        if (told.length % 3 != 0 || rows < 1 || rows > 16) return no(5);
        List<int[]> list = new ArrayList<>();
        for (int i = 0; i < rows; i++) {
            int[] row = {told[3 * i] & 255, told[3 * i + 1] & 255, told[3 * i + 2] & 255};
            if (row[0] > 30 || !isSaying(row[1]) || !isVoice(row[2]) && row[2] != 255) return no(5);
            list.add(row);
        }
        heard.clear();
        heard.addAll(list);
        return rows;
    }

    private int[][] watch(int v, int pitch) {
        State st = now.copy();
        st.voices.get(v).pitch = pitch;
        int coming = Math.min(31, 999 - st.minute);
        int[][] seen = new int[coming][now.sayings.size()];
        for (int m = 0; m < coming; m++) minute(st, 127, seen[m]);
        return seen;
    }

    int pitches(int v) {
        if (!isVoice(v)) return NONE;
        int bits = 0;
        for (int pitch = 0; pitch < 10; pitch++) {
            int[][] seen = watch(v, pitch);
            boolean fits = true;
            for (int[] row : heard) fits &= row[0] < seen.length && seen[row[0]][row[1]] == row[2];
            if (fits) bits |= 1 << pitch;
        }
        return bits;
    }

    int tells(int v, int what) {
        if (!isVoice(v) || what < 0 || what > 2) return NONE;
        int left = pitches(v);
        int[] best = null;
        int coming = Math.min(31, 999 - now.minute);
        int[][][] seen = new int[10][][];
        for (int pitch = 0; pitch < 10; pitch++) seen[pitch] = watch(v, pitch);
        for (int m = 0; m < coming && left != 0; m++) {
            for (int s = 0; s < now.sayings.size(); s++) {
                Map<Integer, Integer> like = new HashMap<>();
                int most = 0;
                for (int pitch = 0; pitch < 10; pitch++) {
                    if ((left >> pitch & 1) != 0) most = Math.max(most, like.merge(seen[pitch][m][s], 1, Integer::sum));
                }
                if (best == null || most < best[2]) best = new int[] {m, s, most};
            }
        }
        return best == null ? NONE : best[what];
    }

    int minutes(int n) {
        if (!can(n, 1, 60)) return no(2);
        act();
        int said = now.count(k -> k == 3);
        for (int i = 0; i < n; i++) minute(now, 127, null);
        return now.count(k -> k == 3) - said;
    }

    int chance(int n) {
        if (!can(n, 1, 60)) return no(2);
        act();
        int struck = 0;
        for (int i = 0; i < n; i++) {
            if (draw(100) < town.stroke && !now.voices.isEmpty()) {
                int v = draw(now.voices.size());
                if (!now.voices.get(v).struck) {
                    strike(now, v);
                    struck++;
                }
            }
            minute(now, 127, null);
        }
        return struck;
    }

    boolean strike(int v) {
        if (!isVoice(v) || now.voices.get(v).struck) return no(3) != NONE;
        act();
        strike(now, v);
        return true;
    }

    boolean heal(int v) {
        if (!isVoice(v) || !now.voices.get(v).struck) return no(3) != NONE;
        act();
        now.voices.get(v).struck = false;
        return true;
    }

    boolean train(int v, int pitch) {
        if (!isVoice(v) || pitch < 0 || pitch > 9 || now.voices.get(v).pitch == pitch) return no(3) != NONE;
        act();
        now.voices.get(v).pitch = pitch;
        return true;
    }

    boolean delay(int s, int minute) {
        if (!isSaying(s) || minute < now.minute || minute > 999) return no(3) != NONE;
        Saying saying = now.sayings.get(s);
        if (saying.what != 0 || saying.due == minute) return no(3) != NONE;
        act();
        now.sayings.get(s).due = minute;
        return true;
    }

    boolean undo() {
        if (past.isEmpty()) return no(4) != NONE;
        now = past.removeLast();
        return true;
    }

    boolean seed(int told) {
        if (told < 0) return no(5) != NONE;
        seed = told;
        return true;
    }

    int kept(int k, int what) {
        int skipped = Math.max(0, now.kept.size() - 40);
        if (k < 0 || k >= now.kept.size() - skipped || what < 0 || what > 2) return NONE;
        return now.kept.get(k + skipped)[what];
    }

    static int seal(List<Integer> bytes) {
        int c = 199;
        for (int b : bytes) c = (5 * c + b) % 251;
        return c;
    }

    int image() {
        List<Integer> out = new ArrayList<>(List.of(now.minute / 256, now.minute % 256));
        for (Voice v : now.voices) out.addAll(List.of(v.pitch, v.struck ? 1 : 0, v.begun));
        for (Saying s : now.sayings) {
            out.addAll(List.of(s.what, s.due / 256, s.due % 256, s.waited));
            out.addAll(List.of(s.voice == NONE ? 255 : s.voice, s.left, s.mixed ? 1 : 0));
        }
        out.add(seal(out));
        picture = out.stream().mapToInt(i -> i).toArray();
        return picture.length;
    }

    int octet(int k) {
        return k >= 0 && k < picture.length ? picture[k] : NONE;
    }

    boolean on() {
        byte[] told = rip();
        State st = pictured(told);
        if (st == null) return no(5) != NONE;
        now = st;
        past.clear();
        return true;
    }

    private State pictured(byte[] told) {
        if (told.length != 3 + 3 * now.voices.size() + 7 * now.sayings.size()) return null;
        List<Integer> in = new ArrayList<>();
        for (byte b : told) in.add(b & 255);
        int mark = in.remove(in.size() - 1);
        if (seal(in) != mark) return null;
        int[] b = in.stream().mapToInt(i -> i).toArray();
        State st = new State();
        st.minute = 256 * b[0] + b[1];
        if (st.minute > 999) return null;
        int at = 2;
        for (int i = 0; i < now.voices.size(); i++, at += 3) {
            Voice v = new Voice();
            v.pitch = b[at];
            v.struck = b[at + 1] == 1;
            v.begun = b[at + 2];
            if (v.pitch > 9 || b[at + 1] > 1 || v.begun > 99) return null;
            st.voices.add(v);
        }
        for (int i = 0; i < now.sayings.size(); i++, at += 7) {
            Saying s = new Saying();
            s.what = b[at];
            s.due = 256 * b[at + 1] + b[at + 2];
            s.waited = b[at + 3];
            s.voice = b[at + 4];
            s.left = b[at + 5];
            s.mixed = b[at + 6] == 1;
            if (s.what > 5 || s.due > 999 || s.waited > 99 || b[at + 6] > 1) return null;
            if (s.what == 0 && s.waited > 0) return null;
            if (s.what == 2) {
                if (s.voice >= now.voices.size() || st.voices.get(s.voice).struck) return null;
                if (st.by(s.voice) != NONE || s.left < 1 || s.left > town.wants.get(i).length) return null;
            } else if (s.left != 0) {
                return null;
            }
            if (s.what == 3 || s.what == 5) {
                if (s.voice >= now.voices.size()) return null;
            } else if (s.what != 2) {
                if (s.voice != 255 || s.mixed) return null;
                s.voice = NONE;
            }
            st.sayings.add(s);
        }
        return st;
    }

    int status(int what) {
        return what >= 0 && what < 6 ? refused[what] : NONE;
    }
}
