import java.util.Random;

/** Random towns and random calls, each answered by the class and by the Model. */
public final class ModelTest {
    private static final String[] OWN = {"voice", "pitch", "person", "calm", "wants", "at", "long",
        "picks", "mixes", "hush", "stroke", "tone", "waits", "minute", "load", "busy", "if", "or",
        "and", "not", "all", "min", "max"};
    private static Random dice = new Random(1);
    private static ThrownVoices x;
    private static Model y;
    private static String log = "";
    private static int calls;

    private ModelTest() { }

    public static void main(String[] args) {
        int runs = args.length > 0 ? Integer.parseInt(args[0]) : 3000;
        for (int run = 0; run < runs; run++) {
            dice = new Random(run);
            log = "run " + run + ": ";
            begin();
            if (run % 4 == 0) {
                for (int i = 0; i < 15; i++) {
                    if (!room(90)) begin();
                    brokenTown();
                }
            } else {
                if (run % 4 != 3) tell(smallTown());
                while (room(160)) {
                    if (roll(60) == 0 && room(250)) tell(smallTown());
                    call();
                }
                compareState();
                while (room(1)) inspect();
            }
        }
        Check.end();
    }

    private static void begin() {
        x = new ThrownVoices();
        y = new Model();
        calls = 0;
    }

    /** An object is used for 512 calls at most; what later ones answer is free. */
    private static boolean room(int more) {
        return calls + more <= 512;
    }

    private static int roll(int n) {
        return dice.nextInt(n);
    }

    private static String oneOf(String... words) {
        return words[roll(words.length)];
    }

    private static void due(String call, long got, long want) {
        calls++;
        Check.due(log + call, got, want);
    }

    private static void due(String call, boolean got, boolean want) {
        calls++;
        Check.due(log + call, got, want);
    }

    private static void put(byte[] bytes) {
        for (int i = 0; i < bytes.length; i += 20) {
            int[] n = new int[5];
            for (int k = 0; k < 5; k++) n[k] = Check.number(bytes, i + 4 * k);
            due("feed", x.feed(n[0], n[1], n[2], n[3], n[4]), y.feed(n));
        }
        due("end(" + bytes.length + ")", x.end(bytes.length), y.end(bytes.length));
    }

    private static void tell(String text) {
        put(Check.bytes(text));
        due("town() of " + text, x.town(), y.town());
        due("fault(0) of " + text, x.fault(0), y.fault(0));
        due("fault(1) of " + text, x.fault(1), y.fault(1));
    }

    // ---- texts

    private static String sum(String where, int depth) {
        StringBuilder out = new StringBuilder(product(where, depth));
        while (roll(3) == 0) out.append(oneOf("+", "-", " - ", "\n+")).append(product(where, depth));
        return out.toString();
    }

    private static String product(String where, int depth) {
        StringBuilder out = new StringBuilder(part(where, depth));
        while (roll(4) == 0) out.append(oneOf("*", "/", "%", " % ")).append(part(where, depth));
        return out.toString();
    }

    private static String part(String where, int depth) {
        int kind = roll(depth > 0 ? 10 : 7);
        if (kind < 2) return String.valueOf(roll(3) == 0 ? roll(10000) : roll(12));
        if (kind < 7) {
            if (where.equals("picks")) return oneOf("tone", "waits", "minute", "long", "load", "pitch");
            if (where.equals("mixes")) return oneOf("tone", "waits", "minute", "long", "busy", "pitch");
            return oneOf("tone", "waits", "minute", "long", "calm");
        }
        if (kind == 7) return "(" + sum(where, depth - 1) + ")";
        if (kind == 8) {
            return oneOf("min", "max ") + "(" + sum(where, depth - 1) + "," + sum(where, depth - 1) + ")";
        }
        return "if(" + test(where, depth - 1) + "," + sum(where, depth - 1) + " , " + sum(where, depth - 1) + ")";
    }

    private static String test(String where, int depth) {
        StringBuilder out = new StringBuilder(fact(where, depth));
        while (roll(3) == 0) out.append(oneOf(" or ", " and ")).append(fact(where, depth));
        return out.toString();
    }

    private static String fact(String where, int depth) {
        int kind = roll(depth > 0 ? 10 : 8);
        if (kind == 0) return "all";
        if (kind < 8) return sum(where, depth) + oneOf("<", ">", "=") + sum(where, depth);
        return kind == 8 ? "not " + fact(where, depth - 1) : "[" + test(where, depth - 1) + "]";
    }

    private static String smallTown() {
        StringBuilder out = new StringBuilder();
        int voices = roll(12) == 0 ? 0 : 1 + roll(4);
        if (roll(10) == 0) voices = 7;
        int persons = roll(12) == 0 ? 0 : 1 + roll(3);
        if (roll(10) == 0) persons = 8;
        for (int v = 0; v < voices; v++) out.append("voice v" + (char) ('a' + v) + " pitch " + roll(10) + ";");
        for (int p = 0; p < persons; p++) {
            out.append("person p" + (char) ('a' + p) + " pitch " + roll(10) + " calm " + (roll(9) == 0 ? 99 : roll(5)) + ";");
        }
        int wants = persons == 0 ? 0 : roll(12) == 0 ? roll(3) : 3 + roll(voices > 4 ? 5 : 8);
        int late = roll(8) == 0 ? 990 : 0;
        for (int s = 0; s < wants; s++) {
            out.append("wants p" + (char) ('a' + roll(persons)) + " at " + (late + roll(10)));
            out.append(" long " + (1 + roll(roll(3) == 0 ? 20 : 5)) + ";");
        }
        if (roll(2) > 0) out.append("picks " + oneOf("9-load-tone+pitch", "load+1", "pitch*waits+tone+1",
                "10-max(pitch-tone,tone-pitch)", sum("picks", 3), sum("picks", 3)) + ";");
        if (roll(3) > 0) out.append("mixes " + test("mixes", 2) + ";");
        if (roll(2) > 0) out.append("hush " + oneOf("waits>calm*2", "waits>3 or long<2 and minute>4",
                "waits>2", test("hush", 2)) + ";");
        if (roll(3) > 0) out.append("stroke " + roll(101) + ";");
        return out.toString();
    }

    private static String brokenPiece() {
        switch (roll(8)) {
            case 0: return OWN[roll(OWN.length)];
            case 1: return String.valueOf(roll(20000));
            case 2: return oneOf(" ", "\n", "  ");
            case 3: return oneOf(";", "(", ")", "[", "]", ",", "+", "-", "*", "/", "%", "<", ">", "=");
            case 4: return oneOf("a", "va", "pa", "zebra", "abcdef", "abcdefg", "12345", "1a", "a1", "");
            case 5: return String.valueOf((char) roll(256));
            case 6: return oneOf("voice va pitch 1;", "person x pitch 10", "wants pa at 1 long 1;", "stroke 5;", "not ");
            default: return oneOf("((", "[[", "not not", "min(", "if(all,", "(1+", "all and ");
        }
    }

    private static String deepRule() {
        StringBuilder out = new StringBuilder(oneOf("mixes ", "hush "));
        int depth = 5 + roll(4);
        StringBuilder close = new StringBuilder();
        for (int i = 0; i < depth; i++) {
            boolean inSum = close.indexOf(")") >= 0;
            String open = inSum ? oneOf("(", "min(1,", "3*(") : oneOf("not ", "[", "[1<2 or ", "not 1=1 and ", "(", "max(");
            out.append(open);
            if (open.startsWith("[")) close.insert(0, "]");
            if (open.startsWith("max")) close.insert(0, ",2)");
            else if (open.endsWith("(") || open.startsWith("min")) close.insert(0, ")");
        }
        boolean inSum = close.indexOf(")") >= 0;
        out.append("1").append(inSum ? "" : "=1");
        int last = close.lastIndexOf(")");
        if (inSum) close.insert(last + 1, "<4");
        return out.append(close).append(";").toString();
    }

    /** As many statements as there may be, one fewer or one more, and something behind them. */
    private static void fillUp(StringBuilder text) {
        int statements = (int) text.chars().filter(c -> c == ';').count();
        for (int most = 79 + roll(3); statements < most; statements++) text.append("stroke 1;");
        if (roll(2) == 0) text.append(oneOf(" ", "\n"));
        text.append(brokenPiece());
    }

    private static void brokenTown() {
        StringBuilder text = new StringBuilder(smallTown());
        if (roll(12) == 0) for (int i = 0; i < 78; i++) text.append("stroke 1;");
        if (roll(12) == 0) fillUp(text);
        if (roll(6) == 0) text.append(deepRule());
        if (roll(12) == 0) text.append("person zed pitch 1 calm 1;wants " + oneOf("zed", "va", "no", "ze") + " at 0 long 1;");
        if (roll(6) == 0) {
            for (int v = 0; v < 8; v++) text.insert(0, "voice w" + (char) ('a' + v) + " pitch 1;");
        }
        for (int times = roll(4); times > 0 && text.length() > 0; times--) {
            int at = roll(text.length() + 1);
            int end = Math.min(text.length(), at + (roll(2) == 0 ? 0 : roll(6)));
            text.replace(at, end, brokenPiece());
        }
        if (roll(4) == 0) text.setLength(roll(text.length() + 1));
        while (text.length() > 1600) text.setLength(1600);
        tell(text.toString());
    }

    // ---- calls

    private static int few(int most) {
        return roll(20) == 0 ? oneOfNumbers() : roll(most + 2) - 1;
    }

    private static int oneOfNumbers() {
        int[] far = {Integer.MIN_VALUE, Integer.MAX_VALUE, -2, 999, 1000, 255, 256, 61, 31, 100000};
        return far[roll(far.length)];
    }

    private static void call() {
        if (roll(4) == 0) {
            act();
        } else {
            ask();
        }
    }

    private static void act() {
        int a = few(8);
        int b = few(10);
        if (roll(9) != 0) a = roll(Math.max(1, y.now.voices.size() + 1));
        switch (roll(15)) {
            case 0: case 1: case 2: case 3:
                a = roll(9) == 0 ? few(60) : roll(9) == 0 ? few(6) : 1;
                due("minutes(" + a + ")", x.minutes(a), y.minutes(a));
                break;
            case 4:
                a = roll(4) == 0 ? few(4) : 1;
                due("chance(" + a + ")", x.chance(a), y.chance(a));
                break;
            case 5: due("strike(" + a + ")", x.strike(a), y.strike(a)); break;
            case 6: due("heal(" + a + ")", x.heal(a), y.heal(a)); break;
            case 7: due("train(" + a + ", " + b + ")", x.train(a, b), y.train(a, b)); break;
            case 8:
                b = y.now.minute + roll(9) - 2;
                due("delay(" + a + ", " + b + ")", x.delay(a, b), y.delay(a, b));
                break;
            case 9: case 14: due("undo()", x.undo(), y.undo()); break;
            case 10:
                a = roll(3) == 0 ? oneOfNumbers() : roll(1 << 30);
                due("seed(" + a + ")", x.seed(a), y.seed(a));
                break;
            case 11: case 12: hear(); break;
            default: on();
        }
        for (int times = 0; times < 4; times++) inspect();
    }

    private static void hear() {
        byte[] rows = new byte[3 * (roll(9) == 0 ? roll(18) : 1 + roll(2)) + (roll(9) == 0 ? 1 : 0)];
        for (int i = 0; i < rows.length; i++) {
            int most = i % 3 == 0 ? 8 : i % 3 == 1 ? Math.max(1, y.now.sayings.size()) : 5;
            rows[i] = (byte) (i % 3 == 2 && roll(2) == 0 ? 255 : roll(15) == 0 ? roll(40) : roll(most));
        }
        if (roll(4) != 0 && rows.length == 3 && y.now.voices.size() > 0 && y.now.sayings.size() > 0) {
            // What will be heard if nothing changes fits to some pitch at least.
            int[] seen = new int[y.now.sayings.size()];
            Model.State st = y.ahead(y.now, 0);
            for (int m = 0; m <= (rows[0] & 255) && m < 31; m++) y.minute(st, 127, seen);
            if ((rows[1] & 255) < seen.length) rows[2] = (byte) seen[rows[1] & 255];
        }
        put(rows);
        due("hear()", x.hear(), y.hear());
    }

    private static void on() {
        boolean other = roll(3) == 0;
        byte[] bytes = other ? otherImage() : sameImage();
        for (int times = roll(other ? 2 : 3); times > 0; times--) {
            int at = roll(bytes.length);
            int[] likely = {0, 1, 2, 3, 4, 5, 9, 10, 99, 100, 255, roll(256), bytes[at] + 1, bytes[at] - 1};
            bytes[at] = (byte) likely[roll(likely.length)];
        }
        if (roll(6) != 0) {
            int c = 199;
            for (int k = 0; k < bytes.length - 1; k++) c = (5 * c + (bytes[k] & 255)) % 251;
            bytes[bytes.length - 1] = (byte) c;
        }
        if (roll(12) == 0) bytes = java.util.Arrays.copyOf(bytes, Math.max(0, bytes.length + roll(3) - 1));
        put(bytes);
        due("on()", x.on(), y.on());
    }

    private static byte[] sameImage() {
        byte[] bytes = new byte[y.image()];
        due("image()", x.image(), bytes.length);
        for (int k = 0; k < bytes.length; k++) bytes[k] = (byte) y.octet(k);
        return bytes;
    }

    /** What minutes alone seldom lead to: many that WAIT long, VOICES STRUCK, worn out, all busy. */
    private static byte[] otherImage() {
        int voices = y.now.voices.size();
        boolean[] taken = new boolean[voices];
        byte[] bytes = new byte[3 + 3 * voices + 7 * y.now.sayings.size()];
        bytes[1] = (byte) roll(13);
        int at = 2;
        for (int v = 0; v < voices; v++, at += 3) {
            taken[v] = roll(5) == 0;
            bytes[at] = (byte) roll(10);
            bytes[at + 1] = (byte) (taken[v] ? 1 : 0);
            bytes[at + 2] = (byte) (roll(2) == 0 ? roll(4) : 97 + roll(3));
        }
        for (int s = 0; s < y.now.sayings.size(); s++, at += 7) {
            int voice = roll(Math.max(1, voices));
            int what = new int[] {0, 1, 1, 1, 2, 2, 3, 4, 5}[roll(9)];
            boolean has = what == 2 || what == 3 || what == 5;
            if (has && voices == 0 || what == 2 && taken[voice]) what = 1;
            if (what == 2) taken[voice] = true;
            has = what == 2 || what == 3 || what == 5;
            bytes[at] = (byte) what;
            bytes[at + 2] = (byte) roll(15);
            bytes[at + 3] = (byte) (what == 0 ? 0 : roll(4) == 0 ? 97 + roll(3) : roll(4));
            bytes[at + 4] = (byte) (has ? voice : 255);
            bytes[at + 5] = (byte) (what == 2 ? 1 + roll(y.town.wants.get(s).length()) : 0);
            bytes[at + 6] = (byte) (has ? roll(2) : 0);
        }
        return bytes;
    }

    private static void ask() {
        int a = few(roll(3) == 0 ? 12 : Math.max(0, y.now.sayings.size() - 1));
        int b = few(roll(3) == 0 ? 8 : Math.max(0, y.now.voices.size() - 1));
        int n = few(31);
        int far = few(61);
        int what = few(3);
        switch (roll(12)) {
            case 0: due("later(" + a + ", " + far + ", " + what + ")", x.later(a, far, what), y.later(a, far, what)); break;
            case 1: due("ends(" + a + ")", x.ends(a), y.ends(a)); break;
            case 2: due("busy(" + far + ")", x.busy(far), y.busy(far)); break;
            case 3:
                due("match(" + a + ")", x.match(a), y.match(a));
                due("match(-1)", x.match(-1), y.match(-1));
                break;
            case 4: due("choir(" + n + ")", x.choir(n), y.choir(n)); break;
            case 5: due("worst(" + n + ", " + what + ")", x.worst(n, what), y.worst(n, what)); break;
            case 6: due("tune(" + b + ", " + n + ", " + what + ")", x.tune(b, n, what), y.tune(b, n, what)); break;
            case 7: due("needed(" + b + ")", x.needed(b), y.needed(b)); break;
            case 8: due("odds(" + a + ")", x.odds(a), y.odds(a)); break;
            case 9: due("pitches(" + b + ")", x.pitches(b), y.pitches(b)); break;
            case 10: due("tells(" + b + ", " + what + ")", x.tells(b, what), y.tells(b, what)); break;
            default:
                due("octet(" + n + ")", x.octet(n), y.octet(n));
                due("end(" + n + ")", x.end(n), y.end(n));
                due("picks(" + a + ", " + b + ")", x.picks(a, b), y.picks(a, b));
        }
    }

    private static void compareState() {
        for (int what = -1; what < 17; what++) due("has(" + what + ")", x.has(what), y.has(what));
        for (int what = -1; what < 8; what++) due("status(" + what + ")", x.status(what), y.status(what));
        due("image()", x.image(), y.image());
        for (int k = -1; k < 110; k++) due("octet(" + k + ")", x.octet(k), y.octet(k));
    }

    /** One call that tells what stands now. */
    private static void inspect() {
        int s = few(Math.max(0, y.now.sayings.size() - 1));
        int v = few(Math.max(0, y.now.voices.size() - 1));
        int p = few(8);
        int what = few(3);
        switch (roll(10)) {
            case 0: case 1:
                what = few(15);
                due("has(" + what + ")", x.has(what), y.has(what));
                break;
            case 2:
                what = few(5);
                due("status(" + what + ")", x.status(what), y.status(what));
                break;
            case 3: case 4: due("voice(" + v + ", " + what + ")", x.voice(v, what), y.voice(v, what)); break;
            case 5: due("person(" + p + ", " + what + ")", x.person(p, what), y.person(p, what)); break;
            case 6: case 7:
                what = few(7);
                due("saying(" + s + ", " + what + ")", x.saying(s, what), y.saying(s, what));
                break;
            case 8: due("kept(" + p + ", " + what + ")", x.kept(p, what), y.kept(p, what)); break;
            default:
                int kind = roll(2);
                int k = few(5);
                due("letter(" + kind + ", " + p + ", " + k + ")", x.letter(kind, p, k), y.letter(kind, p, k));
        }
    }
}
