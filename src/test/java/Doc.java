import java.io.IOException;
import java.nio.file.Files;
import java.nio.file.Path;
import java.util.Arrays;
import java.util.LinkedHashMap;
import java.util.Map;
import java.util.function.Function;
import java.util.function.Supplier;

/** The document, part by part: each test names the sentence that it stands for, and the sentence must stand there. */
final class Doc {
    private static final Path DOCUMENT = Path.of("../shared/DOC.md");
    private static final int PROMISES = 36;
    private static final Map<String, String> PARTS = new LinkedHashMap<>();
    private static final Map<String, boolean[]> NAMED = new LinkedHashMap<>();
    private static String sentence = "";

    private Doc() { }

    static void read() throws IOException {
        if (!Files.isReadable(DOCUMENT)) {
            System.out.println(DOCUMENT + " is not there: no sentence is looked up");
            return;
        }
        String text = Files.readString(DOCUMENT).replaceAll("```(text)?", " ").replaceAll("\\s+", " ");
        part(text, "What it is", "## What it is ", "## The public face");
        part(text, "Terms I", "I. A TOWN", "II. A SAYING");
        part(text, "Terms II", "II. A SAYING", "III. AHEAD");
        part(text, "Terms III", "III. AHEAD", "The constants:");
        part(text, "The constants", "The constants:", "Ahead of the calls");
        for (int n = 1; n <= PROMISES; n++) {
            part(text, "Promise " + n, "## Promise " + n + ":", n < PROMISES ? "## Promise " + (n + 1) + ":" : "## Not promised");
        }
    }

    private static void part(String text, String name, String from, String to) {
        int start = text.indexOf(from);
        int end = text.indexOf(to, start);
        Check.due(name + " stands in the document", start >= 0 && end > start, true);
        String words = start >= 0 && end > start ? text.substring(start, end) : "";
        int face = words.indexOf("`: ");
        if (name.startsWith("Promise") && face >= 0) words = words.substring(face + 3);
        PARTS.put(name, words);
        NAMED.put(name, new boolean[words.length()]);
    }

    static void is(String words) {
        name("What it is", words);
    }

    static void terms(String part, String words) {
        name("Terms " + part, words);
    }

    static void constants(String words) {
        name("The constants", words);
    }

    static void promise(int number, String words) {
        name("Promise " + number, words);
    }

    private static void name(String part, String words) {
        sentence = part + " \"" + (words.length() > 90 ? words.substring(0, 90) + ".." : words) + "\": ";
        if (PARTS.isEmpty()) return;
        String all = PARTS.getOrDefault(part, "");
        int at = all.indexOf(words);
        Check.due(part + " says: " + words, at >= 0, true);
        if (at >= 0) Arrays.fill(NAMED.get(part), at, at + words.length(), true);
    }

    /** No word of the terms and the promises may be left that no test has named. */
    static void allIsNamed() {
        for (Map.Entry<String, String> part : PARTS.entrySet()) {
            if (!part.getKey().matches("Terms.*|Promise.*")) continue;
            StringBuilder left = new StringBuilder();
            boolean[] named = NAMED.get(part.getKey());
            for (int i = 0; i < named.length; i++) left.append(named[i] ? '|' : part.getValue().charAt(i));
            String rest = left.toString().replaceAll("\\|+", "|").replaceAll("^(I|II|III)\\. ", "");
            Check.due(part.getKey() + " without a test: " + rest, rest.matches("[^A-Za-z0-9]*"), true);
        }
    }

    // ---- answers

    static void due(String call, long got, long want) {
        Check.due(sentence + call, got, want);
    }

    static void due(String call, boolean got, boolean want) {
        Check.due(sentence + call, got, want);
    }

    static void row(String call, long[] got, long... want) {
        Check.due(sentence + call + " " + Arrays.toString(got) + ", due is " + Arrays.toString(want),
                Arrays.equals(got, want), true);
    }

    static long[] of(long... answers) {
        return answers;
    }

    /** A town that can be, with so many STATEMENTS. */
    static ThrownVoices good(String text) {
        ThrownVoices x = new ThrownVoices();
        Check.put(x, Check.bytes(text));
        int many = x.town();
        due("town() of " + text, many, text.chars().filter(c -> c == ';').count());
        row("fault() of " + text, of(x.fault(0), x.fault(1), x.status(1)), 0, -1, 0);
        return x;
    }

    /** A text with a FAULT; '^' stands in front of the byte that is its place. Nothing of it may be there then. */
    static void fault(int kind, String marked) {
        int place = marked.indexOf('^');
        ThrownVoices x = new ThrownVoices();
        Check.put(x, Check.bytes(marked.substring(0, place) + marked.substring(place + 1)));
        due("town() of " + marked, x.town(), -1);
        row("fault() of " + marked, of(x.fault(0), x.fault(1), x.status(1)), kind, place, 1);
        row("has() behind " + marked, of(x.has(0), x.has(1), x.has(2)), 0, 0, 0);
    }

    /** A call that is refused: it says so, it is counted with its kind alone, and all else stays. */
    static void refused(int kind, String call, Supplier<ThrownVoices> make, Function<ThrownVoices, Object> act) {
        ThrownVoices x = make.get();
        long[] counts = counts(x);
        String ahead = stand(x);
        Object got = act.apply(x);
        due(call + " is refused", got.equals(-1) || got.equals(false), true);
        counts[kind]++;
        row("status() behind " + call, counts(x), counts);
        due("all stays behind " + call, stand(x).equals(ahead), true);
    }

    private static long[] counts(ThrownVoices x) {
        return of(x.status(0), x.status(1), x.status(2), x.status(3), x.status(4), x.status(5));
    }

    /** All that stands, asked by few calls, for an object is used for 512 at most. */
    static String stand(ThrownVoices x) {
        StringBuilder out = new StringBuilder();
        for (int byteOf : Check.image(x)) out.append(byteOf).append(' ');
        for (int what = 12; what < 16; what++) out.append('/').append(x.has(what));
        for (int k = 0; k < x.has(12); k++) {
            out.append(' ').append(x.kept(k, 0)).append(',').append(x.kept(k, 1)).append(',').append(x.kept(k, 2));
        }
        out.append('/').append(x.pitches(0)).append('/').append(x.odds(-1)).append('/').append(x.picks(0, 0));
        for (int k = 0; k < 6; k++) out.append(' ').append(x.letter(0, 0, k));
        return out.toString();
    }

    // ---- towns at other minutes, and as images tell them

    static ThrownVoices go(ThrownVoices x, int minute) {
        for (int i = 0; i < 20 && x.has(3) < minute; i++) {
            due("minutes() up to " + minute, x.minutes(Math.min(60, minute - x.has(3))) >= 0, true);
        }
        return x;
    }

    static ThrownVoices at(int minute, String town) {
        return go(good(town), minute);
    }

    /** The place in an image of what tells a SAYING; of a VOICE it is 2 + 3 times its number. */
    static int placeOf(ThrownVoices x, int saying) {
        return 2 + 3 * x.has(0) + 7 * saying;
    }

    /** The image of what stands, with other bytes at some places: place, byte, place, byte .. */
    static int[] changed(ThrownVoices x, int... pairs) {
        int[] image = Check.image(x);
        for (int i = 0; i + 1 < pairs.length; i += 2) image[pairs[i]] = pairs[i + 1];
        return sealed(image);
    }

    static int[] sealed(int[] image) {
        int c = 199;
        for (int k = 0; k < image.length - 1; k++) c = (5 * c + image[k]) % 251;
        image[image.length - 1] = c;
        return image;
    }

    static ThrownVoices as(ThrownVoices x, int... pairs) {
        Check.put(x, changed(x, pairs));
        due("on() of bytes " + Arrays.toString(pairs), x.on(), true);
        return x;
    }

    /** What a DRAW makes of the seed. */
    static long next(long seed) {
        return (1103515245L * seed + 12345L) % (1L << 31);
    }

    static long drawn(long seed, int of) {
        return seed / 64 % of;
    }
}
