import java.nio.charset.StandardCharsets;

/** What the tests share: texts onto the tape, answers compared, the end of a test. */
final class Check {
    private static int wrong;
    private static int asked;

    private Check() { }

    static void due(String call, long got, long want) {
        asked++;
        if (got == want) return;
        wrong++;
        if (wrong <= 40) System.out.println(call + " answered " + got + ", due is " + want);
    }

    static void due(String call, boolean got, boolean want) {
        due(call, got ? 1 : 0, want ? 1 : 0);
    }

    static void due(String what, String got, String want) {
        due(what + " is <<" + got + ">>, due is <<" + want + ">>", got.equals(want), true);
    }

    static void end() {
        System.out.println(wrong == 0 ? asked + " answers, all as due" : wrong + " answers not as due");
        if (wrong != 0) System.exit(1);
    }

    static int number(byte[] bytes, int from) {
        int number = 0;
        for (int i = from; i < from + 4; i++) number = number << 8 | (i < bytes.length ? bytes[i] & 255 : 32);
        return number;
    }

    static void put(ThrownVoices x, byte[] bytes) {
        for (int i = 0; i < bytes.length; i += 20) {
            int many = x.feed(number(bytes, i), number(bytes, i + 4), number(bytes, i + 8),
                    number(bytes, i + 12), number(bytes, i + 16));
            due("feed for " + bytes.length + " bytes", many, i + 20);
        }
        due("end(" + bytes.length + ")", x.end(bytes.length), true);
    }

    static void put(ThrownVoices x, int... bytes) {
        byte[] row = new byte[bytes.length];
        for (int i = 0; i < bytes.length; i++) row[i] = (byte) bytes[i];
        put(x, row);
    }

    static byte[] bytes(String text) {
        return text.getBytes(StandardCharsets.ISO_8859_1);
    }

    /** A new object with this town, which must be a good one. */
    static ThrownVoices town(String text) {
        ThrownVoices x = new ThrownVoices();
        put(x, bytes(text));
        int many = x.town();
        due("town() of " + text, x.fault(0) * 10000L + x.fault(1), -1);
        due("town() of " + text, many, text.chars().filter(c -> c == ';').count());
        return x;
    }

    static int[] image(ThrownVoices x) {
        int[] bytes = new int[x.image()];
        for (int k = 0; k < bytes.length; k++) bytes[k] = x.octet(k);
        return bytes;
    }

    /** What stands now in one text, asked by few calls: an object is used for 512 at most. */
    static String all(ThrownVoices x) {
        StringBuilder out = new StringBuilder();
        for (int what = 0; what < 16; what++) out.append(x.has(what)).append(' ');
        for (int k = 0; k < x.has(12); k++) for (int what = 0; what < 3; what++) out.append(x.kept(k, what)).append(' ');
        for (int p = 0; p < x.has(1); p++) out.append(x.person(p, 0)).append(' ').append(x.person(p, 1)).append(' ');
        for (int s = 0; s < x.has(2); s++) out.append(x.picks(s, 0)).append(' ');
        for (int octet : image(x)) out.append(octet).append(' ');
        return out.toString();
    }
}
