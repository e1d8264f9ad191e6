import java.util.function.Supplier;

/** Promises 1 to 23: each range's last value, the first beyond it, and what is answered when there is none such. */
final class PromiseBounds {
    private static final int MIN = Integer.MIN_VALUE;
    private static final int MAX = Integer.MAX_VALUE;
    private static final int BLANKS = 0x20202020;
    private static final String V = "voice v pitch 5;";
    private static final String VW = "voice v pitch 5;voice w pitch 5;";
    private static final String P = "person p pitch 5 calm 9;";
    private static final int[] OTHERS = {MIN, -1000, -2, -1, 1000, MAX};

    private PromiseBounds() { }

    static void check() {
        constants();
        calls();
        newObject();
        feed();
        end();
        town();
        townThatStays();
        townAtFirst();
        townsInARow();
        fault();
        has();
        letter();
        voice();
        person();
        saying();
        picks();
        later();
        ends();
        busy();
        match();
        choir();
        worst();
        tune();
        needed();
        odds();
        hear();
        hearRefused();
        pitches();
        tells();
    }

    private static void constants() {
        Doc.constants("`NONE = -1`: None; refused.");
        Doc.due("NONE", ThrownVoices.NONE, -1);
        Doc.constants("`NOTHING = -1000000000000000L`: Told where a number below 0 may be one.");
        Doc.due("NOTHING", ThrownVoices.NOTHING, -1000000000000000L);
    }

    private static void calls() {
        Doc.is("An object is used for at most 512 calls after it has been made;");
        ThrownVoices x = new ThrownVoices();
        for (int i = 0; i < 510; i++) x.seed(i);
        Doc.due("call 511", x.has(15), 509);
        Doc.due("call 512", x.minutes(60), 0);
        x = new ThrownVoices();
        for (int i = 0; i < 256; i++) {
            Doc.due("minutes(3)", x.minutes(3), 0);
            Doc.due("undo()", x.undo(), true);
        }
    }

    private static void newObject() {
        Doc.promise(1, "No VOICES, nobody; the seed is 1.");
        ThrownVoices x = new ThrownVoices();
        for (int what = 0; what < 15; what++) Doc.due("has(" + what + ")", x.has(what), 0);
        Doc.due("has(15)", x.has(15), 1);
        Doc.row("nobody", Doc.of(x.voice(0, 0), x.person(0, 0), x.saying(0, 0), x.letter(0, 0, 0), x.letter(1, 0, 0)), -1, -1,
                -1, -1, -1);
        Doc.row("sums", Doc.of(x.picks(0, 0), x.match(-1), x.match(0), x.odds(-1), x.needed(0)), ThrownVoices.NOTHING, 0, -1,
                -1, -1);
        Doc.row("ahead", Doc.of(x.later(0, 0, 0), x.ends(0), x.busy(0), x.busy(60), x.choir(1), x.worst(1, 0), x.worst(1, 1),
                x.tune(0, 1, 0)),
                -1, -1, 0, 0, 0, -1, -1, -1);
        Doc.row("told", Doc.of(x.pitches(0), x.tells(0, 0), x.fault(0), x.fault(1), x.octet(0), x.kept(0, 0)), -1, -1, 0, -1,
                -1, -1);
        for (int what = 0; what < 6; what++) Doc.due("status(" + what + ")", x.status(what), 0);
        Doc.row("acts", Doc.of(x.strike(0) ? 1 : 0, x.heal(0) ? 1 : 0, x.train(0, 1) ? 1 : 0, x.delay(0, 1) ? 1 : 0, x.undo()
                ? 1 : 0), 0, 0, 0, 0, 0);
        Doc.due("end(0) of an empty tape", x.end(0), true);
        Doc.due("end(1) of an empty tape", x.end(1), false);
        Doc.due("town() of an empty tape", x.town(), 0);
        Doc.due("image()", x.image(), 3);
    }

    // ---- the tape

    private static int blanks(ThrownVoices x) {
        return x.feed(BLANKS, BLANKS, BLANKS, BLANKS, BLANKS);
    }

    private static void feed() {
        Doc.promise(2, "Twenty bytes come behind those on the tape, of each number the highest first: how many there are;");
        // "stroke 7;stroke 100;" is twenty bytes.
        ThrownVoices x = new ThrownVoices();
        Doc.due("feed()", x.feed(0x7374726f, 0x6b652037, 0x3b737472, 0x6f6b6520, 0x3130303b), 20);
        Doc.due("feed() behind them", x.feed(0x7374726f, 0x6b652037, 0x3b737472, 0x6f6b6520, 0x3130303b), 40);
        Doc.due("town()", x.town(), 4);
        // Each of the twenty bytes stands where it belongs: the one that is no blank is the fault's place.
        for (int k = 0; k < 20; k++) {
            int[] n = {BLANKS, BLANKS, BLANKS, BLANKS, BLANKS};
            n[k / 4] |= 0xdf << 24 - 8 * (k % 4);
            blanks(x);
            Doc.due("feed()", x.feed(n[0], n[1], n[2], n[3], n[4]), 40);
            x.town();
            Doc.row("byte " + k, Doc.of(x.fault(0), x.fault(1)), 1, 20 + k);
        }
        Doc.promise(2, "NONE, refused (0), if there would be more than 1600.");
        x = new ThrownVoices();
        x.feed(0x7374726f, 0x6b652037, 0x3b737472, 0x6f6b6520, 0x3130303b);
        for (int i = 2; i <= 80; i++) Doc.due("feed " + i, blanks(x), 20 * i);
        Doc.row("1600 and 20", Doc.of(x.feed(-1, -1, -1, -1, -1), x.status(0)), -1, 1);
        Doc.due("end(1600)", x.end(1600), true);
        Doc.due("end(1581)", x.end(1581), true);
        Doc.row("1581 and 20", Doc.of(x.feed(-1, -1, -1, -1, -1), x.status(0)), -1, 2);
        Doc.due("end(1582), for it was refused whole", x.end(1582), false);
        Doc.due("end(1580)", x.end(1580), true);
        Doc.due("1580 and 20", blanks(x), 1600);
        Doc.row("town() of what was on the tape", Doc.of(x.town(), x.status(0)), 2, 3);
        Doc.due("the tape went", blanks(x), 20);
        Doc.row("other counts", Doc.of(x.status(1), x.status(2), x.status(3), x.status(4), x.status(5)), 0, 0, 0, 0, 0);
    }

    private static void end() {
        Doc.promise(3, "The tape has its first n bytes alone: true;");
        byte[] two = Check.bytes("stroke 7;stroke 100;");
        int[][] cases = {{0, 0}, {9, 1}, {20, 2}};
        for (int[] one : cases) {
            ThrownVoices x = new ThrownVoices();
            Check.put(x, two);
            Doc.due("end(" + one[0] + ")", x.end(one[0]), true);
            Doc.due("town() of so many", x.town(), one[1]);
        }
        ThrownVoices x = new ThrownVoices();
        Check.put(x, two);
        x.end(9);
        Doc.due("feed() behind end(9)", x.feed(0x7374726f, 0x6b652037, 0x3b737472, 0x6f6b6520, 0x3130303b), 29);
        Doc.due("town() of 29 bytes", x.town(), 3);
        Check.put(x, two);
        x.end(10);
        x.town();
        Doc.row("town() of 10 bytes, the last a word of its own", Doc.of(x.fault(0), x.fault(1)), 1, 9);
        Doc.promise(3, "false, refused (0), if it has not so many, or n is below 0.");
        for (int n : new int[] {MIN, -1, 21, 22, 1600, MAX}) {
            x = new ThrownVoices();
            Check.put(x, two);
            Doc.due("end(" + n + ")", x.end(n), false);
            Doc.row("status", Doc.of(x.status(0), x.status(1), x.status(2), x.status(3), x.status(4), x.status(5)), 1, 0, 0, 0,
                    0, 0);
            Doc.due("the tape stays behind end(" + n + ")", x.town(), 2);
        }
        Doc.due("end(1) when the tape went", x.end(1), false);
        Doc.due("end(0) when the tape went", x.end(0), true);
    }

    // ---- the town

    private static void town() {
        Doc.promise(4, "The tape (it goes, refused or not) is THE TOWN: how many STATEMENTS (0 without);");
        ThrownVoices x = Doc.good(V + P);
        Doc.due("town() of an empty tape", x.town(), 0);
        Doc.row("nobody is there then", Doc.of(x.has(0), x.has(1)), 0, 0);
        blanks(x);
        Doc.due("town() of blanks", x.town(), 0);
        Doc.due("the tape went", x.end(1), false);
        Check.put(x, Check.bytes(V));
        Doc.due("town() of one", x.town(), 1);
        Doc.due("the tape went", x.end(1), false);
        Check.put(x, Check.bytes("stroke 1;".repeat(80)));
        Doc.due("town() of 80", x.town(), 80);
        Check.put(x, Check.bytes("stroke 1;".repeat(80) + "stroke 1;"));
        Doc.due("town() of 81", x.town(), -1);
        Doc.due("the tape went, refused", x.end(1), false);
        Doc.due("town() of an empty tape again", x.town(), 0);
        String whole = "stroke 1;" + " ".repeat(1591);
        Check.put(x, Check.bytes(whole));
        Doc.due("town() of 1600 bytes", x.town(), 1);
    }

    private static void townThatStays() {
        Doc.promise(4, "NONE, refused (1), with a FAULT (all stays).");
        String[] faults = {"$", "voice a pitch 1;voice a pitch 1;", "wants p at 0 long 1;", "stroke 101;",
                "picks ((((((((1))))))));", "picks 1;picks 1;",
            "voice a pitch 1;person q pitch 1 calm 1;picks 9;mixes all;hush all;stroke 100;wants q at 0 long 1"};
        Supplier<ThrownVoices> make = () -> {
            ThrownVoices x = Doc.at(2, VW + P + "wants p at 0 long 1;wants p at 1 long 3;wants p at 1 long 3;"
                    + "wants p at 9 long 3;stroke 50;picks 9-load;");
            x.strike(1);
            Check.put(x, 0, 0, 255);
            x.hear();
            return x;
        };
        for (String text : faults) {
            Doc.refused(1, "town() of " + text, make, x -> {
                Check.put(x, Check.bytes(text));
                return x.town();
            });
            ThrownVoices x = make.get();
            Check.put(x, Check.bytes(text));
            x.town();
            Doc.row("letters, lengths, rules and ACTS stay", Doc.of(x.letter(0, 1, 0), x.letter(1, 0, 0), x.saying(2, 2),
                    x.picks(2, 0), x.has(14), x.odds(2)),
                    23, 16, 3, 7, 2, 50);
            Doc.due("undo() still can", x.undo(), true);
            Doc.row("it was undone", Doc.of(x.voice(1, 1), x.has(8), x.saying(1, 5)), 0, 2, 1);
        }
    }

    private static void townAtFirst() {
        Doc.promise(4, "Without one all is as at first, nothing is KEPT or HEARD, no ACT can be undone; the seed stays.");
        String town = VW + "person p pitch 5 calm 0;wants p at 0 long 1;wants p at 1 long 3;wants p at 1 long 3;"
                + "wants p at 1 long 3;wants p at 9 long 3;stroke 50;mixes all;";
        String first = Doc.stand(Doc.good(town));
        ThrownVoices x = Doc.at(2, town);
        x.strike(1);
        x.train(0, 9);
        x.delay(4, 999);
        Check.put(x, 0, 0, 255);
        x.hear();
        Doc.row("it went on", Doc.of(x.has(3), x.has(9), x.has(10), x.has(11), x.has(12), x.has(13), x.has(14)), 2, 1, 1, 1, 3,
                1, 4);
        Check.put(x, Check.bytes(town));
        Doc.due("town()", x.town(), 10);
        Doc.due("all is as at first", Doc.stand(x).equals(first), true);
        Doc.due("undo()", x.undo(), false);
        x.seed(0);
        x.chance(7);
        int seed = x.has(15);
        Doc.due("town() of nothing", x.town(), 0);
        for (int what = 0; what < 15; what++) Doc.due("has(" + what + ")", x.has(what), 0);
        Doc.due("the seed stays", x.has(15), seed);
    }

    /** What one text left behind, refused or not, is nothing to the next one. */
    private static void townsInARow() {
        String[] faults = {"abcdefg", "12345", "picks (((((((", "mixes not not not [[[[1",
                "voice v pitch 1;picks 1;mixes all;hush all;stroke 100;x",
            V + P + "wants p at 1 long 20;".repeat(12) + "x", "stroke 1;".repeat(81), "voice v"};
        StringBuilder longRule = new StringBuilder(V + P + "wants p at 0 long 1;picks 2");
        while (longRule.length() < 1590) longRule.append("+1");
        for (String text : faults) {
            ThrownVoices x = new ThrownVoices();
            Check.put(x, Check.bytes(text));
            Doc.due("town() of " + text, x.town(), -1);
            for (int times = 0; times < 2; times++) {
                Check.put(x, Check.bytes(longRule + ";"));
                Doc.due("town() of a long rule behind " + text, x.town(), 4);
                Doc.due("its SUM", x.picks(0, 0), 2 + longRule.chars().filter(c -> c == '+').count());
            }
            Check.put(x, Check.bytes(text));
            Doc.due("town() of " + text, x.town(), -1);
            Check.put(x, Check.bytes("voice w pitch 5;" + P + "wants p at 0 long 2;picks (((((((pitch)))))));"
                    + "hush not[not[not[not 1=1]]];"));
            Doc.due("town() seven deep behind " + text, x.town(), 5);
            Doc.row("it is as it was told", Doc.of(x.has(0), x.has(2), x.picks(0, 0), x.later(0, 1, 2), x.ends(0)), 1, 1, 5, 0,
                    2);
            x.minutes(1);
            Doc.due("odds() without stroke", x.odds(0), 0);
        }
    }

    private static void fault() {
        Doc.promise(5, "Of the latest town(): its FAULT (what 0; 0 without, and ahead of any), its place (1; NONE without).");
        ThrownVoices x = new ThrownVoices();
        Doc.row("ahead of any", Doc.of(x.fault(0), x.fault(1)), 0, -1);
        String[] texts = {"$", V + "voice v pitch 1;", "wants p at 0 long 1;", "stroke 101;", "picks ((((((((1))))))));",
                "picks 1;picks 1;"};
        int[] places = {0, 22, 6, 7, 13, 8};
        for (int kind = 1; kind < 7; kind++) {
            Check.put(x, Check.bytes(texts[kind - 1]));
            x.town();
            Doc.row("FAULT " + kind, Doc.of(x.fault(0), x.fault(1)), kind, places[kind - 1]);
        }
        x.end(1);
        x.hear();
        Doc.row("of the latest town() alone", Doc.of(x.fault(0), x.fault(1)), 6, 8);
        Check.put(x, Check.bytes(V));
        x.town();
        Doc.row("without", Doc.of(x.fault(0), x.fault(1)), 0, -1);
        Check.put(x, Check.bytes("stroke 1" + " ".repeat(1592)));
        x.town();
        Doc.row("the furthest place", Doc.of(x.fault(0), x.fault(1)), 1, 1600);
        Doc.promise(5, "NONE for another what.");
        for (int what : new int[] {MIN, -2, -1, 2, 3, MAX}) Doc.due("fault(" + what + ")", x.fault(what), -1);
    }

    private static void has() {
        Doc.promise(6, "How many there are: 0 VOICES, 1 PERSONS, 2 SAYINGS, 3 MINUTE, 4 VOICES that are STRUCK, 5 busy, 6 SAYINGS TO COME, 7 that WAIT,"
                + " 8 that SOUND, 9 SAID, 10 HUSHED, 11 BROKEN, 12 told as KEPT, 13 rows HEARD, 14 ACTS that can be undone, 15 the seed.");
        ThrownVoices x = Doc.good(VW + "voice u pitch 5;person p pitch 5 calm 0;person q pitch 5 calm 9;"
                + "person r pitch 9 calm 9;person s pitch 0 calm 0;"
                + "wants p at 0 long 9;wants p at 0 long 9;wants p at 0 long 1;wants p at 0 long 1;"
                + "wants q at 1 long 9;wants q at 1 long 9;wants q at 1 long 9;wants q at 500 long 9;wants q at 500 long 9;"
                + "wants q at 500 long 9;");
        x.seed(77);
        x.minutes(1);
        x.strike(0);
        x.strike(1);
        x.minutes(1);
        Check.put(x, 0, 0, 255, 1, 1, 255);
        x.hear();
        long[] got = new long[16];
        for (int what = 0; what < 16; what++) got[what] = x.has(what);
        Doc.row("has(0 .. 15)", got, 3, 4, 10, 2, 2, 1, 3, 2, 1, 1, 1, 2, 4, 2, 4, 77);
        Doc.promise(6, "NONE for others.");
        for (int what : new int[] {MIN, -2, -1, 16, 17, MAX}) Doc.due("has(" + what + ")", x.has(what), -1);
    }

    private static void letter() {
        Doc.promise(7, "Letter k (0 .. 5) of the NAME of a VOICE (kind 0), a PERSON (1): 1 .. 26; 0 behind it;");
        ThrownVoices x = Doc.good("voice abyzaz pitch 1;voice z pitch 1;person azbyca pitch 1 calm 1;person yy pitch 1 calm 1;"
                + "person qwerty pitch 1 calm 1;");
        String[] names = {"abyzaz", "z", "azbyca", "yy", "qwerty"};
        for (int n = 0; n < 5; n++) {
            for (int k = 0; k < 6; k++) {
                int want = k < names[n].length() ? names[n].charAt(k) - 'a' + 1 : 0;
                Doc.due(names[n] + ", letter " + k, n < 2 ? x.letter(0, n, k) : x.letter(1, n - 2, k), want);
            }
        }
        Doc.promise(7, "NONE when there is none such.");
        int[][] none = {{0, 0, -1}, {0, 0, 6}, {1, 0, -1}, {1, 0, 6}, {0, -1, 0}, {0, 2, 0}, {1, -1, 0}, {1, 3, 0}, {-1, 0, 0},
                {2, 0, 0},
            {0, 0, MIN}, {0, 0, MAX}, {0, MIN, 0}, {0, MAX, 0}, {1, MAX, 0}, {MIN, 0, 0}, {MAX, 0, 0}};
        for (int[] one : none) Doc.due("letter(" + one[0] + ", " + one[1] + ", " + one[2] + ")", x.letter(one[0], one[1], one[2]), -1);
    }

    private static void voice() {
        Doc.promise(8, "Of a VOICE: 0 pitch, 1 whether STRUCK, 2 how many it has begun, 3 the SAYING that SOUNDS by it (NONE).");
        ThrownVoices x = Doc.at(2, "voice v pitch 0;voice w pitch 9;voice u pitch 5;person p pitch 9 calm 9;"
                + "person q pitch 0 calm 9;"
                + "wants p at 0 long 1;wants p at 1 long 9;wants q at 1 long 9;");
        x.strike(0);
        x.train(2, 4);
        long[][] want = {{0, 1, 1, -1}, {9, 0, 2, 1}, {4, 0, 0, -1}};
        for (int v = 0; v < 3; v++) Doc.row("voice " + v, Doc.of(x.voice(v, 0), x.voice(v, 1), x.voice(v, 2), x.voice(v, 3)), want[v]);
        Doc.promise(8, "NONE when there is none such, or for others.");
        for (int other : OTHERS) {
            Doc.due("voice(" + other + ", 0)", x.voice(other, 0), -1);
            Doc.due("voice(0, " + other + ")", x.voice(0, other), -1);
        }
        Doc.row("the first beyond", Doc.of(x.voice(3, 0), x.voice(3, 1), x.voice(3, 2), x.voice(3, 3), x.voice(0, 4),
                x.voice(2, 4)), -1, -1, -1, -1, -1, -1);
    }

    private static void person() {
        Doc.promise(9, "Of a PERSON: 0 pitch, 1 calm, 2 how many SAYINGS, 3 how many of these SOUND now.");
        ThrownVoices x = Doc.at(1, VW + "person p pitch 5 calm 99;person q pitch 9 calm 0;person r pitch 0 calm 7;"
                + "wants p at 0 long 1;wants p at 0 long 9;wants p at 0 long 9;wants p at 500 long 9;wants q at 500 long 9;");
        long[][] want = {{5, 99, 4, 1}, {9, 0, 1, 0}, {0, 7, 0, 0}};
        for (int p = 0; p < 3; p++) Doc.row("person " + p, Doc.of(x.person(p, 0), x.person(p, 1), x.person(p, 2), x.person(p, 3)), want[p]);
        x.minutes(1);
        Doc.due("two SOUND then", x.person(0, 3), 2);
        Doc.due("12 SAYINGS", Doc.good(P + "wants p at 0 long 1;".repeat(12)).person(0, 2), 12);
        Doc.promise(9, "NONE when there is none such, or for others.");
        for (int other : OTHERS) {
            Doc.due("person(" + other + ", 0)", x.person(other, 0), -1);
            Doc.due("person(0, " + other + ")", x.person(0, other), -1);
        }
        Doc.row("the first beyond", Doc.of(x.person(3, 0), x.person(3, 1), x.person(3, 2), x.person(3, 3), x.person(0, 4),
                x.person(2, 4)), -1, -1, -1, -1, -1, -1);
    }

    private static void saying() {
        Doc.promise(10, "Of a SAYING: 0 its PERSON, 1 its MINUTE, 2 how long, 3 what it is (0 .. 5), 4 how long it has waited, 5 its VOICE (NONE),"
                + " 6 how many MINUTES are left, 7 whether MIXED.");
        ThrownVoices x = Doc.at(3, V + P + "person q pitch 4 calm 9;wants q at 0 long 1;wants p at 0 long 20;"
                + "wants p at 999 long 3;mixes waits=1;");
        long[][] want = {{1, 0, 1, 3, 0, 0, 0, 0}, {0, 0, 20, 2, 1, 0, 18, 1}, {0, 999, 3, 0, 0, -1, 0, 0}};
        for (int s = 0; s < 3; s++) {
            for (int what = 0; what < 8; what++) Doc.due("saying(" + s + ", " + what + ")", x.saying(s, what), want[s][what]);
        }
        Doc.promise(10, "NONE when there is none such, or for others.");
        for (int other : OTHERS) {
            Doc.due("saying(" + other + ", 0)", x.saying(other, 0), -1);
            Doc.due("saying(0, " + other + ")", x.saying(0, other), -1);
        }
        for (int what = 0; what < 8; what++) Doc.due("saying(3, " + what + ")", x.saying(3, what), -1);
        Doc.row("the first beyond", Doc.of(x.saying(0, 8), x.saying(2, 8)), -1, -1);
    }

    private static void picks() {
        Doc.promise(11, "The SUM of picks of a SAYING and a VOICE (whatever they are) now;");
        // 0 is SAID, 1 SOUNDS by v, 2 is HUSHED, 3 is TO COME, 4 WAITS; w is STRUCK.
        ThrownVoices x = Doc.at(2, VW.replace("w pitch 5", "w pitch 2")
                + "person p pitch 5 calm 0;person q pitch 6 calm 9;wants p at 0 long 1;wants p at 1 long 9;wants p at 0 long 9;"
                + "wants p at 900 long 4;wants q at 1 long 5;picks 9*(pitch-4)+long-waits-tone;");
        x.strike(1);
        Doc.row("what they are", Doc.of(x.saying(0, 3), x.saying(1, 3), x.saying(2, 3), x.saying(3, 3), x.saying(4, 3),
                x.voice(0, 3)), 3, 2, 4, 0, 1, 1);
        Doc.row("by the busy v", Doc.of(x.picks(0, 0), x.picks(1, 0), x.picks(2, 0), x.picks(3, 0), x.picks(4, 0)), 5, 13, 12,
                8, 7);
        Doc.row("by the STRUCK w", Doc.of(x.picks(0, 1), x.picks(1, 1), x.picks(2, 1), x.picks(3, 1), x.picks(4, 1)), -22, -14,
                -15, -19, -20);
        Doc.due("the greatest", Doc.good(V + P + "wants p at 0 long 1;picks 9999*9999;").picks(0, 0), 1000000);
        Doc.due("the least", Doc.good(V + P + "wants p at 0 long 1;picks (0-9999)*9999;").picks(0, 0), -1000000);
        Doc.due("-1 is a sum", Doc.good(V + P + "wants p at 0 long 1;picks 0-1;").picks(0, 0), -1);
        Doc.promise(11, "NOTHING when there are none such.");
        for (int other : OTHERS) {
            Doc.due("picks(" + other + ", 0)", x.picks(other, 0), ThrownVoices.NOTHING);
            Doc.due("picks(0, " + other + ")", x.picks(0, other), ThrownVoices.NOTHING);
        }
        Doc.row("the first beyond", Doc.of(x.picks(5, 0), x.picks(0, 2)), ThrownVoices.NOTHING, ThrownVoices.NOTHING);
    }

    // ---- ahead

    private static void later() {
        Doc.promise(12, "Of a SAYING behind n MINUTES AHEAD (0 .. 60): 0 what it is, 1 its VOICE (NONE), 2 whether MIXED.");
        ThrownVoices x = Doc.good(VW + P + "wants p at 1 long 18;" + "wants p at 59 long 20;mixes all;stroke 100;");
        int[][] want = {{0, 0, -1, 0}, {1, 0, -1, 0}, {2, 2, 0, 1}, {18, 2, 0, 1}, {19, 3, 0, 1}, {60, 3, 0, 1}};
        for (int[] one : want) Doc.row("behind " + one[0], Doc.of(x.later(0, one[0], 0), x.later(0, one[0], 1), x.later(0, one[0], 2)), one[1], one[2], one[3]);
        Doc.row("behind 59 and 60", Doc.of(x.later(1, 59, 0), x.later(1, 60, 0), x.later(1, 60, 1)), 0, 2, 0);
        Doc.promise(12, "NONE when there is none such, n can't be, or for others.");
        for (int other : OTHERS) {
            Doc.due("later(" + other + ", 1, 0)", x.later(other, 1, 0), -1);
            Doc.due("later(0, " + other + ", 0)", x.later(0, other, 0), -1);
            Doc.due("later(0, 1, " + other + ")", x.later(0, 1, other), -1);
        }
        Doc.row("the first beyond", Doc.of(x.later(2, 1, 0), x.later(0, 61, 0), x.later(0, 60, 3), x.later(0, 0, 3), x.later(0,
                0, -1)), -1, -1, -1, -1, -1);
        Doc.go(x, 969);
        Doc.row("from 969 on", Doc.of(x.later(0, 30, 0), x.later(0, 31, 0)), 3, -1);
    }

    private static void ends() {
        Doc.promise(13, "Behind how many MINUTES AHEAD (0: now; 60 at most) a SAYING is SAID, HUSHED or BROKEN;");
        ThrownVoices x = Doc.good(V + "person p pitch 5 calm 0;person q pitch 5 calm 99;wants p at 0 long 2;"
                + "wants p at 1 long 1;wants p at 40 long 20;wants q at 41 long 1;");
        Doc.row("SAID, HUSHED, 60, 61", Doc.of(x.ends(0), x.ends(1), x.ends(2), x.ends(3)), 2, 2, 60, -1);
        x.minutes(1);
        Doc.row("a MINUTE less", Doc.of(x.ends(0), x.ends(1), x.ends(2), x.ends(3)), 1, 1, 59, 60);
        x.strike(0);
        Doc.due("BROKEN now", x.ends(0), 0);
        x.minutes(1);
        Doc.row("BROKEN and HUSHED now", Doc.of(x.ends(0), x.ends(1)), 0, 0);
        Doc.due("SAID now", Doc.at(1, V + P + "wants p at 0 long 1;").ends(0), 0);
        Doc.promise(13, "NONE when it is not, or there is none such.");
        Doc.due("never by a STRUCK one", Doc.at(100, "person p pitch 5 calm 99;wants p at 0 long 1;").ends(0), -1);
        Doc.due("not up to 999", Doc.at(990, V + P + "wants p at 990 long 10;").ends(0), -1);
        Doc.due("just up to 999", Doc.at(990, V + P + "wants p at 990 long 9;").ends(0), 9);
        for (int other : OTHERS) Doc.due("ends(" + other + ")", x.ends(other), -1);
        Doc.due("the first beyond", x.ends(4), -1);
    }

    private static void busy() {
        Doc.promise(14, "How many VOICES are busy behind n MINUTES AHEAD (0 .. 60);");
        ThrownVoices x = Doc.good(VW + P + "wants p at 0 long 3;wants p at 1 long 1;wants p at 1 long 2;wants p at 58 long 9;"
                + "wants p at 59 long 9;");
        int[][] want = {{0, 0}, {1, 1}, {2, 1}, {3, 1}, {4, 0}, {58, 0}, {59, 1}, {60, 2}};
        for (int[] one : want) Doc.due("busy(" + one[0] + ")", x.busy(one[0]), one[1]);
        x.minutes(1);
        Doc.due("busy(0)", x.busy(0), 1);
        Doc.promise(14, "NONE when n can't be.");
        for (int other : OTHERS) Doc.due("busy(" + other + ")", x.busy(other), -1);
        Doc.due("the first beyond", x.busy(61), -1);
        Doc.go(x, 939);
        Doc.due("busy(60) at 939", x.busy(60), 0);
        x.minutes(1);
        Doc.row("at 940", Doc.of(x.busy(59), x.busy(60)), 0, -1);
        Doc.go(x, 999);
        Doc.row("at 999", Doc.of(x.busy(0), x.busy(1)), 0, -1);
    }

    // ---- voices for sayings

    private static void match() {
        Doc.promise(15, "A MATCH: the sum (saying NONE), the VOICE of a SAYING (NONE; of one that does not WAIT, too).");
        ThrownVoices x = Doc.at(1, VW + P + "wants p at 0 long 9;wants p at 0 long 1;wants p at 0 long 1;wants p at 9 long 1;"
                + "picks if(minute=0,1-load,5);");
        Doc.row("one SOUNDS, one is SAID, one WAITS, one is TO COME", Doc.of(x.match(-1), x.match(0), x.match(1), x.match(2),
                x.match(3)), 5, -1, -1, 1, -1);
        x.strike(1);
        Doc.row("none for it", Doc.of(x.match(-1), x.match(2)), 0, -1);
        x.strike(0);
        Doc.row("of one that is BROKEN", Doc.of(x.match(-1), x.match(0)), 0, -1);
        Doc.promise(15, "NONE when there is none such.");
        for (int other : OTHERS) if (other != -1) Doc.due("match(" + other + ")", x.match(other), -1);
        Doc.row("the first beyond", Doc.of(x.match(4), x.match(12), x.match(13)), -1, -1, -1);
    }

    private static void choir() {
        Doc.promise(16, "A CHOIR, n MINUTES (1 .. 30), as bits;");
        ThrownVoices x = Doc.good(VW + "person p pitch 5 calm 0;wants p at 0 long 1;wants p at 29 long 1;wants p at 29 long 1;"
                + "wants p at 30 long 1;wants p at 30 long 1;wants p at 30 long 1;");
        Doc.row("1, 29, 30", Doc.of(x.choir(1), x.choir(29), x.choir(30)), 1, 1, 3);
        Doc.due("no VOICES, nothing HUSHED", Doc.good("").choir(30), 0);
        Doc.promise(16, "NONE when no set of VOICES is enough, or n can't be.");
        Doc.due("31", x.choir(31), -1);
        Doc.due("0", x.choir(0), -1);
        for (int other : OTHERS) Doc.due("choir(" + other + ")", x.choir(other), -1);
        x.minutes(1);
        Doc.row("no set is enough", Doc.of(x.choir(29), x.choir(30)), 3, -1);
        x = Doc.at(969, V);
        Doc.due("choir(30) at 969", x.choir(30), 0);
        x.minutes(1);
        Doc.row("at 970", Doc.of(x.choir(29), x.choir(30)), 0, -1);
        Doc.go(x, 999);
        Doc.due("at 999", x.choir(1), -1);
    }

    private static void worst() {
        Doc.promise(17, "WORST, n MINUTES (1 .. 30): the VOICE (what 0), how many SAYINGS (1).");
        ThrownVoices x = Doc.at(1, "voice v pitch 4;voice w pitch 5;person p pitch 5 calm 0;wants p at 0 long 9;"
                + "wants p at 30 long 1;wants p at 30 long 1;");
        Doc.row("1, 29, 30", Doc.of(x.worst(1, 0), x.worst(1, 1), x.worst(29, 0), x.worst(29, 1), x.worst(30, 0), x.worst(30,
                1)), 1, 1, 1, 1, 1, 2);
        Doc.promise(17, "NONE without one, when n can't be, or for others.");
        Doc.row("the first beyond", Doc.of(x.worst(0, 0), x.worst(0, 1), x.worst(31, 0), x.worst(31, 1), x.worst(1, 2),
                x.worst(1, -1)), -1, -1, -1, -1, -1, -1);
        for (int other : OTHERS) {
            Doc.due("worst(" + other + ", 0)", x.worst(other, 0), -1);
            Doc.due("worst(1, " + other + ")", x.worst(1, other), -1);
        }
        x.strike(0);
        Doc.row("w alone", Doc.of(x.worst(1, 0), x.worst(1, 1)), 1, 1);
        x.strike(1);
        Doc.row("all are STRUCK", Doc.of(x.worst(1, 0), x.worst(1, 1)), -1, -1);
        Doc.row("no VOICES", Doc.of(Doc.good(P).worst(1, 0), Doc.good(P).worst(1, 1)), -1, -1);
        x = Doc.at(969, V);
        Doc.row("at 969", Doc.of(x.worst(30, 0), x.worst(30, 1)), 0, 0);
        x.minutes(1);
        Doc.row("at 970", Doc.of(x.worst(29, 0), x.worst(30, 0), x.worst(30, 1)), 0, -1, -1);
    }

    private static void tune() {
        Doc.promise(18, "To TUNE a VOICE, n MINUTES (1 .. 30): the pitch (what 0), how many are SAID then (1).");
        ThrownVoices x = Doc.good("voice v pitch 4;voice w pitch 0;person p pitch 5 calm 0;wants p at 0 long 1;"
                + "wants p at 29 long 1;wants p at 30 long 1;picks if(minute<1,pitch-3,if(minute<30,pitch-6,pitch-8));");
        Doc.row("1, 29, 30", Doc.of(x.tune(0, 1, 0), x.tune(0, 1, 1), x.tune(0, 29, 0), x.tune(0, 30, 0), x.tune(0, 30, 1)), 4,
                1, 4, 7, 2);
        Doc.row("another VOICE", Doc.of(x.tune(1, 30, 0), x.tune(1, 30, 1)), 7, 2);
        Doc.promise(18, "NONE when there is none such, n can't be, or for others.");
        Doc.row("the first beyond", Doc.of(x.tune(2, 1, 0), x.tune(0, 0, 0), x.tune(0, 31, 0), x.tune(0, 31, 1), x.tune(0, 1,
                2), x.tune(0, 1, -1)), -1, -1, -1, -1, -1, -1);
        for (int other : OTHERS) {
            Doc.due("tune(" + other + ", 1, 0)", x.tune(other, 1, 0), -1);
            Doc.due("tune(0, " + other + ", 0)", x.tune(0, other, 0), -1);
            Doc.due("tune(0, 1, " + other + ")", x.tune(0, 1, other), -1);
        }
        Doc.go(x, 969);
        Doc.due("at 969", x.tune(0, 30, 0), 0);
        x.minutes(1);
        Doc.row("at 970", Doc.of(x.tune(0, 29, 0), x.tune(0, 30, 0)), 0, -1);
    }

    private static void needed() {
        Doc.promise(19, "How many SAYINGS NEED a VOICE now;");
        String town = "voice v pitch 1;" + P + "wants p at 0 long 1;".repeat(12);
        ThrownVoices x = Doc.at(1, town + "picks if(minute<1,0,1);");
        Doc.row("12 SAYINGS", Doc.of(x.has(7), x.needed(0)), 12, 12);
        x.strike(0);
        Doc.due("it is STRUCK", x.needed(0), 0);
        x.undo();
        x.minutes(1);
        Doc.row("12 but one", Doc.of(x.has(7), x.needed(0)), 11, 11);
        Doc.promise(19, "NONE when there is none such.");
        for (int other : OTHERS) Doc.due("needed(" + other + ")", x.needed(other), -1);
        Doc.row("the first beyond", Doc.of(x.needed(1), Doc.good(P).needed(0)), -1, -1);
    }

    private static void odds() {
        Doc.promise(20, "ODDS of a SAYING; all rows for the SAYING NONE.");
        ThrownVoices x = Doc.at(1, VW + P + "wants p at 0 long 9;wants p at 9 long 1;stroke 100;");
        Doc.row("all rows, SOUNDS, TO COME", Doc.of(x.odds(-1), x.odds(0), x.odds(1)), 200, 100, 0);
        Doc.due("one VOICE without SAYINGS", Doc.good(V).odds(-1), 100);
        Doc.promise(20, "NONE when there is none such, without VOICES, or beyond MINUTE 999.");
        for (int other : OTHERS) if (other != -1) Doc.due("odds(" + other + ")", x.odds(other), -1);
        Doc.due("the first beyond", x.odds(2), -1);
        ThrownVoices y = Doc.good(P + "wants p at 0 long 1;stroke 100;");
        Doc.row("without VOICES", Doc.of(y.odds(-1), y.odds(0)), -1, -1);
        y = Doc.at(998, V + P + "wants p at 0 long 1;wants p at 997 long 9;stroke 30;");
        Doc.row("at 998", Doc.of(y.odds(-1), y.odds(0), y.odds(1)), 100, 0, 30);
        y.minutes(1);
        Doc.row("at 999", Doc.of(y.odds(-1), y.odds(0), y.odds(1), y.saying(1, 3)), -1, -1, -1, 2);
        y.strike(0);
        Doc.row("at 999, BROKEN", Doc.of(y.odds(1), y.saying(1, 3)), -1, 5);
    }

    // ---- by which pitch

    private static final String HEARING = VW + P + "wants p at 0 long 1;wants p at 1 long 1;wants p at 2 long 1;";

    private static void hear() {
        Doc.promise(21, "The tape (it goes, refused or not) tells HEARD, 1 to 16 rows of three bytes: how many rows;");
        for (int rows = 1; rows < 17; rows++) {
            ThrownVoices x = Doc.good(HEARING);
            Check.put(x, new int[3 * rows]);
            Doc.row(rows + " rows", Doc.of(x.hear(), x.has(13), x.status(5)), rows, rows, 0);
            Doc.due("the tape went", x.end(1), false);
        }
        int[][] good = {{0, 0, 0}, {30, 0, 0}, {0, 2, 0}, {0, 0, 1}, {0, 0, 255}, {30, 2, 255}};
        for (int[] row : good) {
            ThrownVoices x = Doc.good(HEARING);
            Check.put(x, row);
            Doc.due("a row that can be", x.hear(), 1);
        }
        // Without VOICES a row of silence can be.
        ThrownVoices x = Doc.good(P + "wants p at 0 long 1;");
        Check.put(x, 0, 0, 255);
        Doc.due("without VOICES", x.hear(), 1);
    }

    private static void hearRefused() {
        Doc.promise(21, "NONE, refused (5), when it is none such.");
        Supplier<ThrownVoices> make = () -> {
            ThrownVoices x = Doc.good(HEARING);
            Check.put(x, 0, 0, 1, 1, 1, 255);
            x.hear();
            return x;
        };
        int[][] bad = {{}, {0}, {0, 0}, {0, 0, 0, 0}, {0, 0, 0, 0, 0}, new int[17 * 3], new int[47], new int[49], {31, 0, 0},
                {255, 0, 0}, {0, 3, 0}, {0, 255, 0},
            {0, 0, 2}, {0, 0, 254}, {0, 0, 128}, {128, 0, 0}, {0, 0, 0, 31, 0, 0}, {0, 0, 0, 0, 3, 0}, {0, 0, 0, 0, 0, 2}};
        for (int[] rows : bad) {
            Doc.refused(5, "hear() of " + java.util.Arrays.toString(rows), make, x -> {
                Check.put(x, rows);
                return x.hear();
            });
            ThrownVoices x = make.get();
            Check.put(x, rows);
            x.hear();
            Doc.row("HEARD stays, the tape went", Doc.of(x.has(13), x.end(1) ? 1 : 0, x.pitches(1)), 2, 0, 0);
        }
        ThrownVoices x = new ThrownVoices();
        Check.put(x, 0, 0, 255);
        Doc.due("hear() without SAYINGS", x.hear(), -1);
        x = Doc.good(P + "wants p at 0 long 1;");
        Check.put(x, 0, 0, 0);
        Doc.due("hear() of a VOICE without VOICES", x.hear(), -1);
    }

    private static void pitches() {
        Doc.promise(22, "PITCHES of a VOICE by HEARD (of the latest hear() of this TOWN that was not refused;"
                + " all, if there was none; a row of a MINUTE beyond 999 no pitch meets), as bits.");
        String town = V + "person p pitch 3 calm 9;person q pitch 5 calm 9;wants p at 0 long 1;wants q at 1 long 1;"
                + "picks pitch-tone;";
        ThrownVoices x = Doc.good(town);
        Doc.due("there was none", x.pitches(0), 1023);
        Check.put(x, 0, 0, 0);
        x.hear();
        Doc.due("p SOUNDS", x.pitches(0), 1023 - 15);
        Check.put(x, 1, 1, 255);
        x.hear();
        Doc.due("the latest alone", x.pitches(0), 63);
        Check.put(x, 31, 0, 0);
        x.hear();
        Doc.due("not the refused one", x.pitches(0), 63);
        Check.put(x, Check.bytes("$"));
        x.town();
        Doc.due("town() was refused", x.pitches(0), 63);
        Check.put(x, Check.bytes(town));
        x.town();
        Doc.due("of this TOWN", x.pitches(0), 1023);
        x = Doc.at(968, V);
        Check.put(x, Check.bytes(V + P + "wants p at 0 long 1;"));
        x.town();
        Check.put(x, 30, 0, 255);
        x.hear();
        Doc.go(x, 968);
        Doc.due("MINUTE 30 from 968 on", x.pitches(0), 1023);
        x.minutes(1);
        Doc.due("MINUTE 30 from 969 on", x.pitches(0), 0);
        Check.put(x, 29, 0, 255);
        x.hear();
        Doc.due("MINUTE 29 from 969 on", x.pitches(0), 1023);
        Check.put(x, 0, 0, 255);
        x.hear();
        Doc.go(x, 998);
        Doc.due("MINUTE 0 from 998 on", x.pitches(0), 1023);
        x.minutes(1);
        Doc.due("MINUTE 0 from 999 on", x.pitches(0), 0);
        Doc.due("none HEARD at 999", Doc.at(999, V + P + "wants p at 0 long 1;").pitches(0), 1023);
        Doc.promise(22, "NONE when there is none such.");
        for (int other : OTHERS) Doc.due("pitches(" + other + ")", x.pitches(other), -1);
        Doc.row("the first beyond", Doc.of(x.pitches(1), Doc.good(P).pitches(0)), -1, -1);
    }

    private static void tells() {
        Doc.promise(23, "TELLING of a VOICE: the MINUTE AHEAD (what 0), the SAYING (1), how many are left at the most (2).");
        String town = V + "person p pitch 3 calm 9;wants p at 998 long 9;wants p at 2 long 1;picks pitch-tone;";
        ThrownVoices x = Doc.good(town);
        Doc.row("MINUTE 2", Doc.of(x.tells(0, 0), x.tells(0, 1), x.tells(0, 2)), 2, 1, 6);
        Doc.promise(23, "NONE without any left, without SAYINGS, when no MINUTE comes, there is none such, or for others.");
        for (int other : OTHERS) {
            Doc.due("tells(" + other + ", 0)", x.tells(other, 0), -1);
            Doc.due("tells(0, " + other + ")", x.tells(0, other), -1);
        }
        Doc.row("the first beyond", Doc.of(x.tells(1, 0), x.tells(0, 3)), -1, -1);
        Check.put(x, 0, 0, 0);
        x.hear();
        Doc.row("none left", Doc.of(x.pitches(0), x.tells(0, 0), x.tells(0, 1), x.tells(0, 2)), 0, -1, -1, -1);
        ThrownVoices y = Doc.good(V + P);
        Doc.row("without SAYINGS", Doc.of(y.tells(0, 0), y.tells(0, 1), y.tells(0, 2)), -1, -1, -1);
        y = Doc.good(P + "wants p at 0 long 1;");
        Doc.row("without VOICES", Doc.of(y.tells(0, 0), y.tells(0, 1), y.tells(0, 2)), -1, -1, -1);
        y = Doc.at(998, town);
        Doc.row("at 998", Doc.of(y.tells(0, 0), y.tells(0, 1), y.tells(0, 2)), 0, 0, 6);
        y.minutes(1);
        Doc.row("no MINUTE comes", Doc.of(y.tells(0, 0), y.tells(0, 1), y.tells(0, 2)), -1, -1, -1);
    }
}
