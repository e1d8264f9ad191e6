/** 'Terms' II, sayings and minutes: what a minute does, what a stroke does, what is kept, what is drawn. */
final class SayingTerms {
    private static final String V = "voice v pitch 5;";
    private static final String VW = "voice v pitch 5;voice w pitch 5;";
    private static final String P = "person p pitch 5 calm 9;";
    private static final int MAX = Integer.MAX_VALUE;

    private SayingTerms() { }

    static void check() {
        whatSayingsAre();
        atFirst();
        busy();
        first();
        byWhom();
        withoutPicks();
        left();
        begun();
        mixed();
        waited();
        hushed();
        said();
        lastMinute();
        struck();
        bySeed();
        kept();
        acts();
        lastTwenty();
        draws();
    }

    private static long[] eight(ThrownVoices x, int s) {
        long[] got = new long[8];
        for (int what = 0; what < 8; what++) got[what] = x.saying(s, what);
        return got;
    }

    private static void whatSayingsAre() {
        Doc.terms("II", "A SAYING is TO COME (0), WAITS (1), SOUNDS (2), is SAID (3), HUSHED (4), or BROKEN (5);");
        ThrownVoices x = Doc.good(VW + "person p pitch 5 calm 0;person q pitch 5 calm 9;wants p at 0 long 9;wants p at 0 long 1;"
                + "wants p at 0 long 1;wants p at 1 long 9;wants q at 1 long 9;wants p at 500 long 9;");
        x.minutes(1);
        x.strike(0);
        x.minutes(1);
        long[] what = new long[6];
        for (int s = 0; s < 6; s++) what[s] = x.saying(s, 3);
        Doc.row("all six", what, 5, 3, 4, 2, 1, 0);
        Doc.row("has() of each", Doc.of(x.has(6), x.has(7), x.has(8), x.has(9), x.has(10), x.has(11)), 1, 1, 1, 1, 1, 1);
    }

    private static void atFirst() {
        Doc.terms("II", "all are TO COME at first, have waited 0 MINUTES, have no VOICE, are not MIXED.");
        ThrownVoices x = Doc.good(V + P + "mixes all;" + "wants p at 0 long 20;".repeat(12));
        for (int s = 0; s < 12; s++) Doc.row("saying " + s, eight(x, s), 0, 0, 20, 0, 0, -1, 0, 0);
        Doc.terms("II", "It is MINUTE 0 at first; nobody is STRUCK, each VOICE has begun 0.");
        StringBuilder seven = new StringBuilder();
        for (int v = 0; v < 7; v++) seven.append("voice ").append((char) ('a' + v)).append(" pitch 9;");
        x = Doc.good(seven.toString());
        Doc.due("MINUTE", x.has(3), 0);
        Doc.due("STRUCK", x.has(4), 0);
        for (int v = 0; v < 7; v++) Doc.row("voice " + v, Doc.of(x.voice(v, 1), x.voice(v, 2), x.voice(v, 3)), 0, 0, -1);
    }

    private static void busy() {
        Doc.terms("II", "A VOICE may be STRUCK; it is busy, if a SAYING SOUNDS by it.");
        ThrownVoices x = Doc.good(V + P + "wants p at 1 long 2;");
        Doc.row("ahead", Doc.of(x.has(5), x.voice(0, 3), x.voice(0, 1)), 0, -1, 0);
        x.minutes(1);
        Doc.row("TO COME still", Doc.of(x.has(5), x.voice(0, 3)), 0, -1);
        x.minutes(1);
        Doc.row("it SOUNDS", Doc.of(x.has(5), x.voice(0, 3)), 1, 0);
        x.minutes(1);
        Doc.row("it is SAID", Doc.of(x.has(5), x.voice(0, 3)), 0, -1);
        x.undo();
        x.strike(0);
        Doc.row("it is BROKEN", Doc.of(x.has(5), x.voice(0, 3), x.voice(0, 1)), 0, -1, 1);
    }

    private static void first() {
        Doc.terms("II", "A MINUTE: FIRST each SAYING TO COME, whose MINUTE it is, or was, WAITS.");
        String town = P + "wants p at 300 long 1;";
        Doc.due("a MINUTE ahead of its own", Doc.at(299, town).later(0, 1, 0), 0);
        Doc.due("in its own", Doc.at(300, town).later(0, 1, 0), 1);
        Doc.due("not ahead of its beginning", Doc.at(300, town).saying(0, 3), 0);
        Doc.due("MINUTE 0", Doc.good(P + "wants p at 0 long 1;").later(0, 1, 0), 1);
        Doc.due("MINUTE 998", Doc.at(998, P + "wants p at 998 long 1;").later(0, 1, 0), 1);
        Doc.due("MINUTE 999", Doc.at(998, P + "wants p at 999 long 1;").later(0, 1, 0), 0);
        // An image can tell of one that is TO COME still though its MINUTE was.
        int[][] dues = {{0, 1}, {299, 1}, {300, 1}, {301, 0}, {556, 0}, {255, 1}, {256, 1}, {999, 0}};
        for (int[] due : dues) {
            ThrownVoices x = Doc.at(300, P + "wants p at 999 long 1;");
            int at = Doc.placeOf(x, 0);
            Doc.as(x, at + 1, due[0] >> 8, at + 2, due[0] & 255);
            Doc.due("its MINUTE is " + due[0], x.saying(0, 1), due[0]);
            Doc.due("TO COME until a MINUTE goes by", x.saying(0, 3), 0);
            x.minutes(1);
            Doc.due("MINUTE 300, its MINUTE is " + due[0], x.saying(0, 3), due[1]);
        }
    }

    private static long giver(String town) {
        return Doc.at(1, town).saying(0, 5);
    }

    private static void byWhom() {
        Doc.terms("II", "THEN SAYING by SAYING that WAITS: of the VOICES neither STRUCK nor busy the one by which the SUM of picks");
        String town = "voice v pitch 1;voice w pitch 2;voice u pitch 2;" + P
                + "wants p at 0 long 2;wants p at 0 long 3;wants p at 0 long 4;";
        ThrownVoices x = Doc.at(1, town + "picks pitch;");
        Doc.row("each the best that is left", Doc.of(x.saying(0, 5), x.saying(1, 5), x.saying(2, 5)), 1, 2, 0);
        x = Doc.good(town + "picks pitch;");
        x.strike(1);
        x.minutes(1);
        Doc.row("not by a STRUCK one", Doc.of(x.saying(0, 5), x.saying(1, 5), x.saying(2, 5)), 2, 0, -1);
        x.heal(1);
        x.minutes(1);
        Doc.row("healed, it gives again", Doc.of(x.saying(2, 5), x.saying(2, 4)), 1, 1);
        x = Doc.at(1, V + P + "wants p at 0 long 2;wants p at 0 long 1;");
        Doc.row("not by a busy one", Doc.of(x.saying(1, 3), x.later(1, 1, 0), x.later(1, 2, 0)), 1, 1, 3);
        Doc.terms("II", "is most, if that is above 0, of like ones the first, gives it:");
        Doc.due("a sum of 0", giver(V + P + "wants p at 0 long 2;picks 0;"), -1);
        Doc.due("a sum of 1", giver(V + P + "wants p at 0 long 2;picks 1;"), 0);
        Doc.due("a sum below 0", giver(V + P + "wants p at 0 long 2;picks 0-1;"), -1);
        Doc.due("like ones", giver(VW + P + "wants p at 0 long 2;picks 3;"), 0);
        Doc.due("the second is more", giver("voice v pitch 3;voice w pitch 4;" + P + "wants p at 0 long 2;picks pitch;"), 1);
        Doc.due("the second alone is above 0", giver("voice v pitch 3;voice w pitch 4;" + P
                + "wants p at 0 long 2;picks pitch-3;"), 1);
        Doc.due("the last of seven", giver("voice a pitch 0;voice b pitch 1;voice c pitch 2;voice d pitch 3;voice e pitch 4;"
                + "voice f pitch 5;voice g pitch 6;" + P + "wants p at 0 long 2;picks pitch;"), 6);
        Doc.due("the largest sum", giver("voice v pitch 3;voice w pitch 4;" + P
                + "wants p at 0 long 2;picks pitch*9999*9999;"), 0);
    }

    private static void withoutPicks() {
        Doc.terms("II", "(without it: 9 less the difference of pitch and tone)");
        for (int tone = 0; tone < 10; tone += 9) {
            for (int pitch = 0; pitch < 10; pitch++) {
                ThrownVoices x = Doc.good("voice v pitch " + pitch + ";person p pitch " + tone + " calm 9;wants p at 0 long 2;");
                int sum = 9 - (tone > pitch ? tone - pitch : pitch - tone);
                Doc.due("pitch " + pitch + ", tone " + tone, x.picks(0, 0), sum);
                Doc.due("given, if that is above 0", x.later(0, 1, 0), sum > 0 ? 2 : 1);
            }
        }
        Doc.due("of like ones the first", giver("voice v pitch 4;voice w pitch 6;" + P + "wants p at 0 long 2;"), 0);
        Doc.due("the nearer one", giver("voice v pitch 3;voice w pitch 6;" + P + "wants p at 0 long 2;"), 1);
    }

    private static void left() {
        Doc.terms("II", "it SOUNDS by that VOICE, has as many MINUTES left as it is long;");
        ThrownVoices x = Doc.good(V + P + "wants p at 0 long 20;");
        x.minutes(1);
        Doc.row("long 20", eight(x, 0), 0, 0, 20, 2, 0, 0, 19, 0);
        Doc.row("19 MINUTES, 20 MINUTES", Doc.of(x.later(0, 18, 0), x.later(0, 19, 0)), 2, 3);
        x = Doc.at(1, V + P + "wants p at 0 long 1;");
        Doc.row("long 1", eight(x, 0), 0, 0, 1, 3, 0, 0, 0, 0);
    }

    private static void begun() {
        Doc.terms("II", "the VOICE has begun one more (99 at most; in picks ahead of that);");
        String town = VW + P + "wants p at 0 long 1;wants p at 1 long 1;wants p at 2 long 1;";
        for (int begun = 0; begun < 100; begun += begun == 2 ? 95 : 1) {
            ThrownVoices x = Doc.as(Doc.good(town), 4, begun);
            Doc.due("begun", x.voice(0, 2), begun);
            for (int i = 1; i < 4; i++) {
                x.minutes(1);
                Doc.row("begun from " + begun + " on", Doc.of(x.voice(0, 2), x.voice(1, 2)), Math.min(99, begun + i), 0);
            }
        }
        Doc.due("a load of 0 in picks", giver(V + P + "wants p at 0 long 2;picks 1-load;"), 0);
        Doc.due("a load of 0 in picks", giver(V + P + "wants p at 0 long 2;picks load;"), -1);
        ThrownVoices x = Doc.at(2, V + P + "wants p at 0 long 1;wants p at 1 long 1;picks 2-load;");
        Doc.row("a load of 1", Doc.of(x.saying(0, 3), x.saying(1, 3), x.voice(0, 2), x.picks(1, 0)), 3, 3, 2, 0);
    }

    private static void mixed() {
        Doc.terms("II", "the SAYING is MIXED, if the TEST of mixes holds then (without it: never).");
        String town = VW + P + "wants p at 0 long 3;wants p at 1 long 3;wants p at 1 long 3;";
        ThrownVoices x = Doc.at(2, town);
        Doc.row("without", Doc.of(x.saying(0, 7), x.saying(1, 7), x.saying(2, 7)), 0, 0, 0);
        x = Doc.at(2, town + "mixes all;");
        Doc.row("all that SOUND", Doc.of(x.saying(0, 7), x.saying(1, 7), x.saying(2, 7)), 1, 1, 0);
        x = Doc.at(2, town + "mixes busy>1;");
        Doc.row("more than it alone", Doc.of(x.saying(0, 7), x.saying(1, 7)), 0, 1);
        x = Doc.at(5, town + "mixes minute=0;");
        Doc.row("then, not later", Doc.of(x.saying(0, 7), x.saying(0, 3), x.saying(1, 7), x.saying(2, 7)), 1, 3, 0, 0);
        x = Doc.at(5, town + "mixes minute>0;");
        Doc.row("then, not later", Doc.of(x.saying(0, 7), x.saying(1, 7), x.saying(2, 7)), 0, 1, 1);
        x = Doc.at(4, town + "mixes waits=2;");
        Doc.row("what has waited 2", Doc.of(x.saying(0, 7), x.saying(1, 7), x.saying(2, 7)), 0, 0, 1);
    }

    private static void waited() {
        Doc.terms("II", "THEN SAYING by SAYING that WAITS still: it has waited one MINUTE more (99 at most);");
        ThrownVoices x = Doc.good("person p pitch 5 calm 99;wants p at 0 long 1;wants p at 1 long 1;");
        Doc.row("ahead", Doc.of(x.saying(0, 4), x.saying(1, 4)), 0, 0);
        x.minutes(1);
        Doc.row("in its MINUTE already", Doc.of(x.saying(0, 4), x.saying(1, 4)), 1, 0);
        x.minutes(1);
        Doc.row("a MINUTE more", Doc.of(x.saying(0, 4), x.saying(1, 4)), 2, 1);
        Doc.go(x, 98);
        Doc.row("98", Doc.of(x.saying(0, 4), x.saying(1, 4)), 98, 97);
        x.minutes(1);
        Doc.row("99", Doc.of(x.saying(0, 4), x.saying(1, 4)), 99, 98);
        x.minutes(1);
        Doc.row("99 at most", Doc.of(x.saying(0, 4), x.saying(1, 4)), 99, 99);
        x.minutes(60);
        Doc.row("99 at most", Doc.of(x.saying(0, 4), x.saying(1, 4)), 99, 99);
        // What is given a VOICE in a MINUTE has not waited in it.
        x = Doc.at(1, V + P + "wants p at 0 long 2;wants p at 0 long 1;");
        Doc.row("given at once", Doc.of(x.saying(0, 4), x.saying(1, 4)), 0, 1);
        x.minutes(2);
        Doc.row("given behind two", Doc.of(x.saying(1, 4), x.saying(1, 3)), 2, 3);
    }

    private static void hushed() {
        Doc.terms("II", "it is HUSHED, if the TEST of hush holds (without it: it has waited more MINUTES than its PERSON is calm).");
        for (int calm = 0; calm < 99; calm += calm == 2 ? 96 : 1) {
            ThrownVoices x = Doc.good("person p pitch 5 calm " + calm + ";wants p at 0 long 1;");
            Doc.go(x, calm);
            Doc.row("calm " + calm, Doc.of(x.saying(0, 3), x.saying(0, 4)), calm == 0 ? 0 : 1, calm);
            x.minutes(1);
            Doc.row("calm " + calm + ", a MINUTE more", Doc.of(x.saying(0, 3), x.saying(0, 4)), 4, calm + 1);
        }
        ThrownVoices x = Doc.at(200, "person p pitch 5 calm 99;wants p at 0 long 1;");
        Doc.due("calm 99 is never less", x.saying(0, 3), 1);
        Doc.due("hush all at once", Doc.at(1, P + "wants p at 0 long 1;hush all;").saying(0, 3), 4);
        Doc.due("hush not all", Doc.at(200, P + "wants p at 0 long 1;hush not all;").saying(0, 3), 1);
        Doc.due("its MINUTE counts already", Doc.at(1, P + "wants p at 0 long 1;hush waits>0;").saying(0, 3), 4);
        Doc.due("its MINUTE counts already", Doc.at(1, P + "wants p at 0 long 1;hush waits>1;").saying(0, 3), 1);
        Doc.due("the MINUTE is not more yet", Doc.at(1, P + "wants p at 0 long 1;hush minute=0;").saying(0, 3), 4);
        Doc.due("what is given is not asked", Doc.at(1, V + P + "wants p at 0 long 2;hush all;").saying(0, 3), 2);
        Doc.due("what is TO COME is not asked", Doc.at(1, P + "wants p at 1 long 2;hush all;").saying(0, 3), 0);
        x = Doc.at(1, V + "person p pitch 5 calm 0;wants p at 0 long 1;wants p at 0 long 1;wants p at 0 long 1;");
        Doc.row("a VOICE too few", Doc.of(x.saying(0, 3), x.saying(1, 3), x.saying(2, 3), x.saying(1, 5)), 3, 4, 4, -1);
    }

    private static void said() {
        Doc.terms("II", "THEN each that SOUNDS has one MINUTE less left; with none left it is SAID.");
        ThrownVoices x = Doc.good(VW + P + "wants p at 0 long 2;wants p at 0 long 3;");
        int[][] due = {{2, 1, 2, 2}, {3, 0, 2, 1}, {3, 0, 3, 0}};
        for (int[] one : due) {
            x.minutes(1);
            Doc.row("MINUTE " + x.has(3), Doc.of(x.saying(0, 3), x.saying(0, 6), x.saying(1, 3), x.saying(1, 6)),
                    one[0], one[1], one[2], one[3]);
        }
        Doc.due("its VOICE stays", x.saying(1, 5), 1);
        // In the MINUTE in which it is SAID its VOICE is busy still; in the next one it gives again.
        x = Doc.at(1, V + P + "wants p at 0 long 1;wants p at 0 long 1;");
        Doc.row("busy in its last MINUTE", Doc.of(x.saying(0, 3), x.saying(1, 3), x.later(1, 1, 0)), 3, 1, 3);
    }

    private static void lastMinute() {
        Doc.terms("II", "The MINUTE is one more (999 at most).");
        ThrownVoices x = Doc.good(P + "wants p at 998 long 1;wants p at 999 long 1;");
        x.minutes(1);
        Doc.due("MINUTE", x.has(3), 1);
        Doc.go(x, 998);
        Doc.due("minutes(2)", x.minutes(2), -1);
        Doc.due("MINUTE", x.has(3), 998);
        Doc.due("minutes(1)", x.minutes(1), 0);
        Doc.row("MINUTE 999", Doc.of(x.has(3), x.saying(0, 3), x.saying(1, 3)), 999, 1, 0);
        Doc.due("minutes(1)", x.minutes(1), -1);
        Doc.due("chance(1)", x.chance(1), -1);
        Doc.row("MINUTE 999 still", Doc.of(x.has(3), x.saying(0, 4), x.saying(1, 3)), 999, 1, 0);
    }

    private static void struck() {
        Doc.terms("II", "To be STRUCK: what SOUNDS by that VOICE is BROKEN, with none left.");
        ThrownVoices x = Doc.at(1, VW + P + "mixes all;wants p at 0 long 20;wants p at 0 long 20;wants p at 0 long 20;");
        x.strike(1);
        Doc.row("what SOUNDS by it", eight(x, 1), 0, 0, 20, 5, 0, 1, 0, 1);
        Doc.row("what SOUNDS by another", eight(x, 0), 0, 0, 20, 2, 0, 0, 19, 1);
        Doc.row("what WAITS", eight(x, 2), 0, 0, 20, 1, 1, -1, 0, 0);
        Doc.row("the VOICE", Doc.of(x.voice(1, 0), x.voice(1, 1), x.voice(1, 2), x.voice(1, 3)), 5, 1, 1, -1);
        x = Doc.at(1, VW + P + "wants p at 0 long 1;wants p at 0 long 2;");
        x.strike(0);
        Doc.row("what is SAID by it stays so", Doc.of(x.saying(0, 3), x.saying(0, 5), x.has(11)), 3, 0, 0);
    }

    // ---- by the seed

    /** The least seed whose first DRAW of 100, and then of so many VOICES, comes to these. */
    private static int seedFor(int number, int voices, int voice) {
        for (int seed = 0; seed < MAX; seed++) {
            long one = Doc.next(seed);
            if (Doc.drawn(one, 100) == number && Doc.drawn(Doc.next(one), voices) == voice) return seed;
        }
        return -1;
    }

    private static void bySeed() {
        Doc.terms("II", "BY THE SEED a MINUTE begins with a DRAW of 100: below stroke, if there are VOICES, a DRAW of these: that one is STRUCK, if it is not.");
        int[][] cases = {{0, 0, 0}, {0, 1, 1}, {1, 1, 0}, {49, 50, 1}, {50, 50, 0}, {98, 99, 1}, {99, 99, 0}, {99, 100, 1}, {0,
                100, 1}};
        for (int[] one : cases) {
            for (int voice = 0; voice < 2; voice++) {
                int seed = seedFor(one[0], 2, voice);
                ThrownVoices x = Doc.good(VW + P + "stroke " + one[1] + ";");
                x.seed(seed);
                String call = "a DRAW of " + one[0] + ", stroke " + one[1];
                Doc.due(call, x.chance(1), one[2]);
                long first = Doc.next(seed);
                Doc.due("the seed behind " + call, x.has(15), one[2] == 1 ? Doc.next(first) : first);
                Doc.row("STRUCK by " + call, Doc.of(x.voice(voice, 1), x.voice(1 - voice, 1)), one[2], 0);
            }
        }
        ThrownVoices x = Doc.good(P + "stroke 100;");
        Doc.due("without VOICES", x.chance(3), 0);
        Doc.due("a DRAW for each MINUTE", x.has(15), Doc.next(Doc.next(Doc.next(1))));
        x = Doc.good(V + P + "stroke 100;");
        x.strike(0);
        Doc.due("it is STRUCK already", x.chance(1), 0);
        Doc.row("two DRAWS all the same", Doc.of(x.has(15), x.voice(0, 1)), Doc.next(Doc.next(1)), 1);
        // It begins so: what would be given in this MINUTE finds the VOICE STRUCK, what SOUNDS is BROKEN in it.
        x = Doc.good(V + P + "wants p at 0 long 1;stroke 100;");
        x.chance(1);
        Doc.row("ahead of what is given", Doc.of(x.saying(0, 3), x.voice(0, 2)), 1, 0);
        x = Doc.at(1, V + P + "wants p at 0 long 2;stroke 100;");
        x.chance(1);
        Doc.row("ahead of what is SAID", Doc.of(x.saying(0, 3), x.kept(0, 0), x.kept(0, 2), x.has(3)), 5, 1, 5, 2);
    }

    private static void kept() {
        Doc.terms("II", "KEPT is each SAYING that ends: MINUTE, SAYING, as what (3, 4, 5), in the order in which they end (by acts, too; the last 40 are told).");
        // 0 and 1 SOUND; 2 and 3 are HUSHED in MINUTE 0; 1 is BROKEN in MINUTE 1; in that 5 is HUSHED, then 0 and 4 are SAID.
        ThrownVoices x = Doc.good(VW + "person p pitch 5 calm 0;wants p at 0 long 2;wants p at 0 long 3;wants p at 0 long 1;"
                + "wants p at 0 long 1;"
                + "wants p at 1 long 1;wants p at 1 long 1;");
        Doc.row("nothing at first", Doc.of(x.has(12), x.kept(0, 0)), 0, -1);
        x.minutes(1);
        x.strike(1);
        x.heal(1);
        x.minutes(1);
        int[][] rows = {{0, 2, 4}, {0, 3, 4}, {1, 1, 5}, {1, 5, 4}, {1, 0, 3}, {1, 4, 3}};
        for (int k = 0; k < 6; k++) {
            Doc.row("row " + k, Doc.of(x.kept(k, 0), x.kept(k, 1), x.kept(k, 2)), rows[k][0], rows[k][1], rows[k][2]);
        }
        Doc.due("KEPT", x.has(12), 6);
        // 12 SAYINGS end once each: no more than 12 can be KEPT, and all are told.
        x = Doc.good("voice v pitch 5;person p pitch 5 calm 0;" + "wants p at 7 long 1;".repeat(12));
        x.minutes(60);
        Doc.due("KEPT of 12 SAYINGS", x.has(12), 12);
        Doc.row("the first of 12", Doc.of(x.kept(0, 0), x.kept(0, 1), x.kept(0, 2)), 7, 1, 4);
        Doc.row("the last of 12", Doc.of(x.kept(11, 0), x.kept(11, 1), x.kept(11, 2), x.kept(12, 0)), 7, 0, 3, -1);
    }

    // ---- acts

    private static void acts() {
        Doc.terms("II", "ACTS: MINUTES, by the seed; a VOICE is STRUCK; it is healed; it is trained to a pitch;"
                + " a SAYING TO COME is put off to another MINUTE.");
        ThrownVoices x = Doc.good(V + P + "wants p at 500 long 1;");
        long[] acts = new long[11];
        x.minutes(60);
        acts[0] = x.has(14);
        x.chance(60);
        acts[1] = x.has(14);
        x.strike(0);
        acts[2] = x.has(14);
        x.heal(0);
        acts[3] = x.has(14);
        x.train(0, 9);
        acts[4] = x.has(14);
        x.delay(0, 501);
        acts[5] = x.has(14);
        x.seed(5);
        acts[6] = x.has(14);
        Check.put(x, 0, 0, 0);
        x.hear();
        acts[7] = x.has(14);
        x.strike(1);
        x.train(0, 9);
        x.minutes(0);
        acts[8] = x.has(14);
        x.image();
        x.choir(30);
        acts[9] = x.has(14);
        x.undo();
        acts[10] = x.has(14);
        Doc.row("each is one", acts, 1, 2, 3, 4, 5, 6, 6, 6, 6, 6, 5);
    }

    private static void lastTwenty() {
        Doc.terms("II", "The last 20 can be undone.");
        for (int acts = 18; acts < 44; acts += acts == 22 ? 18 : 1) {
            ThrownVoices x = Doc.good(V);
            for (int i = 0; i < acts; i++) x.train(0, x.voice(0, 0) == 9 ? 0 : x.voice(0, 0) + 1);
            int can = Math.min(20, acts);
            Doc.due("behind " + acts + " ACTS", x.has(14), can);
            for (int i = 1; i <= can; i++) {
                Doc.due("undo()", x.undo(), true);
                Doc.row("the pitch and the ACTS behind " + i, Doc.of(x.voice(0, 0), x.has(14)), (5 + acts - i) % 10, can - i);
            }
            Doc.due("undo() of none", x.undo(), false);
            Doc.due("the pitch stays", x.voice(0, 0), (5 + acts - can) % 10);
        }
    }

    private static void draws() {
        Doc.terms("II", "A DRAW of m: x (the seed) becomes (1103515245 x + 12345) mod 2 to the 31; floor(x / 64) mod m.");
        ThrownVoices x = Doc.good("");
        x.chance(1);
        Doc.due("from 1 on", x.has(15), 1103527590);
        x.seed(0);
        x.chance(1);
        Doc.due("from 0 on", x.has(15), 12345);
        x.seed(MAX);
        x.chance(1);
        Doc.due("from the largest on", x.has(15), Doc.next(MAX));
        Doc.due("that is", x.has(15), 1043980748);
        x.seed(1);
        x.chance(60);
        long seed = 1;
        for (int i = 0; i < 60; i++) seed = Doc.next(seed);
        Doc.due("60 DRAWS", x.has(15), seed);
        // Seven VOICES: each of them can be drawn.
        StringBuilder seven = new StringBuilder("stroke 100;");
        for (int v = 0; v < 7; v++) seven.append("voice ").append((char) ('a' + v)).append(" pitch 9;");
        for (int v = 0; v < 7; v++) {
            x = Doc.good(seven.toString());
            x.seed(seedFor(v * 16, 7, v));
            Doc.due("chance(1)", x.chance(1), 1);
            Doc.due("VOICE " + v + " is drawn", x.voice(v, 1), 1);
        }
    }
}
