/** 'Terms' I, the town as a text: how much it may hold, what its sums come to, which faults it has and where. */
final class TownTerms {
    private static final String V = "voice v pitch 1;";
    private static final String P = "person p pitch 1 calm 1;";
    private static final String[] OWN = {"voice", "pitch", "person", "calm", "wants", "at", "long", "picks", "mixes",
        "hush", "stroke", "tone", "waits", "minute", "load", "busy", "if", "or", "and", "not", "all", "min", "max"};

    private TownTerms() { }

    static void check() {
        statements();
        voices();
        persons();
        wants();
        rulesAndStroke();
        sums();
        facts();
        choices();
        tests();
        divisions();
        results();
        names();
        numbers();
        blanks();
        ownWords();
        firstFault();
        noTownGoesOn();
        endsTooSoon();
        tooLong();
        namesAsked();
        numbersThatCannotBe();
        openAtOnce();
        oneTooMany();
        the81st();
    }

    private static String voices(int many) {
        StringBuilder out = new StringBuilder();
        for (int v = 0; v < many; v++) out.append("voice v").append((char) ('a' + v)).append(" pitch ").append(v).append(';');
        return out.toString();
    }

    private static String persons(int many) {
        StringBuilder out = new StringBuilder();
        for (int p = 0; p < many; p++) out.append("person p").append((char) ('a' + p)).append(" pitch 1 calm ").append(p).append(';');
        return out.toString();
    }

    private static void statements() {
        Doc.terms("I", "A TOWN is a text: { STATEMENT ; } (80 at most)");
        Doc.good("");
        Doc.good(" ");
        Doc.good("stroke 1;");
        Doc.good("stroke 1;".repeat(79));
        Doc.good("stroke 1;".repeat(80));
        Doc.fault(6, "stroke 1;".repeat(80) + "^stroke 1;");
        Doc.fault(1, "^;");
        Doc.fault(1, "stroke 1;^;");
        Doc.fault(1, "stroke 1^");
    }

    private static void voices() {
        Doc.terms("I", ": voice NAME pitch N (0 .. 9; 7 VOICES);");
        Doc.due("pitch 0", Doc.good("voice v pitch 0;").voice(0, 0), 0);
        Doc.due("pitch 9", Doc.good("voice v pitch 9;").voice(0, 0), 9);
        Doc.fault(4, "voice v pitch ^10;");
        Doc.fault(1, "voice v pitch ^-1;");
        Doc.due("6 VOICES", Doc.good(voices(6)).has(0), 6);
        ThrownVoices x = Doc.good(voices(7));
        Doc.row("7 VOICES", Doc.of(x.has(0), x.voice(6, 0), x.voice(7, 0), x.letter(0, 6, 1)), 7, 6, -1, 7);
        Doc.fault(6, voices(7) + "^voice x pitch 1;");
    }

    private static void persons() {
        Doc.terms("I", "person NAME pitch N calm N (0 .. 9; 0 .. 99; 8 PERSONS);");
        ThrownVoices x = Doc.good("person p pitch 0 calm 0;person q pitch 9 calm 99;");
        Doc.row("least and largest", Doc.of(x.person(0, 0), x.person(0, 1), x.person(1, 0), x.person(1, 1)), 0, 0, 9, 99);
        Doc.fault(4, "person p pitch ^10 calm 1;");
        Doc.fault(4, "person p pitch 1 calm ^100;");
        Doc.fault(1, "person p pitch ^-1 calm 1;");
        Doc.fault(1, "person p pitch 1 calm ^-1;");
        Doc.due("7 PERSONS", Doc.good(persons(7)).has(1), 7);
        x = Doc.good(persons(8));
        Doc.row("8 PERSONS", Doc.of(x.has(1), x.person(7, 1), x.person(8, 1), x.letter(1, 7, 1)), 8, 7, -1, 8);
        Doc.fault(6, persons(8) + "^person x pitch 1 calm 1;");
    }

    private static void wants() {
        Doc.terms("I", "wants NAME at N long N (a PERSON; a MINUTE 0 .. 999; 1 .. 20 MINUTES; the next SAYING, 12 SAYINGS);");
        ThrownVoices x = Doc.good(P + "wants p at 0 long 1;wants p at 999 long 20;");
        Doc.row("least and largest", Doc.of(x.saying(0, 1), x.saying(0, 2), x.saying(1, 1), x.saying(1, 2)), 0, 1, 999, 20);
        Doc.fault(4, P + "wants p at ^1000 long 1;");
        Doc.fault(1, P + "wants p at ^-1 long 1;");
        Doc.fault(4, P + "wants p at 0 long ^0;");
        Doc.fault(4, P + "wants p at 0 long ^21;");
        Doc.fault(3, V + P + "wants ^v at 0 long 1;");
        Doc.due("11 SAYINGS", Doc.good(P + "wants p at 0 long 1;".repeat(11)).has(2), 11);
        x = Doc.good(P + "wants p at 0 long 1;".repeat(11) + "wants p at 7 long 13;");
        Doc.row("12 SAYINGS", Doc.of(x.has(2), x.saying(11, 1), x.saying(11, 2), x.saying(12, 1)), 12, 7, 13, -1);
        Doc.fault(6, P + "wants p at 0 long 1;".repeat(12) + "^wants p at 0 long 1;");
    }

    private static void rulesAndStroke() {
        Doc.terms("I", "picks SUM, mixes TEST, hush TEST (one each);");
        Doc.good("hush all;mixes all;picks 1;");
        Doc.fault(6, "picks 1;^picks 1;");
        Doc.fault(6, "mixes all;picks 1;^mixes all;");
        Doc.fault(6, "hush all;picks 1;mixes all;^hush all;");
        Doc.fault(1, "picks 1^=1;");
        Doc.fault(1, "mixes 1^;");
        Doc.fault(1, "hush 1^;");
        Doc.terms("I", "stroke N (0 .. 100; the last one counts, 0 without).");
        Doc.due("stroke 0", odds("stroke 0;"), 0);
        Doc.due("stroke 1", odds("stroke 1;"), 1);
        Doc.due("stroke 100", odds("stroke 100;"), 100);
        Doc.fault(4, "stroke ^101;");
        Doc.fault(1, "stroke ^-1;");
        Doc.due("the last of two", odds("stroke 100;stroke 7;"), 7);
        Doc.due("the last of three", odds("stroke 100;stroke 7;stroke 0;"), 0);
        Doc.due("without", odds(""), 0);
        ThrownVoices x = Doc.good("stroke 50;" + V);
        Check.put(x, Check.bytes(V + P + "wants p at 0 long 9;"));
        Doc.due("another town without", x.town(), 3);
        x.minutes(1);
        Doc.due("odds without", x.odds(0), 0);
    }

    /** By how many of a hundred rows what SOUNDS by the only VOICE is BROKEN. */
    private static long odds(String stroke) {
        return Doc.at(1, V + P + "wants p at 0 long 9;" + stroke).odds(0);
    }

    // ---- sums

    private static final String TWO = "voice v pitch 7;voice w pitch 2;person p pitch 3 calm 50;wants p at 0 long 20;"
            + "wants p at 1 long 4;";

    private static void sum(String picks, long want) {
        Doc.due(picks, Doc.good(TWO + "picks " + picks + ";").picks(1, 0), want);
    }

    private static void test(String test, boolean want) {
        sum("if(" + test + ",1,0)", want ? 1 : 0);
    }

    private static void sums() {
        Doc.terms("I", "SUM: PRODUCT { + or - PRODUCT }.");
        sum("5", 5);
        sum("9-3-2", 4);
        sum("9-3+2", 8);
        sum("1+2*3", 7);
        sum("9-2*3", 3);
        Doc.fault(1, "picks ^;");
        Doc.fault(1, "picks 1+^;");
        Doc.fault(1, "picks 1 ^1;");
        Doc.fault(1, "picks 1+^+1;");
        Doc.fault(1, "picks ^-1;");
        Doc.terms("I", "PRODUCT: PART { * or / or % PART }.");
        sum("2*3*4", 24);
        sum("24/3*4", 32);
        sum("24*3%5", 2);
        sum("24%7/2", 1);
        Doc.fault(1, "picks ^*1;");
        Doc.fault(1, "picks 1*^;");
        Doc.fault(1, "picks 1/^%2;");
        Doc.terms("I", "All from the left on;");
        sum("100/7/2", 7);
        sum("100-7-2", 91);
        sum("7/2*2", 6);
        sum("1000*1000+1-1", 999999);
    }

    private static void facts() {
        Doc.terms("I", "PART: N; tone; waits; minute; long;");
        sum("0", 0);
        sum("9999", 9999);
        sum("tone", 3);
        sum("waits", 0);
        sum("minute", 0);
        sum("long", 4);
        for (String word : new String[] {"tone", "waits", "minute", "long"}) {
            Doc.good("picks " + word + ";mixes " + word + "=1;hush " + word + "=1;");
        }
        Doc.terms("I", "in picks: load; pitch; in mixes: pitch; busy; in hush: calm;");
        Doc.good("picks load+pitch;mixes pitch<busy;hush calm=1;");
        Doc.fault(1, "picks ^busy;");
        Doc.fault(1, "picks ^calm;");
        Doc.fault(1, "mixes ^load=1;");
        Doc.fault(1, "mixes ^calm=1;");
        Doc.fault(1, "hush ^load=1;");
        Doc.fault(1, "hush ^pitch=1;");
        Doc.fault(1, "hush ^busy=1;");
        Doc.fault(1, "picks if(1=^busy,1,2);");
        Doc.terms("I", "(Of the SAYING the pitch of its PERSON, for how many MINUTES it has waited, how long it is; the MINUTE;"
                + " of the VOICE how many SAYINGS it has begun, its pitch; how many VOICES are busy, it too;"
                + " how calm the PERSON is.)");
        // Nobody picks ahead of MINUTE 2; then v does, the first of like ones.
        ThrownVoices x = Doc.at(2, TWO + "picks if(minute<2,0,1000*(100*minute+10*waits+load)+100*long+10*tone+pitch);");
        Doc.row("ahead", Doc.of(x.picks(0, 0), x.picks(0, 1), x.picks(1, 0)), 222037, 222032, 210437);
        x.minutes(1);
        Doc.row("behind", Doc.of(x.picks(0, 0), x.picks(1, 0), x.picks(1, 1)), 323037, 311437, 311432);
        // v begins the first SAYING, w the second one.
        String both = "voice v pitch 7;voice w pitch 2;person p pitch 3 calm 2;wants p at 0 long 9;wants p at 0 long 4;"
                + "wants p at 0 long 5;picks 1;";
        Doc.row("busy is 1, then 2", mixed(both, "busy=1"), 1, 0);
        Doc.row("busy is 1, then 2", mixed(both, "busy=2"), 0, 1);
        Doc.row("pitch in mixes", mixed(both, "pitch=7"), 1, 0);
        Doc.row("long in mixes", mixed(both, "long=4"), 0, 1);
        Doc.due("calm", Doc.good(both + "hush calm=2;").ends(2), 1);
        Doc.due("calm of others", Doc.good(both + "hush calm<2;").later(2, 5, 0), 2);
    }

    private static long[] mixed(String town, String test) {
        ThrownVoices x = Doc.at(1, town + "mixes " + test + ";");
        return Doc.of(x.saying(0, 7), x.saying(1, 7));
    }

    private static void choices() {
        Doc.terms("I", "( SUM ) ; min ( SUM , SUM ) ; max ( SUM , SUM ) ;");
        sum("(5)", 5);
        sum("2*(3+4)", 14);
        sum("min(3,9)", 3);
        sum("min(9,3)", 3);
        sum("max(3,9)", 9);
        sum("max(9,3)", 9);
        sum("min(4,4)+max(4,4)", 8);
        sum("min(0-1,1)", -1);
        Doc.fault(1, "picks (^);");
        Doc.fault(1, "picks (1^;");
        Doc.fault(1, "picks min ^1,2;");
        Doc.fault(1, "picks min(1^);");
        Doc.fault(1, "picks max(1,2^,3);");
        Doc.fault(1, "picks max(1,^);");
        Doc.terms("I", "if ( TEST , SUM , SUM ) (the first SUM where the TEST holds, else the second one).");
        sum("if(1<2,3,4)", 3);
        sum("if(2<2,3,4)", 4);
        sum("if(all,0,4)", 0);
        sum("if(not all,4,0)", 0);
        Doc.fault(1, "picks if(1^,2,3);");
        Doc.fault(1, "picks if(all,2^);");
        Doc.fault(1, "picks if(all^);");
        Doc.fault(1, "picks if ^all;");
        Doc.fault(1, "picks if(all,2,3^,4);");
    }

    private static void tests() {
        Doc.terms("I", "TEST: BOTH { or BOTH }. BOTH: FACT { and FACT }.");
        test("all or not all and not all", true);
        test("not all and not all or all", true);
        test("not all or all and not all", false);
        test("not all or not all or all", true);
        test("all and all and not all", false);
        Doc.fault(1, "hush ^;");
        Doc.fault(1, "hush ^or all;");
        Doc.fault(1, "hush all or^;");
        Doc.fault(1, "hush all and ^or all;");
        Doc.fault(1, "hush all ^all;");
        Doc.terms("I", "FACT: not FACT; [ TEST ] ; all; SUM SIGN SUM, SIGN < or > or = .");
        test("not all", false);
        test("not not all", true);
        test("not all and not all", false);
        test("not [not all or all]", false);
        test("[all or not all] and not all", false);
        test("1<2", true);
        test("2<2", false);
        test("3<2", false);
        test("1>2", false);
        test("2>2", false);
        test("3>2", true);
        test("1=2", false);
        test("2=2", true);
        test("3=2", false);
        test("0-1<0", true);
        for (String fact : new String[] {"1<2", "2>1", "2=2", "[1<2]", "not 2<1", "not not 1<2", "all"}) {
            test(fact + " and all", true);
            test("all and " + fact, true);
            test("not " + fact, false);
            test("not [" + fact + " and not all] and " + fact, true);
            test("not all or " + fact, true);
            test(fact + " or " + fact + " and not all", true);
        }
        Doc.fault(1, "hush not^;");
        Doc.fault(1, "hush [^];");
        Doc.fault(1, "hush [all^;");
        Doc.fault(1, "hush (^all);");
        Doc.fault(1, "hush 1<^;");
        Doc.fault(1, "hush 1<^=2;");
        Doc.fault(1, "hush 1<2^<3;");
        Doc.fault(1, "picks ^[all];");
    }

    private static void divisions() {
        Doc.terms("I", "/ gives the greatest whole number not above, % what is left (a less b times that);");
        sum("6/3", 2);
        sum("7/3", 2);
        sum("8/3", 2);
        sum("(0-6)/3", -2);
        sum("(0-7)/3", -3);
        sum("(0-8)/3", -3);
        sum("7/(0-3)", -3);
        sum("(0-7)/(0-3)", 2);
        sum("1/9", 0);
        sum("(0-1)/9", -1);
        sum("6%3", 0);
        sum("8%3", 2);
        sum("(0-6)%3", 0);
        sum("(0-7)%3", 2);
        sum("7%(0-3)", -2);
        sum("(0-7)%(0-3)", -1);
        sum("6%(0-3)", 0);
        Doc.terms("I", "by 0 both give 0;");
        sum("7/0", 0);
        sum("7%0", 0);
        sum("0/0", 0);
        sum("0%0", 0);
        sum("(0-7)/(3-3)", 0);
        sum("(0-7)%(3-3)", 0);
        sum("1+7/0*9", 1);
    }

    private static void results() {
        Doc.terms("I", "each result above 10 to the 6 is that, below -10 to the 6 likewise.");
        sum("1000*1000-1", 999999);
        sum("1000*1000", 1000000);
        sum("1000*1000+0", 1000000);
        sum("1000*1000+1", 1000000);
        sum("1001*1000", 1000000);
        sum("9999*9999", 1000000);
        sum("9999*9999-1", 999999);
        sum("9999*9999*9999*9999", 1000000);
        sum("0-1000*1000", -1000000);
        sum("0-1000*1000+1", -999999);
        sum("0-1000*1000-1", -1000000);
        sum("0-1000*1000-1+1", -999999);
        sum("(0-1001)*1000", -1000000);
        sum("(0-9999)*9999*9999", -1000000);
        sum("(0-1000*1000)/(0-1)", 1000000);
    }

    // ---- words

    private static void names() {
        Doc.terms("I", "NAMES: 1 to 6 letters, unlike ones (of both sorts), told ahead of where they are asked.");
        ThrownVoices x = Doc.good("voice a pitch 1;person abcdef pitch 1 calm 1;voice zzzzzz pitch 1;voice az pitch 1;"
                + "voice za pitch 2;");
        Doc.row("first and last letters", Doc.of(x.letter(0, 0, 0), x.letter(0, 0, 1), x.letter(1, 0, 5), x.letter(0, 1, 5)),
                1, 0, 6, 26);
        Doc.fault(1, "voice ^;");
        Doc.fault(1, "voice abcdef^g pitch 1;");
        Doc.fault(1, "person abcdef^g pitch 1 calm 1;");
        Doc.fault(1, "voice ^A pitch 1;");
        Doc.fault(1, "voice ^` pitch 1;");
        Doc.fault(1, "voice ^{ pitch 1;");
        Doc.good("voice abcdef pitch 1;voice abcdeg pitch 1;voice abcde pitch 1;voice bcdef pitch 1;");
        Doc.fault(2, V + "voice ^v pitch 1;");
        Doc.fault(2, V + "person ^v pitch 1 calm 1;");
        Doc.fault(2, P + "voice ^p pitch 1;");
        Doc.fault(2, P + "person ^p pitch 1 calm 1;");
        Doc.fault(3, "wants ^p at 1 long 1;" + P);
    }

    private static void numbers() {
        Doc.terms("I", "NUMBERS: 1 to 4 digits.");
        sum("0", 0);
        sum("0000", 0);
        sum("0001", 1);
        sum("9999", 9999);
        Doc.due("pitch 0009", Doc.good("voice v pitch 0009;").voice(0, 0), 9);
        Doc.fault(1, "picks 0000^0;");
        Doc.fault(1, "picks 9999^9;");
        Doc.fault(1, "voice v pitch 0000^9;");
        Doc.fault(1, "picks ^/;");
        Doc.fault(1, "picks ^:;");
    }

    private static void blanks() {
        Doc.terms("I", "Blanks (10, 32) are where one likes (words and numbers side by side need one).");
        Doc.good("\n voice\nv \n pitch 1\n ; ");
        Doc.good(" picks \n min ( 1 , ( 2 ) ) + 3 * 4 ; mixes [ not 1 < 2 ] and all ; ");
        Doc.good("picks min(1,(2))+3*4;mixes[not 1<2]and all;");
        for (int c = 0; c <= 33; c++) {
            if (c == 10 || c == 32) continue;
            Doc.fault(1, "^" + (char) c + "stroke 1;");
            Doc.fault(1, "stroke^" + (char) c + "1;");
            Doc.fault(1, "stroke 1;^" + (char) c);
        }
        Doc.fault(1, "^voicev pitch 1;");
        Doc.fault(1, "voice vpitch ^1;");
        Doc.fault(1, "voice v pitch^1;");
        Doc.fault(1, "person p pitch 1^calm 1;");
        Doc.fault(1, P + "wants p at 0^long 1;");
        Doc.fault(1, "mixes 1<2^and all;");
        Doc.fault(1, "picks 12 ^34;");
    }

    private static void ownWords() {
        Doc.terms("I", "OWN WORDS, which no NAME is: voice, pitch, person, calm, wants, at, long, picks, mixes, hush, stroke,"
                + " tone, waits, minute, load, busy, if, or, and, not, all, min, max.");
        Doc.due("OWN WORDS", OWN.length, 23);
        for (String word : OWN) {
            Doc.fault(1, "voice ^" + word + " pitch 1;");
            Doc.fault(1, "person ^" + word + " pitch 1 calm 1;");
            String less = word.substring(0, word.length() - 1);
            if (!less.isEmpty()) Doc.good("voice " + less + " pitch 1;");
            if (word.length() < 6) Doc.good("voice " + word + "s pitch 1;");
        }
        Doc.good("voice tones pitch 1;voice name pitch 1;voice sum pitch 1;voice n pitch 1;voice saying pitch 1;");
    }

    // ---- faults

    private static void firstFault() {
        Doc.terms("I", "FAULTS, the first along the text:");
        Doc.fault(4, "voice v pitch ^10;voice v pitch 1;");
        Doc.fault(2, V + "voice ^v pitch 10;");
        Doc.fault(3, "wants ^p at 1000 long 0;");
        Doc.fault(4, "stroke ^101$");
        Doc.fault(4, "stroke ^101x");
        Doc.fault(4, "stroke ^101");
        Doc.fault(6, "picks 1;^picks $;");
        Doc.fault(1, "stroke^$101;");
        Doc.fault(1, "picks (((((((^[(");
        Doc.fault(5, "picks (((((((^(");
    }

    private static void noTownGoesOn() {
        Doc.terms("I", "1 the first byte with which no TOWN goes on (words and numbers whole, at their first byte;");
        Doc.fault(1, "^$");
        Doc.fault(1, "^\0");
        Doc.fault(1, "^\u00ff");
        Doc.fault(1, "^v pitch 1;");
        Doc.fault(1, "^voices v pitch 1;");
        Doc.fault(1, "^1;");
        Doc.fault(1, "voice v ^pitchs 1;");
        Doc.fault(1, "voice v ^pitcj 1;");
        Doc.fault(1, "voice v ^1234;");
        Doc.fault(1, "voice v pitch ^w;");
        Doc.fault(1, "voice v pitch 1^,");
        Doc.fault(1, "picks 1+^wait;");
        Doc.fault(1, "picks ^abcdef;");
        for (String word : OWN) {
            boolean begins = "voice person wants picks mixes hush stroke".contains(word);
            if (!begins) Doc.fault(1, "^" + word + " 1;");
        }
    }

    private static void endsTooSoon() {
        Doc.terms("I", "at the text's length, if it ends too soon;");
        String[] whole = {"voice", " v", " pitch", " 1", ";"};
        StringBuilder text = new StringBuilder();
        for (String word : whole) {
            if (text.length() > 0) {
                Doc.fault(1, text + "^");
                Doc.fault(1, text + " \n ^");
            }
            text.append(word);
        }
        Doc.good(text.toString());
        Doc.good(text + " \n ");
        Doc.fault(1, "picks (^");
        Doc.fault(1, "picks min(1,2^");
        Doc.fault(1, "mixes [all^");
        Doc.fault(1, "mixes not^");
        Doc.fault(1, " ".repeat(1593) + "stroke ^");
    }

    private static void tooLong() {
        Doc.terms("I", "a 7th letter, a 5th digit at itself, whatever may stand there;");
        String[] ahead = {"", "voice ", "voice v ", "voice v pitch ", "voice v pitch 1 ", "person p pitch 1 ", P + "wants ",
            P + "wants p at ", P + "wants p at 1 long ", "picks ", "picks 1+", "picks 1 ", "picks min ", "mixes ", "mixes not ",
            "mixes 1<2 ", "hush [", "stroke ", "stroke 1;", "picks 1;"};
        for (String text : ahead) {
            Doc.fault(1, text + "abcdef^g");
            Doc.fault(1, text + "abcdef^ghi 1;");
            Doc.fault(1, text + "1234^5");
            Doc.fault(1, text + "0000^0678;");
        }
        Doc.fault(1, "voicev^v pitch 1;");
        Doc.fault(1, "stroke^s 1;");
        Doc.fault(1, "minute^s");
    }

    private static void namesAsked() {
        Doc.terms("I", "an OWN WORD where a NAME must be);");
        for (String word : OWN) {
            Doc.fault(1, V + "voice ^" + word);
            Doc.fault(1, P + "wants ^" + word + " at 1 long 1;");
        }
        Doc.terms("I", "2 a NAME that is there already, at its first byte;");
        Doc.fault(2, "voice abcdef pitch 1;voice ^abcdef pitch 1;");
        Doc.fault(2, "voice abcdef pitch 1;" + voices(6) + "person ^vf");
        Doc.fault(2, persons(8) + "voice ^pa");
        Doc.fault(2, persons(7) + "person \n ^pg;");
        Doc.fault(1, V + "voice w pitch 1;voice vvvvvv^v pitch 1;");
        Doc.terms("I", "3 a NAME that is none of a PERSON, at its first byte;");
        Doc.fault(3, "wants ^p at 1 long 1;");
        Doc.fault(3, P + "wants ^q at 1 long 1;");
        Doc.fault(3, P + "wants ^pp at 1 long 1;");
        Doc.fault(3, V + P + "wants \n^v");
        Doc.due("the last PERSON", Doc.good(persons(8) + "wants ph at 1 long 1;").saying(0, 0), 7);
        Doc.due("the first PERSON", Doc.good(persons(8) + "wants pa at 1 long 1;").saying(0, 0), 0);
    }

    private static void numbersThatCannotBe() {
        Doc.terms("I", "4 a NUMBER that can't be, at its first byte;");
        Doc.fault(4, "voice v pitch \n^10;");
        Doc.fault(4, "voice v pitch ^9999;");
        Doc.fault(4, "voice v pitch ^0010;");
        Doc.fault(4, "person p pitch ^10");
        Doc.fault(4, "person p pitch 9 calm ^100");
        Doc.fault(4, P + "wants p at ^1000");
        Doc.fault(4, P + "wants p at 999 long ^0");
        Doc.fault(4, P + "wants p at 999 long ^0000");
        Doc.fault(4, P + "wants p at 999 long ^21");
        Doc.fault(4, "stroke ^101");
        Doc.good("picks 9999;mixes 9999=9999;hush 9999<0;");
    }

    private static void openAtOnce() {
        Doc.terms("I", "5 the 8th ( [ not that is open at once (not until its FACT ends), at it;");
        String[] opens = {"(", "min(1,", "max(", "if(all,1,", "if("};
        for (String last : opens) {
            Doc.fault(1, "picks ((((((" + last + "^;");
            int at = last.indexOf('(');
            Doc.fault(5, "picks (((((((" + last.substring(0, at) + "^" + last.substring(at));
        }
        Doc.good("picks (((((((1)))))));");
        Doc.good("mixes [[[[[[[all]]]]]]];");
        Doc.good("mixes not not not not not not not all;");
        Doc.good("mixes not[not[not[(1)<2]]];");
        Doc.good("mixes [[[[[[[all]]]]]]] and [[[[[[[all]]]]]]] or not not not not not not not all;");
        Doc.fault(5, "mixes [[[[[[[^[all]]]]]]]];");
        Doc.fault(5, "mixes not not not not not not not ^not all;");
        Doc.fault(5, "mixes not[not[not[(^(1)<2]]];");
        Doc.fault(5, "mixes not[not[not[not^[all]]]];");
        // A not is open as far as its FACT goes, behind its SIGN too; then it is open no more.
        Doc.fault(5, "mixes not not not not not not not 1=^(1);");
        Doc.good("mixes not not not not not not not 1=1 and (1)=1;");
        Doc.good("mixes not not not not not not not all or not not not not not not not all;");
        Doc.fault(5, "mixes not not not not not not not all or not not not not not not not ^not all;");
        Doc.good("picks (((((((1)))))))+min(1,((((((2)))))))*if([[[[[[all]]]]]],1,2);");
        Doc.fault(5, "picks (((((((1)))))))+(((((((min^(1,2))))))));");
        Doc.good("mixes " + "not ".repeat(7) + "all and " + "not ".repeat(7) + "all;hush " + "[".repeat(7) + "all"
                + "]".repeat(7) + ";");
    }

    private static void oneTooMany() {
        Doc.terms("I", "6 one too many of a kind of STATEMENT (a second picks, mixes, hush, too),");
        Doc.fault(6, voices(7) + " ^voice");
        Doc.fault(6, voices(7) + persons(8) + "^voice va pitch 10;");
        Doc.fault(6, persons(8) + "\n^person");
        Doc.fault(6, P + "wants p at 0 long 1;".repeat(12) + "^wants x");
        Doc.fault(6, "picks 1;stroke 1; ^picks");
        Doc.fault(6, "mixes all;stroke 1; ^mixes");
        Doc.fault(6, "hush all;stroke 1; ^hush");
        Doc.good(voices(7) + persons(8) + "wants pa at 0 long 1;".repeat(12) + "picks 1;mixes all;hush all;"
                + "stroke 1;".repeat(50));
        Doc.fault(1, voices(7) + "^voicex");
        Doc.fault(1, voices(7) + "voicex^x");
    }

    private static void the81st() {
        Doc.terms("I", "or the 81st STATEMENT (whatever it is), at its first byte.");
        String full = "stroke 1;".repeat(80);
        String[] begins = {"stroke 1;", "voice v pitch 1;", "picks 1;", "stroke", "voic", "max(1,2)", "abcdefg", "12345", "1a",
                ";", "(", "$", "\0"};
        for (String first : begins) {
            Doc.fault(6, full + "^" + first);
            Doc.fault(6, full + " \n^" + first);
        }
        Doc.good(full + " \n ");
        Doc.good(full + " ".repeat(1600 - full.length()));
        String fewer = "stroke 1;".repeat(79);
        Doc.fault(1, fewer + "^abc;");
        Doc.fault(1, fewer + "abcdef^g");
        Doc.fault(1, fewer + "^;");
        Doc.fault(4, fewer + "stroke ^101;");
        Doc.fault(6, full.replaceFirst("stroke 1;", "picks 1;") + "^picks 1;");
    }
}
