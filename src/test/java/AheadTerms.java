/** 'Terms' III: what lies ahead, which voices would serve best, what was heard, images. */
final class AheadTerms {
    private static final String V = "voice v pitch 5;";
    private static final String VW = "voice v pitch 5;voice w pitch 5;";
    private static final String P = "person p pitch 5 calm 9;";

    private AheadTerms() { }

    static void check() {
        ahead();
        match();
        likeMatches();
        choir();
        worst();
        tune();
        needs();
        odds();
        heard();
        pitches();
        telling();
        image();
        largestImage();
        seal();
    }

    private static void ahead() {
        Doc.terms("III", "AHEAD are MINUTES as they come from now on without DRAWS (60 at most, not beyond MINUTE 999).");
        String town = V + P + "wants p at 59 long 1;wants p at 60 long 1;wants p at 998 long 1;wants p at 999 long 1;stroke 100;";
        ThrownVoices x = Doc.good(town);
        Doc.row("0, 60, 61", Doc.of(x.later(0, 0, 0), x.later(0, 60, 0), x.later(0, 61, 0)), 0, 3, -1);
        Doc.row("60 at most", Doc.of(x.ends(0), x.ends(1)), 60, -1);
        Doc.row("no MINUTE went by", Doc.of(x.has(3), x.has(14), x.has(15), x.saying(0, 3)), 0, 0, 1, 0);
        Doc.go(x, 939);
        Doc.row("60 from 939 on", Doc.of(x.later(2, 60, 0), x.busy(60), x.ends(2), x.ends(3)), 3, 0, 60, -1);
        x.minutes(1);
        Doc.row("60 from 940 on", Doc.of(x.later(2, 60, 0), x.busy(60), x.later(2, 59, 0), x.busy(59), x.ends(2)), -1, -1, 3,
                0, 59);
        Doc.go(x, 998);
        Doc.row("from 998 on", Doc.of(x.later(2, 1, 0), x.later(2, 2, 0), x.ends(2), x.ends(3)), 3, -1, 1, -1);
        x.minutes(1);
        Doc.row("from 999 on", Doc.of(x.later(2, 0, 0), x.later(2, 1, 0), x.busy(0), x.busy(1), x.ends(2), x.ends(3)), 3, -1,
                0, -1, 0, -1);
    }

    private static void match() {
        Doc.terms("III", "A MATCH is, for each SAYING that WAITS now, a VOICE neither STRUCK nor busy, or none, unlike ones, the SUM of picks of each above 0:");
        String town = "voice v pitch 1;voice w pitch 2;" + P + "wants p at 0 long 1;wants p at 0 long 1;wants p at 1 long 1;";
        ThrownVoices x = Doc.at(1, town + "picks if(minute<1,0,pitch);");
        Doc.row("two that WAIT, one TO COME", Doc.of(x.match(-1), x.match(0), x.match(1), x.match(2)), 3, 0, 1, -1);
        x.strike(1);
        Doc.row("w is STRUCK", Doc.of(x.match(-1), x.match(0), x.match(1), x.match(2)), 1, -1, 0, -1);
        x.strike(0);
        Doc.row("both are STRUCK", Doc.of(x.match(-1), x.match(0), x.match(1), x.match(2)), 0, -1, -1, -1);
        x = Doc.at(1, town + "picks if(minute<1,0,pitch-1);");
        Doc.row("sums of 0 and 1", Doc.of(x.match(-1), x.match(0), x.match(1)), 1, -1, 1);
        x = Doc.at(1, town + "picks if(minute<1,0,0-pitch);");
        Doc.row("sums below 0", Doc.of(x.match(-1), x.match(0), x.match(1)), 0, -1, -1);
        x = Doc.at(1, town.replace("long 1", "long 9"));
        Doc.row("both are busy", Doc.of(x.has(7), x.match(-1), x.match(0), x.match(2)), 0, 0, -1, -1);
        x.minutes(1);
        Doc.row("both are busy, one WAITS", Doc.of(x.has(7), x.match(-1), x.match(0), x.match(2)), 1, 0, -1, -1);
        StringBuilder seven = new StringBuilder(P + "picks if(minute<1,0,9999*9999);");
        for (int v = 0; v < 7; v++) seven.append("voice ").append((char) ('a' + v)).append(" pitch 9;");
        x = Doc.at(1, seven + "wants p at 0 long 1;".repeat(12));
        Doc.row("7 VOICES for 12", Doc.of(x.match(-1), x.match(4), x.match(5), x.match(11)), 7000000, -1, 0, 6);
        x = Doc.at(1, seven + "wants p at 0 long 1;".repeat(3));
        Doc.row("7 VOICES for 3", Doc.of(x.match(-1), x.match(0), x.match(1), x.match(2)), 3000000, 0, 1, 2);
    }

    private static void likeMatches() {
        Doc.terms("III", "of the greatest sum, of like ones the first row (SAYING by SAYING none, then VOICES by numbers).");
        // p is 5 off v, 4 off w; q is 1 off v, 2 off w: together the second best of each is most.
        ThrownVoices x = Doc.good("voice v pitch 5;voice w pitch 4;person p pitch 0 calm 9;person q pitch 6 calm 9;"
                + "wants p at 0 long 1;wants q at 0 long 1;");
        x.strike(0);
        x.strike(1);
        x.minutes(1);
        x.heal(0);
        Doc.row("v alone", Doc.of(x.match(-1), x.match(0), x.match(1)), 8, -1, 0);
        x.heal(1);
        Doc.row("both", Doc.of(x.match(-1), x.match(0), x.match(1)), 13, 1, 0);
        String two = VW + P + "wants p at 0 long 1;".repeat(2);
        x = Doc.at(1, two + "picks if(minute<1,0,3);");
        Doc.row("by numbers", Doc.of(x.match(-1), x.match(0), x.match(1)), 6, 0, 1);
        x = Doc.at(1, V + P + "wants p at 0 long 1;".repeat(2) + "picks if(minute<1,0,3);");
        Doc.row("none ahead of a VOICE", Doc.of(x.match(-1), x.match(0), x.match(1)), 3, -1, 0);
        x = Doc.at(1, two + "picks if(minute<1,0,3);");
        Doc.row("a SAYING asked first", Doc.of(x.match(1), x.match(0), x.match(-1)), 1, 0, 6);
        Check.put(x, Check.bytes(V + P + "wants p at 0 long 1;picks 0;"));
        x.town();
        x.minutes(1);
        Doc.row("a smaller town then", Doc.of(x.match(0), x.match(-1)), -1, 0);
        // Only v has a sum above 0: less for the first SAYING, the same for both others.
        x = Doc.at(1, VW.replace("w pitch 5", "w pitch 4") + "person p pitch 5 calm 9;wants p at 0 long 1;wants p at 0 long 2;"
                + "wants p at 0 long 2;picks if(minute<1,0,if(pitch>4,long,0));");
        Doc.row("the greatest sum first", Doc.of(x.match(-1), x.match(0), x.match(1), x.match(2)), 2, -1, -1, 0);
    }

    private static void choir() {
        Doc.terms("III", "A CHOIR are the fewest VOICES that are not STRUCK, so that, if the others begin nothing more, nothing is HUSHED in n MINUTES; of like ones the least bits.");
        String town = "voice a pitch 1;voice b pitch 5;voice c pitch 5;person p pitch 5 calm 1;wants p at 0 long 2;"
                + "wants p at 0 long 2;wants p at 9 long 1;";
        ThrownVoices x = Doc.good(town);
        Doc.row("none, two, two", Doc.of(x.choir(1), x.choir(2), x.choir(30)), 0, 3, 3);
        x.strike(0);
        Doc.row("not a", Doc.of(x.choir(1), x.choir(2)), 0, 6);
        x.strike(1);
        Doc.row("c alone is not enough", Doc.of(x.choir(1), x.choir(2)), 0, -1);
        x = Doc.good(town.replace("wants p at 0 long 2;wants p at 0 long 2;", "wants p at 0 long 2;"));
        Doc.row("one; the least bits", Doc.of(x.choir(2), x.choir(30)), 1, 1);
        // One by c (4) is fewer than two by a and b (3).
        x = Doc.good("voice a pitch 0;voice b pitch 0;voice c pitch 5;person p pitch 5 calm 0;wants p at 0 long 1;"
                + "picks pitch-4;");
        Doc.due("fewer ahead of least bits", x.choir(1), 4);
        // What SOUNDS by another goes on; that one begins nothing more.
        x = Doc.at(1, V + "person p pitch 5 calm 0;wants p at 0 long 2;wants p at 9 long 1;");
        Doc.row("it goes on", Doc.of(x.choir(8), x.later(0, 1, 0), x.choir(9)), 0, 3, 1);
        // What is HUSHED already is no matter.
        x = Doc.at(1, "person p pitch 5 calm 0;wants p at 0 long 2;");
        Doc.row("HUSHED already", Doc.of(x.has(10), x.choir(30)), 1, 0);
        // HUSHED in the last of n MINUTES counts, in the one behind it does not.
        x = Doc.good("person p pitch 5 calm 0;wants p at 29 long 2;");
        Doc.row("the last MINUTE", Doc.of(x.choir(29), x.choir(30)), 0, -1);
        StringBuilder seven = new StringBuilder("person p pitch 9 calm 0;");
        for (int v = 0; v < 7; v++) seven.append("voice ").append((char) ('a' + v)).append(" pitch 9;");
        x = Doc.good(seven + "wants p at 0 long 9;".repeat(7));
        Doc.due("all seven", x.choir(1), 127);
        x = Doc.good(seven + "wants p at 0 long 9;".repeat(8));
        Doc.due("not enough", x.choir(1), -1);
    }

    private static void worst() {
        Doc.terms("III", "WORST is the VOICE, not STRUCK, which, STRUCK now, leaves most SAYINGS HUSHED or BROKEN behind n MINUTES (of all that are so then); of like ones the first.");
        String town = "voice a pitch 1;voice b pitch 5;person p pitch 5 calm 0;wants p at 0 long 3;wants p at 2 long 1;"
                + "picks pitch-1;";
        ThrownVoices x = Doc.at(1, town);
        Doc.row("b: one BROKEN, then one HUSHED", Doc.of(x.worst(1, 0), x.worst(1, 1), x.worst(2, 1), x.worst(30, 1)), 1, 1, 2,
                2);
        x.strike(1);
        Doc.row("of all that are so, a is left", Doc.of(x.worst(1, 0), x.worst(1, 1), x.worst(2, 1)), 0, 1, 2);
        x.strike(0);
        Doc.row("all are STRUCK", Doc.of(x.worst(1, 0), x.worst(1, 1)), -1, -1);
        x = Doc.good(VW + P);
        Doc.row("like ones, nothing lost", Doc.of(x.worst(1, 0), x.worst(30, 1)), 0, 0);
        x = Doc.at(1, VW + P + "wants p at 0 long 3;wants p at 0 long 3;");
        Doc.row("like ones, one lost", Doc.of(x.worst(1, 0), x.worst(1, 1)), 0, 1);
        x = Doc.at(1, VW + P + "wants p at 0 long 1;wants p at 0 long 3;");
        Doc.row("what is SAID is not lost", Doc.of(x.worst(1, 0), x.worst(1, 1)), 1, 1);
    }

    private static void tune() {
        Doc.terms("III", "To TUNE a VOICE is the pitch to which it should be trained (or stay) now, so that most SAYINGS are SAID behind n MINUTES; of like ones the least.");
        ThrownVoices x = Doc.good("voice a pitch 0;person p pitch 5 calm 0;wants p at 0 long 2;picks pitch-3;");
        Doc.row("the least of six", Doc.of(x.tune(0, 2, 0), x.tune(0, 2, 1)), 4, 1);
        Doc.row("too soon for any", Doc.of(x.tune(0, 1, 0), x.tune(0, 1, 1)), 0, 0);
        Doc.row("it is not trained", Doc.of(x.voice(0, 0), x.has(14), x.has(3)), 0, 0, 0);
        x = Doc.good("voice a pitch 4;person p pitch 5 calm 0;wants p at 0 long 1;picks if(pitch=4,1,0);");
        Doc.row("to stay", Doc.of(x.tune(0, 1, 0), x.tune(0, 1, 1)), 4, 1);
        x = Doc.good("voice a pitch 4;person p pitch 5 calm 0;wants p at 0 long 1;picks if(pitch=9,1,0);");
        Doc.row("9, the last one", Doc.of(x.tune(0, 1, 0), x.tune(0, 1, 1)), 9, 1);
        x = Doc.good("voice a pitch 4;person p pitch 5 calm 0;wants p at 0 long 1;picks if(pitch=0,1,0);");
        Doc.row("0, the first one", Doc.of(x.tune(0, 1, 0), x.tune(0, 1, 1)), 0, 1);
        x = Doc.good("voice a pitch 4;person p pitch 5 calm 0;wants p at 0 long 1;picks if(pitch>9 or pitch<0,1,0);");
        Doc.row("10 is none", Doc.of(x.tune(0, 1, 0), x.tune(0, 1, 1)), 0, 0);
        // Of all that are SAID then: what was SAID counts too; a STRUCK one helps by no pitch.
        x = Doc.at(1, V + P + "wants p at 0 long 1;wants p at 1 long 1;");
        Doc.row("what was SAID counts", Doc.of(x.tune(0, 1, 0), x.tune(0, 1, 1)), 0, 2);
        x.strike(0);
        Doc.row("a STRUCK one", Doc.of(x.tune(0, 1, 0), x.tune(0, 1, 1)), 0, 1);
    }

    private static void needs() {
        Doc.terms("III", "A SAYING that WAITS NEEDS a VOICE, if that one, neither STRUCK nor busy, has a SUM of picks above 0 for it now, and no other one that is neither has.");
        String town = "voice v pitch 1;voice w pitch 2;" + P + "wants p at 0 long 9;wants p at 0 long 9;wants p at 1 long 9;";
        ThrownVoices x = Doc.at(1, town + "picks if(minute<1,0,pitch-1);");
        Doc.row("sums of 0 and 1", Doc.of(x.needed(0), x.needed(1)), 0, 2);
        x = Doc.at(1, town + "picks if(minute<1,0,pitch);");
        Doc.row("sums of 1 and 2", Doc.of(x.needed(0), x.needed(1)), 0, 0);
        x.strike(1);
        Doc.row("the other one is STRUCK", Doc.of(x.needed(0), x.needed(1)), 2, 0);
        x.strike(0);
        Doc.row("both are STRUCK", Doc.of(x.needed(0), x.needed(1)), 0, 0);
        // w gives the first SAYING alone, so that the others need v in the next MINUTE.
        x = Doc.at(1, town + "picks if(minute<1,if(pitch=2,1,0),pitch);");
        Doc.row("the other one is busy", Doc.of(x.saying(0, 5), x.needed(0), x.needed(1)), 1, 1, 0);
        x.minutes(1);
        Doc.row("both are busy", Doc.of(x.has(7), x.needed(0), x.needed(1)), 1, 0, 0);
        x = Doc.at(1, town + "picks if(minute<1,0,0-pitch);");
        Doc.row("sums below 0", Doc.of(x.needed(0), x.needed(1)), 0, 0);
        x = Doc.good(town + "picks pitch-1;");
        Doc.row("nothing WAITS", Doc.of(x.needed(0), x.needed(1)), 0, 0);
    }

    private static void odds() {
        Doc.terms("III", "ODDS of a SAYING are by how many of all rows of a number below 100, a VOICE, it is BROKEN behind the next MINUTE by the seed.");
        String town = VW + "voice u pitch 0;person p pitch 5 calm 0;wants p at 0 long 9;wants p at 0 long 1;"
                + "wants p at 0 long 9;wants p at 0 long 9;wants p at 1 long 9;wants p at 9 long 1;";
        for (int stroke = 0; stroke < 101; stroke += stroke == 1 ? 98 : 1) {
            ThrownVoices x = Doc.at(1, town + "picks if(pitch=0,0,1);stroke " + stroke + ";");
            Doc.row("stroke " + stroke, Doc.of(x.odds(-1), x.odds(0), x.odds(1), x.odds(2), x.odds(4), x.odds(5)), 300, stroke,
                    0, 0, 0, 0);
            x.strike(0);
            Doc.row("BROKEN already", Doc.of(x.odds(-1), x.odds(0)), 300, 300);
        }
        // Its last MINUTE: a stroke comes ahead of its being SAID. What begins in the next MINUTE is not BROKEN in it.
        ThrownVoices x = Doc.at(1, V + P + "wants p at 0 long 2;stroke 40;");
        Doc.row("a MINUTE left", Doc.of(x.saying(0, 6), x.odds(0), x.odds(-1)), 1, 40, 100);
        x = Doc.good(V + P + "wants p at 0 long 2;stroke 40;");
        Doc.row("it begins in the next", Doc.of(x.later(0, 1, 0), x.odds(0)), 2, 0);
        StringBuilder seven = new StringBuilder("stroke 1;");
        for (int v = 0; v < 7; v++) seven.append("voice ").append((char) ('a' + v)).append(" pitch 9;");
        Doc.due("7 VOICES", Doc.good(seven.toString()).odds(-1), 700);
    }

    // ---- what was heard

    private static void heard() {
        Doc.terms("III", "HEARD are rows of MINUTES AHEAD by number (0 .. 30;"
                + " 0 is the next one), a SAYING, the VOICE that gave it, if it SOUNDS in that MINUTE"
                + " (ahead of its MINUTE being less), 255 if it does not:");
        // From pitch 6 on v serves p; the SAYING SOUNDS in the MINUTES 1 and 2 alone.
        String town = V + "voice w pitch 0;person p pitch 5 calm 9;wants p at 1 long 2;picks pitch-tone;";
        ThrownVoices x = Doc.good(town);
        int above = 1023 - 63;
        Doc.due("it SOUNDS in MINUTE 0", fits(x, 0, 0, 0), 0);
        Doc.due("it does not in MINUTE 0", fits(x, 0, 0, 255), 1023);
        Doc.due("it SOUNDS in MINUTE 1", fits(x, 1, 0, 0), above);
        Doc.due("it does not in MINUTE 1", fits(x, 1, 0, 255), 63);
        Doc.due("it SOUNDS in its last MINUTE", fits(x, 2, 0, 0), above);
        Doc.due("it SOUNDS behind that", fits(x, 3, 0, 0), 0);
        Doc.due("by another", fits(x, 1, 0, 1), 0);
        x.minutes(1);
        Doc.due("0 is the next one", fits(x, 0, 0, 0), above);
        x = Doc.good(town.replace("at 1", "at 30"));
        Doc.due("MINUTE 30", fits(x, 30, 0, 0), above);
        Doc.due("MINUTE 29", fits(x, 29, 0, 0), 0);
        Check.put(x, 31, 0, 0);
        Doc.due("hear() of MINUTE 31", x.hear(), -1);
        // Long 1: it is SAID in the MINUTE in which it begins, and SOUNDS in that.
        x = Doc.good(town.replace("long 2", "long 1"));
        Doc.row("long 1", Doc.of(fits(x, 1, 0, 0), fits(x, 2, 0, 0), fits(x, 2, 0, 255)), above, 0, 1023);
        // HUSHED in that MINUTE: it does not SOUND.
        x = Doc.good(town.replace("calm 9", "calm 0").replace("at 1", "at 0"));
        Doc.row("HUSHED", Doc.of(fits(x, 0, 0, 0), fits(x, 0, 0, 255)), above, 63);
        // BROKEN, it does not SOUND, though its VOICE stays told.
        x = Doc.at(1, V + P + "wants p at 0 long 9;");
        Doc.row("it SOUNDS now", Doc.of(fits(x, 0, 0, 0), fits(x, 7, 0, 0), fits(x, 8, 0, 0)), 1023, 1023, 0);
        x.strike(0);
        Doc.row("BROKEN", Doc.of(fits(x, 0, 0, 0), fits(x, 0, 0, 255)), 0, 1023);
    }

    private static int fits(ThrownVoices x, int... rows) {
        Check.put(x, rows);
        Doc.due("hear()", x.hear(), rows.length / 3);
        return x.pitches(0);
    }

    private static void pitches() {
        Doc.terms("III", "PITCHES (0 .. 9) are those that a told VOICE can have now, so that all is so.");
        for (int pitch = 0; pitch < 10; pitch++) {
            ThrownVoices x = Doc.good(V + P + "wants p at 0 long 2;picks if(pitch=" + pitch + ",1,0);");
            Doc.due("pitch " + pitch + " alone", fits(x, 0, 0, 0), 1 << pitch);
            Doc.due("all but pitch " + pitch, fits(x, 0, 0, 255), 1023 - (1 << pitch));
            Doc.due("none", fits(x, 0, 0, 255, 1, 0, 0), 0);
        }
        // From pitch 6 on for p, from pitch 3 on for q: all rows must be so.
        ThrownVoices x = Doc.good(V + "voice w pitch 0;person p pitch 5 calm 0;person q pitch 2 calm 0;wants p at 0 long 1;"
                + "wants q at 1 long 1;picks pitch-tone;");
        Doc.due("not p, but q", fits(x, 0, 0, 255, 1, 1, 0), 8 + 16 + 32);
        Doc.row("w up to 5, v being the first of like ones; nobody is trained", Doc.of(x.pitches(1), x.voice(0, 0), x.voice(1,
                0)), 63, 5, 0);
        Doc.due("q by w", fits(x, 1, 1, 1), 0);
        Doc.due("w above 5", x.pitches(1), 1023 - 63);
        x = Doc.at(1, V + P + "wants p at 0 long 9;");
        Doc.due("what SOUNDS now goes on by any", fits(x, 0, 0, 0), 1023);
    }

    private static void telling() {
        Doc.terms("III", "TELLING is the MINUTE AHEAD (0 .. 30), the SAYING, by whose VOICE, whichever, or none, the most of these left are fewest; of like ones the first,"
                + " MINUTE by MINUTE, SAYING by SAYING.");
        String town = V + "person p pitch 3 calm 9;person q pitch 4 calm 9;wants p at 30 long 1;picks pitch-tone;";
        ThrownVoices x = Doc.good(town);
        Doc.row("MINUTE 30", told(x), 30, 0, 6);
        x = Doc.good(town.replace("at 30", "at 31"));
        Doc.row("not MINUTE 31", told(x), 0, 0, 10);
        x = Doc.good(town.replace("at 30", "at 0"));
        Doc.row("MINUTE 0", told(x), 0, 0, 6);
        x = Doc.good(town.replace("at 30", "at 0").replace("long 1;", "long 1;wants q at 1 long 1;"));
        Doc.row("the fewest, though later", told(x), 1, 1, 5);
        x = Doc.good(town.replace("wants p at 30 long 1;", "wants p at 4 long 1;wants q at 3 long 1;wants q at 3 long 2;"));
        Doc.row("of like ones the first", told(x), 3, 1, 5);
        x = Doc.good(town.replace("wants p at 30 long 1;", "wants q at 5 long 1;wants q at 4 long 1;wants q at 4 long 1;"));
        Doc.row("the MINUTE ahead of the SAYING", told(x), 4, 1, 5);
        // By v, by w, or none: 10 pitches in three kinds.
        x = Doc.good("voice v pitch 0;voice w pitch 4;person p pitch 5 calm 0;wants p at 0 long 1;"
                + "picks if(minute>0,0,if(pitch=4,5,pitch));");
        Doc.row("two kinds of VOICES", told(x), 0, 0, 6);
        x.strike(1);
        Doc.row("v or none", told(x), 0, 0, 9);
        // Of those left alone.
        x = Doc.good(town.replace("at 30", "at 0").replace("long 1;", "long 1;wants q at 1 long 1;"));
        Doc.due("p SOUNDS", fits(x, 0, 0, 0), 1023 - 15);
        Doc.row("of six that are left", told(x), 1, 1, 5);
        Doc.due("p and q SOUND", fits(x, 0, 0, 0, 1, 1, 0), 1023 - 31);
        Doc.row("of five that are left", told(x), 0, 0, 5);
        Doc.due("none can be", fits(x, 0, 0, 255, 1, 1, 0, 30, 0, 0), 0);
        Doc.row("of none", told(x), -1, -1, -1);
    }

    private static long[] told(ThrownVoices x) {
        return Doc.of(x.tells(0, 0), x.tells(0, 1), x.tells(0, 2));
    }

    // ---- images

    private static void image() {
        Doc.terms("III", "AN IMAGE: MINUTE (two bytes, the higher first);"
                + " for each VOICE its pitch, 1 if it is STRUCK, else 0, how many it has begun;"
                + " for each SAYING what it is (0 .. 5), its MINUTE (two bytes), for how many it has waited, its VOICE (255: none; the last one stays with what"
                + " is SAID or BROKEN), how many are left (0 of what does not SOUND), 1 if it is MIXED, else 0;");
        int[] minutes = {0, 1, 255, 256, 257, 511, 512, 767, 768, 998, 999};
        for (int minute : minutes) {
            int[] image = Check.image(Doc.at(minute, ""));
            Doc.row("MINUTE " + minute, Doc.of(image.length, image[0], image[1]), 3, minute / 256, minute % 256);
            image = Check.image(Doc.good(P + "wants p at " + minute + " long 1;"));
            row("wants at " + minute, image, 0, 0, 0, minute / 256, minute % 256, 0, 255, 0, 0);
        }
        // v SAID the first, w gives the second; the third was HUSHED, the fourth WAITS, the last is TO COME; then w is STRUCK.
        ThrownVoices x = Doc.at(2, VW.replace("w pitch 5", "w pitch 9")
                + "person p pitch 5 calm 1;person q pitch 0 calm 9;wants p at 0 long 2;"
                + "wants p at 0 long 20;wants p at 0 long 1;wants q at 0 long 1;wants p at 300 long 1;mixes busy=2;");
        int[] start = {0, 2, 5, 0, 1, 9, 0, 1, 3, 0, 0, 0, 0, 0, 0};
        int[] rest = {4, 0, 0, 2, 255, 0, 0, 1, 0, 0, 2, 255, 0, 0, 0, 1, 44, 0, 255, 0, 0};
        row("w gives", Check.image(x), start, new int[] {2, 0, 0, 0, 1, 18, 1}, rest);
        x.strike(1);
        start[6] = 1;
        row("w is STRUCK", Check.image(x), start, new int[] {5, 0, 0, 0, 1, 0, 1}, rest);
    }

    private static void row(String call, int[] image, int[]... parts) {
        int k = 0;
        for (int[] part : parts) {
            for (int value : part) {
                Doc.due(call + ", byte " + k, k < image.length ? image[k] : -1, value);
                k++;
            }
        }
        Doc.due(call + ", bytes", image.length, k + 1);
    }

    private static void row(String call, int[] image, int... bytes) {
        row(call, image, new int[][] {bytes});
    }

    private static void largestImage() {
        StringBuilder town = new StringBuilder(P + "mixes all;");
        for (int v = 0; v < 7; v++) town.append("voice ").append((char) ('a' + v)).append(" pitch ").append(v).append(";");
        ThrownVoices x = Doc.at(1, town + "wants p at 0 long 20;".repeat(12));
        int[] image = Check.image(x);
        Doc.due("7 VOICES, 12 SAYINGS", image.length, 2 + 21 + 84 + 1);
        for (int v = 0; v < 7; v++) Doc.row("VOICE " + v, Doc.of(image[2 + 3 * v], image[3 + 3 * v], image[4 + 3 * v]), v, 0, 1);
        for (int s = 0; s < 12; s++) {
            int at = 23 + 7 * s;
            boolean sounds = s < 7;
            Doc.row("SAYING " + s, Doc.of(image[at], image[at + 3], image[at + 5], image[at + 6]), sounds ? 2 : 1, sounds ? 0
                    : 1, sounds ? 19 : 0, sounds ? 1 : 0);
        }
    }

    private static void seal() {
        Doc.terms("III", "last a byte: all ahead from 199 on, c = (5 c + it) mod 251.");
        ThrownVoices x = new ThrownVoices();
        Doc.due("of 0 0", Check.image(x)[2], 199 * 25 % 251);
        int[] seen = new int[251];
        for (int minute = 0; minute < 1000; minute++) {
            int c = (5 * ((5 * 199 + minute / 256) % 251) + minute % 256) % 251;
            seen[c]++;
            if (minute % 60 == 0 || c == 0 || c == 250) Doc.due("of MINUTE " + minute, Check.image(Doc.at(minute, ""))[2], c);
        }
        Doc.due("0 was there", seen[0] > 0, true);
        Doc.due("250 was there", seen[250] > 0, true);
        int[] image = Check.image(Doc.at(1, V + P + "wants p at 0 long 9;"));
        int c = 199;
        for (int k = 0; k < image.length - 1; k++) c = (5 * c + image[k]) % 251;
        Doc.due("of a town", image[image.length - 1], c);
    }
}
