/** Promise by promise: ordinary inputs, the edges that the document names, wrong inputs. */
public final class PromisesTest {
    // Ada (5) and Bob (2) serve Xan (pitch 4, calm 3) and Yul (pitch 8, calm 0).
    private static final String TWO = "voice ada pitch 5;voice bob pitch 2;"
            + "person xan pitch 4 calm 3;person yul pitch 8 calm 0;"
            + "wants xan at 0 long 2;wants yul at 0 long 3;wants xan at 1 long 1;"
            + "picks 9-load-tone+pitch;mixes busy>1;stroke 50;";
    // One voice, and three who want it at once.
    private static final String ONE = "voice v pitch 5;person p pitch 5 calm 1;"
            + "wants p at 0 long 2;wants p at 0 long 2;wants p at 0 long 2;";

    private PromisesTest() { }

    public static void main(String[] args) {
        constantsAndNewObject();
        feedAndEnd();
        townAndFault();
        has();
        letters();
        voicePersonSaying();
        picks();
        laterEndsBusy();
        match();
        choir();
        worst();
        tune();
        needed();
        odds();
        hearAndPitches();
        tells();
        minutes();
        chance();
        strikeAndHeal();
        train();
        delay();
        undo();
        seed();
        kept();
        image();
        on();
        status();
        Check.end();
    }

    private static void due(String call, long got, long want) {
        Check.due(call, got, want);
    }

    private static void due(String call, boolean got, boolean want) {
        Check.due(call, got, want);
    }

    private static void row(String what, long[] got, long... want) {
        due(what + " length", got.length, want.length);
        for (int i = 0; i < got.length && i < want.length; i++) due(what + " [" + i + "]", got[i], want[i]);
    }

    private static void constantsAndNewObject() {
        due("NONE", ThrownVoices.NONE, -1);
        due("NOTHING", ThrownVoices.NOTHING, -1000000000000000L);
        ThrownVoices x = new ThrownVoices();
        for (int what = 0; what < 15; what++) due("new has(" + what + ")", x.has(what), 0);
        due("new seed", x.has(15), 1);
        due("new fault(0)", x.fault(0), 0);
        due("new fault(1)", x.fault(1), -1);
        for (int what = 0; what < 6; what++) due("new status(" + what + ")", x.status(what), 0);
        due("new octet(0)", x.octet(0), -1);
        due("new kept(0, 0)", x.kept(0, 0), -1);
        due("new minutes(60)", x.minutes(60), 0);
        due("new has(3)", x.has(3), 60);
        due("new match(-1)", x.match(-1), 0);
        due("new choir(30)", x.choir(30), 0);
        due("new odds(-1)", x.odds(-1), -1);
    }

    private static void feedAndEnd() {
        ThrownVoices x = new ThrownVoices();
        // "stroke 7;" is read from the highest byte of each number on.
        due("feed", x.feed(0x7374726f, 0x6b652037, 0x3b202020, 0x20202020, 0x20202020), 20);
        due("feed again", x.feed(0x3b202020, 0, 0, 0, 0), 40);
        due("end(-1)", x.end(-1), false);
        due("end(41)", x.end(41), false);
        due("end(40)", x.end(40), true);
        due("end(9)", x.end(9), true);
        due("end(10)", x.end(10), false);
        due("status(0)", x.status(0), 3);
        due("town()", x.town(), 1);
        due("end(1) of no tape", x.end(1), false);
        due("end(0) of no tape", x.end(0), true);
        for (int i = 1; i <= 80; i++) due("feed " + i, x.feed(0x20202020, 0x20202020, 0x20202020, 0x20202020, 0x20202020), 20 * i);
        due("feed 81", x.feed(0, 0, 0, 0, 0), -1);
        due("status(0) then", x.status(0), 5);
        due("end(1600)", x.end(1600), true);
        due("end(1581)", x.end(1581), true);
        due("feed beyond 1600", x.feed(0, 0, 0, 0, 0), -1);
        due("end(1580)", x.end(1580), true);
        due("feed up to 1600", x.feed(0x20202020, 0x20202020, 0x20202020, 0x20202020, 0x0a202020), 1600);
        due("town() of blanks", x.town(), 0);
        // Bytes above 127 and the lowest byte of the last number come as they are.
        due("feed high", x.feed(-1, -1, -1, -1, 0x2020203b), 20);
        due("town() of high bytes", x.town(), -1);
        due("fault(1)", x.fault(1), 0);
        due("feed last", x.feed(0x20202020, 0x20202020, 0x20202020, 0x20202020, 0x2020203b), 20);
        due("town()", x.town(), -1);
        due("fault(1)", x.fault(1), 19);
    }

    private static void townAndFault() {
        ThrownVoices x = Check.town(TWO);
        due("fault(2)", x.fault(2), -1);
        due("fault(-1)", x.fault(-1), -1);
        due("seed(77)", x.seed(77), true);
        x.minutes(2);
        x.strike(0);
        Check.put(x, 0, 0, 255);
        due("hear()", x.hear(), 1);
        String ahead = Check.all(x);
        Check.put(x, Check.bytes("voice a pitch 1;voice a pitch 2;"));
        due("town() with a fault", x.town(), -1);
        due("fault(0)", x.fault(0), 2);
        due("fault(1)", x.fault(1), 22);
        due("status(1)", x.status(1), 1);
        due("all stays", Check.all(x).equals(ahead), true);
        due("the tape went", x.end(1), false);
        due("undo still can", x.undo(), true);
        Check.put(x, Check.bytes(ONE));
        due("another town()", x.town(), 5);
        due("fault(0) then", x.fault(0), 0);
        due("fault(1) then", x.fault(1), -1);
        due("MINUTE", x.has(3), 0);
        due("STRUCK", x.has(4), 0);
        due("KEPT", x.has(12), 0);
        due("HEARD", x.has(13), 0);
        due("ACTS", x.has(14), 0);
        due("seed stays", x.has(15), 77);
        due("undo none", x.undo(), false);
        due("town() of nothing", x.town(), 0);
        due("no voices", x.has(0) + x.has(1) + x.has(2), 0);
        allAsAtFirst();
    }

    private static void allAsAtFirst() {
        ThrownVoices x = Check.town(TWO);
        String first = Check.all(x);
        x.minutes(2);
        x.strike(0);
        x.strike(1);
        x.train(0, 9);
        x.minutes(4);
        Check.put(x, 0, 0, 0);
        x.hear();
        due("it went on", Check.all(x).equals(first), false);
        Check.put(x, Check.bytes(TWO));
        due("town() once more", x.town(), 10);
        due("all is as at first", Check.all(x).equals(first), true);
        x.minutes(1);
        due("two SOUND", x.has(8), 2);
        Check.put(x, Check.bytes(TWO));
        due("town() while two SOUND", x.town(), 10);
        due("all is as at first again", Check.all(x).equals(first), true);
    }

    private static void has() {
        ThrownVoices x = Check.town(TWO);
        long[] first = new long[17];
        for (int what = 0; what < 17; what++) first[what] = x.has(what);
        row("has at first", first, 2, 2, 3, 0, 0, 0, 3, 0, 0, 0, 0, 0, 0, 0, 0, 1, -1);
        due("has(-1)", x.has(-1), -1);
        x.minutes(1);
        due("busy", x.has(5), 2);
        due("TO COME", x.has(6), 1);
        due("SOUND", x.has(8), 2);
        x.minutes(1);
        due("WAIT", x.has(7), 1);
        due("SAID", x.has(9), 1);
        x.strike(1);
        due("BROKEN", x.has(11), 1);
        due("STRUCK", x.has(4), 1);
        due("busy", x.has(5), 0);
        due("KEPT", x.has(12), 2);
        due("ACTS", x.has(14), 3);
        ThrownVoices y = Check.town(ONE);
        y.minutes(2);
        due("HUSHED", y.has(10), 2);
    }

    private static void letters() {
        ThrownVoices x = Check.town("voice zebras pitch 0;person a pitch 0 calm 0;voice mid pitch 1;");
        long[] got = new long[6];
        for (int k = 0; k < 6; k++) got[k] = x.letter(0, 0, k);
        row("zebras", got, 26, 5, 2, 18, 1, 19);
        for (int k = 0; k < 6; k++) got[k] = x.letter(0, 1, k);
        row("mid", got, 13, 9, 4, 0, 0, 0);
        for (int k = 0; k < 6; k++) got[k] = x.letter(1, 0, k);
        row("a", got, 1, 0, 0, 0, 0, 0);
        due("letter(0, 0, -1)", x.letter(0, 0, -1), -1);
        due("letter(0, 0, 6)", x.letter(0, 0, 6), -1);
        due("letter(0, 2, 0)", x.letter(0, 2, 0), -1);
        due("letter(1, 1, 0)", x.letter(1, 1, 0), -1);
        due("letter(1, -1, 0)", x.letter(1, -1, 0), -1);
        due("letter(2, 0, 0)", x.letter(2, 0, 0), -1);
        due("letter(-1, 0, 0)", x.letter(-1, 0, 0), -1);
    }

    private static void voicePersonSaying() {
        ThrownVoices x = Check.town(TWO);
        x.minutes(1);
        row("voice 0", new long[] {x.voice(0, 0), x.voice(0, 1), x.voice(0, 2), x.voice(0, 3), x.voice(0, 4)}, 5, 0, 1, 0, -1);
        row("voice 1", new long[] {x.voice(1, 0), x.voice(1, 1), x.voice(1, 2), x.voice(1, 3), x.voice(1, -1)}, 2, 0, 1, 1, -1);
        due("voice(2, 0)", x.voice(2, 0), -1);
        due("voice(-1, 0)", x.voice(-1, 0), -1);
        row("person 0", new long[] {x.person(0, 0), x.person(0, 1), x.person(0, 2), x.person(0, 3), x.person(0, 4)}, 4, 3, 2, 1, -1);
        row("person 1", new long[] {x.person(1, 0), x.person(1, 1), x.person(1, 2), x.person(1, 3), x.person(1, -1)}, 8, 0, 1, 1, -1);
        due("person(2, 0)", x.person(2, 0), -1);
        due("person(-1, 0)", x.person(-1, 0), -1);
        row("saying 1", eight(x, 1), 1, 0, 3, 2, 0, 1, 2, 1);
        row("saying 0", eight(x, 0), 0, 0, 2, 2, 0, 0, 1, 0);
        row("saying 2", eight(x, 2), 0, 1, 1, 0, 0, -1, 0, 0);
        x.minutes(1);
        row("saying 2, a minute later", eight(x, 2), 0, 1, 1, 1, 1, -1, 0, 0);
        row("saying 0 SAID", eight(x, 0), 0, 0, 2, 3, 0, 0, 0, 0);
        x.strike(1);
        row("saying 1 BROKEN", eight(x, 1), 1, 0, 3, 5, 0, 1, 0, 1);
        due("voice(1, 1)", x.voice(1, 1), 1);
        due("voice(1, 3)", x.voice(1, 3), -1);
        due("saying(3, 0)", x.saying(3, 0), -1);
        due("saying(-1, 0)", x.saying(-1, 0), -1);
        due("saying(0, 8)", x.saying(0, 8), -1);
        due("saying(0, -1)", x.saying(0, -1), -1);
    }

    private static long[] eight(ThrownVoices x, int s) {
        long[] got = new long[8];
        for (int what = 0; what < 8; what++) got[what] = x.saying(s, what);
        return got;
    }

    private static void picks() {
        ThrownVoices x = Check.town(TWO);
        row("picks", new long[] {x.picks(0, 0), x.picks(0, 1), x.picks(1, 0), x.picks(1, 1)}, 10, 7, 6, 3);
        x.minutes(1);
        row("picks of what SOUNDS", new long[] {x.picks(0, 0), x.picks(0, 1)}, 9, 6);
        x.strike(0);
        due("picks of a STRUCK one", x.picks(0, 0), 9);
        due("picks(3, 0)", x.picks(3, 0), ThrownVoices.NOTHING);
        due("picks(-1, 0)", x.picks(-1, 0), ThrownVoices.NOTHING);
        due("picks(0, 2)", x.picks(0, 2), ThrownVoices.NOTHING);
        due("picks(0, -1)", x.picks(0, -1), ThrownVoices.NOTHING);
        ThrownVoices y = Check.town("voice a pitch 9;voice b pitch 1;person p pitch 0 calm 0;person q pitch 4 calm 0;"
                + "wants p at 0 long 1;wants q at 0 long 1;");
        row("without picks", new long[] {y.picks(0, 0), y.picks(0, 1), y.picks(1, 0), y.picks(1, 1)}, 0, 8, 4, 6);
    }

    private static void laterEndsBusy() {
        ThrownVoices x = Check.town(TWO);
        String now = Check.all(x);
        row("later(0, .., 0)", new long[] {x.later(0, 0, 0), x.later(0, 1, 0), x.later(0, 2, 0), x.later(0, 60, 0)}, 0, 2, 3, 3);
        row("later(0, .., 1)", new long[] {x.later(0, 0, 1), x.later(0, 1, 1), x.later(0, 60, 1)}, -1, 0, 0);
        row("later(1, .., 2)", new long[] {x.later(1, 0, 2), x.later(1, 1, 2), x.later(0, 1, 2)}, 0, 1, 0);
        due("later(-1, 1, 0)", x.later(-1, 1, 0), -1);
        due("later(3, 1, 0)", x.later(3, 1, 0), -1);
        due("later(0, -1, 0)", x.later(0, -1, 0), -1);
        due("later(0, 61, 0)", x.later(0, 61, 0), -1);
        due("later(0, 1, 3)", x.later(0, 1, 3), -1);
        due("later(0, 1, -1)", x.later(0, 1, -1), -1);
        row("ends", new long[] {x.ends(0), x.ends(1), x.ends(2), x.ends(3), x.ends(-1)}, 2, 3, 3, -1, -1);
        row("busy", new long[] {x.busy(0), x.busy(1), x.busy(2), x.busy(3), x.busy(60)}, 0, 2, 1, 0, 0);
        due("busy(-1)", x.busy(-1), -1);
        due("busy(61)", x.busy(61), -1);
        due("asking changes nothing", Check.all(x).equals(now), true);
        x.minutes(2);
        due("ends(0) now", x.ends(0), 0);
        x.strike(1);
        due("ends(1) BROKEN now", x.ends(1), 0);
        due("later(1, 5, 0) BROKEN", x.later(1, 5, 0), 5);
        due("later(1, 5, 1) BROKEN", x.later(1, 5, 1), 1);
        ThrownVoices y = Check.town("voice v pitch 1;person p pitch 1 calm 99;wants p at 40 long 20;wants p at 41 long 1;"
                + "wants p at 998 long 20;wants p at 997 long 1;");
        due("ends at 60", y.ends(0), 60);
        due("ends beyond 60", y.ends(1), -1);
        for (int i = 0; i < 16; i++) y.minutes(60);
        y.minutes(36);
        due("MINUTE", y.has(3), 996);
        row("up to 999", new long[] {y.later(2, 3, 0), y.later(2, 4, 0), y.busy(3), y.busy(4)}, 2, -1, 1, -1);
        row("ends up to 999", new long[] {y.ends(2), y.ends(3)}, -1, 2);
    }

    private static void match() {
        // The sums are those of 9 less the difference: p is 5 off a, 4 off b; q is 1 off a, 2 off b.
        ThrownVoices x = Check.town("voice a pitch 5;voice b pitch 4;person p pitch 0 calm 9;person q pitch 6 calm 9;"
                + "wants p at 0 long 1;wants q at 0 long 1;wants q at 5 long 1;");
        due("match(-1) ahead of all", x.match(-1), 0);
        x.strike(0);
        x.strike(1);
        x.minutes(1);
        due("match(-1) by STRUCK ones", x.match(-1), 0);
        due("match(0) by STRUCK ones", x.match(0), -1);
        x.heal(0);
        due("match(-1) by one", x.match(-1), 8);
        row("match by one", new long[] {x.match(0), x.match(1), x.match(2)}, -1, 0, -1);
        x.heal(1);
        due("match(-1) by both", x.match(-1), 13);
        row("match by both", new long[] {x.match(0), x.match(1), x.match(2)}, 1, 0, -1);
        due("match(3)", x.match(3), -1);
        matchAfterOthers();
        due("match(-2)", x.match(-2), -1);
        // Of like sums the first row: none ahead of a VOICE, then by numbers.
        ThrownVoices y = Check.town("voice a pitch 5;voice b pitch 5;person p pitch 5 calm 9;"
                + "wants p at 0 long 1;wants p at 0 long 1;wants p at 0 long 1;picks if(minute>0,3,0);");
        y.minutes(1);
        due("match(-1) of like ones", y.match(-1), 6);
        row("match of like ones", new long[] {y.match(0), y.match(1), y.match(2)}, -1, 0, 1);
        // A VOICE that is busy gives nothing more.
        ThrownVoices z = Check.town("voice a pitch 5;person p pitch 5 calm 9;wants p at 0 long 9;wants p at 0 long 1;");
        z.minutes(1);
        due("match(-1) by a busy one", z.match(-1), 0);
        due("match(0) of what SOUNDS", z.match(0), -1);
    }

    private static void matchAfterOthers() {
        ThrownVoices x = Check.town("voice a pitch 5;person p pitch 5 calm 9;wants p at 0 long 1;wants p at 0 long 1;"
                + "picks if(minute>0,1,0);");
        x.minutes(1);
        due("match(0) asked first", x.match(0), -1);
        due("match(1) of a sum of 1", x.match(1), 0);
        due("match(-1) of a sum of 1", x.match(-1), 1);
        Check.put(x, Check.bytes("voice a pitch 5;person p pitch 5 calm 9;wants p at 0 long 1;picks 0;"));
        due("town()", x.town(), 4);
        x.minutes(1);
        due("match(-1) of a smaller town", x.match(-1), 0);
        due("match(0) of a smaller town", x.match(0), -1);
    }

    private static void choir() {
        ThrownVoices x = Check.town("voice a pitch 1;voice b pitch 5;voice c pitch 5;person p pitch 5 calm 1;"
                + "wants p at 0 long 2;wants p at 0 long 2;wants p at 9 long 1;");
        row("choir", new long[] {x.choir(1), x.choir(2), x.choir(30)}, 0, 3, 3);
        due("choir(0)", x.choir(0), -1);
        due("choir(31)", x.choir(31), -1);
        due("choir(-1)", x.choir(-1), -1);
        x.strike(0);
        due("choir(2) without a", x.choir(2), 6);
        x.strike(2);
        due("choir(1) by b", x.choir(1), 0);
        due("choir(2) by b alone", x.choir(2), -1);
        // What SOUNDS goes on when its VOICE is not in the choir; what was HUSHED is not counted.
        ThrownVoices y = Check.town(ONE);
        y.minutes(1);
        due("choir(1) while it SOUNDS", y.choir(1), -1);
        y.minutes(1);
        due("two are HUSHED", y.has(10), 2);
        due("choir(30) after that", y.choir(30), 0);
        // Behind MINUTE 0 only who has begun one already picks, and that one is busy.
        ThrownVoices z = Check.town("voice a pitch 1;voice b pitch 1;person p pitch 0 calm 1;"
                + "wants p at 0 long 9;wants p at 3 long 1;picks if(minute<1,1,pitch*load);");
        row("choir by load", new long[] {z.choir(4), z.choir(5)}, 1, -1);
    }

    private static void worst() {
        ThrownVoices x = Check.town(TWO);
        row("worst(5, ..)", new long[] {x.worst(5, 0), x.worst(5, 1), x.worst(5, 2), x.worst(5, -1)}, 0, 1, -1, -1);
        row("worst of others", new long[] {x.worst(0, 0), x.worst(31, 0), x.worst(-1, 1)}, -1, -1, -1);
        x.minutes(1);
        row("worst while both SOUND", new long[] {x.worst(1, 0), x.worst(1, 1)}, 0, 1);
        ThrownVoices y = Check.town("voice a pitch 1;voice b pitch 5;person p pitch 5 calm 0;"
                + "wants p at 0 long 3;wants p at 2 long 1;picks pitch-1;");
        y.minutes(1);
        row("worst is b", new long[] {y.worst(3, 0), y.worst(3, 1)}, 1, 2);
        y.strike(1);
        row("worst is a then", new long[] {y.worst(30, 0), y.worst(30, 1)}, 0, 2);
        y.strike(0);
        row("worst of none", new long[] {y.worst(3, 0), y.worst(3, 1)}, -1, -1);
    }

    private static void tune() {
        ThrownVoices x = Check.town("voice a pitch 0;voice b pitch 1;person p pitch 5 calm 0;person q pitch 9 calm 0;"
                + "wants p at 0 long 1;wants q at 1 long 2;picks pitch-3;");
        row("tune(0, 3, ..)", new long[] {x.tune(0, 3, 0), x.tune(0, 3, 1)}, 4, 2);
        row("tune(0, 2, ..)", new long[] {x.tune(0, 2, 0), x.tune(0, 2, 1)}, 4, 1);
        row("tune wrong", new long[] {x.tune(2, 3, 0), x.tune(-1, 3, 0), x.tune(0, 0, 0), x.tune(0, 31, 0),
            x.tune(0, 3, 2), x.tune(0, 3, -1)}, -1, -1, -1, -1, -1, -1);
        x.strike(0);
        ThrownVoices y = Check.town("voice a pitch 5;person p pitch 5 calm 0;wants p at 0 long 1;picks pitch-8;");
        row("tune(0, 1, ..)", new long[] {y.tune(0, 1, 0), y.tune(0, 1, 1)}, 9, 1);
        ThrownVoices z = Check.town("voice a pitch 5;person p pitch 5 calm 0;wants p at 0 long 1;picks pitch-9;");
        row("tune by no pitch", new long[] {z.tune(0, 30, 0), z.tune(0, 30, 1)}, 0, 0);
        row("tune a STRUCK one", new long[] {x.tune(0, 3, 0), x.tune(0, 3, 1)}, 0, 0);
        due("pitch stays", x.voice(0, 0), 0);
    }

    private static void needed() {
        ThrownVoices x = Check.town("voice a pitch 5;voice b pitch 2;person p pitch 3 calm 9;person q pitch 1 calm 9;"
                + "wants p at 0 long 1;wants p at 0 long 1;wants q at 0 long 1;wants q at 4 long 1;"
                + "picks if(minute>0,pitch-tone,0);");
        row("needed at first", new long[] {x.needed(0), x.needed(1), x.needed(2), x.needed(-1)}, 0, 0, -1, -1);
        x.minutes(1);
        row("needed", new long[] {x.needed(0), x.needed(1)}, 2, 0);
        x.strike(0);
        row("needed when a is STRUCK", new long[] {x.needed(0), x.needed(1)}, 0, 1);
        x.heal(0);
        x.minutes(1);
        due("a is busy no more", x.has(5), 0);
        row("needed then", new long[] {x.needed(0), x.needed(1)}, 1, 0);
    }

    private static void odds() {
        ThrownVoices x = Check.town(TWO.replace("stroke 50", "stroke 30"));
        row("odds at first", new long[] {x.odds(-1), x.odds(0), x.odds(3), x.odds(-2)}, 200, 0, -1, -1);
        x.minutes(1);
        row("odds", new long[] {x.odds(0), x.odds(1), x.odds(2)}, 30, 30, 0);
        x.strike(1);
        row("odds of BROKEN", new long[] {x.odds(0), x.odds(1)}, 30, 200);
        ThrownVoices y = Check.town("person p pitch 0 calm 0;wants p at 0 long 1;stroke 100;");
        row("odds without VOICES", new long[] {y.odds(-1), y.odds(0)}, -1, -1);
        ThrownVoices z = Check.town("voice v pitch 0;person p pitch 0 calm 0;wants p at 998 long 9;stroke 100;");
        for (int i = 0; i < 16; i++) z.minutes(60);
        z.minutes(38);
        row("odds at 998", new long[] {z.odds(-1), z.odds(0)}, 100, 0);
        z.minutes(1);
        row("odds at 999", new long[] {z.odds(-1), z.odds(0)}, -1, -1);
    }

    private static void hearAndPitches() {
        ThrownVoices x = Check.town(TWO);
        due("pitches ahead of hearing", x.pitches(0), 1023);
        due("hear() of nothing", x.hear(), -1);
        // Saying 0 by voice 0 (sum 5 + pitch) against voice 1 (sum 7): from pitch 2 on, the first of like ones.
        Check.put(x, 0, 0, 0);
        due("hear()", x.hear(), 1);
        due("rows", x.has(13), 1);
        due("pitches(0)", x.pitches(0), 1020);
        row("pitches of others", new long[] {x.pitches(2), x.pitches(-1)}, -1, -1);
        int[][] wrong = {{31, 0, 0}, {0, 3, 0}, {0, 0, 2}, {0, 0, 254}, {0, 0}, {0, 0, 0, 0}, {0, 0, 0, 31, 0, 0}, new int[51]};
        for (int[] rows : wrong) {
            Check.put(x, rows);
            due("hear() of none such", x.hear(), -1);
            due("the tape went", x.end(1), false);
        }
        due("status(5)", x.status(5), 9);
        due("rows stay", x.has(13), 1);
        due("pitches stay", x.pitches(0), 1020);
        Check.put(x, 2, 0, 255, 2, 1, 1);
        due("hear() of two rows", x.hear(), 2);
        due("rows", x.has(13), 2);
        due("pitches(0) by silence", x.pitches(0), 1020);
        // It SOUNDS in the MINUTE in which it is SAID.
        Check.put(x, 1, 0, 0);
        due("hear()", x.hear(), 1);
        due("pitches(0) by its last MINUTE", x.pitches(0), 1020);
        int[] most = new int[48];
        for (int i = 0; i < 48; i += 3) most[i] = 30;
        for (int i = 2; i < 48; i += 3) most[i] = 255;
        Check.put(x, most);
        due("hear() of 16 rows", x.hear(), 16);
        due("pitches(1)", x.pitches(1), 1023);
        x.minutes(60);
        due("HEARD stays", x.has(13), 16);
        x.undo();
        due("HEARD stays when undone", x.has(13), 16);
        // A MINUTE beyond 999 is met by no pitch.
        for (int i = 0; i < 16; i++) x.minutes(60);
        x.minutes(8);
        due("at 968", x.pitches(1), 1023);
        x.minutes(1);
        due("at 969", x.pitches(1), 0);
    }

    private static void tells() {
        // By picks of pitch - 3 the voice serves p from pitch 4 on; q's saying tells pitches above 6 by minute.
        ThrownVoices x = Check.town("voice v pitch 5;person p pitch 4 calm 9;person q pitch 7 calm 0;"
                + "wants p at 1 long 1;wants q at 2 long 1;picks pitch-tone;");
        row("tells(0, ..)", new long[] {x.tells(0, 0), x.tells(0, 1), x.tells(0, 2)}, 1, 0, 5);
        row("tells of others", new long[] {x.tells(0, 3), x.tells(0, -1), x.tells(1, 0), x.tells(-1, 0)}, -1, -1, -1, -1);
        Check.put(x, 1, 0, 0);
        due("hear()", x.hear(), 1);
        due("pitches(0)", x.pitches(0), 992);
        row("tells(0, ..) of five", new long[] {x.tells(0, 0), x.tells(0, 1), x.tells(0, 2)}, 2, 1, 3);
        Check.put(x, 0, 0, 0);
        due("hear() what can't be", x.hear(), 1);
        row("tells none left", new long[] {x.tells(0, 0), x.tells(0, 1), x.tells(0, 2)}, -1, -1, -1);
        ThrownVoices y = Check.town("voice v pitch 5;");
        row("tells without SAYINGS", new long[] {y.tells(0, 0), y.tells(0, 1), y.tells(0, 2)}, -1, -1, -1);
        ThrownVoices z = Check.town("voice v pitch 5;person p pitch 4 calm 9;wants p at 998 long 1;picks pitch-tone;");
        for (int i = 0; i < 16; i++) z.minutes(60);
        row("tells at 960", new long[] {z.tells(0, 0), z.tells(0, 2)}, 0, 10);
        z.minutes(8);
        row("tells at 968", new long[] {z.tells(0, 0), z.tells(0, 2)}, 30, 5);
        z.minutes(30);
        row("tells at 998", new long[] {z.tells(0, 0), z.tells(0, 2)}, 0, 5);
        z.minutes(1);
        row("tells at 999", new long[] {z.tells(0, 0), z.tells(0, 1), z.tells(0, 2)}, -1, -1, -1);
        due("pitches at 999", z.pitches(0), 1023);
    }

    private static void minutes() {
        ThrownVoices x = Check.town(TWO);
        due("minutes(0)", x.minutes(0), -1);
        due("minutes(61)", x.minutes(61), -1);
        due("minutes(-1)", x.minutes(-1), -1);
        due("status(2)", x.status(2), 3);
        due("MINUTE", x.has(3), 0);
        due("ACTS", x.has(14), 0);
        due("minutes(3)", x.minutes(3), 3);
        due("MINUTE", x.has(3), 3);
        due("ACTS", x.has(14), 1);
        due("seed stays", x.has(15), 1);
        for (int i = 0; i < 16; i++) due("minutes(60)", x.minutes(60), 0);
        due("minutes(37)", x.minutes(37), -1);
        due("minutes(36)", x.minutes(36), 0);
        due("MINUTE", x.has(3), 999);
        due("minutes(1)", x.minutes(1), -1);
        due("status(2)", x.status(2), 5);
    }

    private static void chance() {
        // From seed 1 on: x becomes 1103527590, of 100 that draws 6 (17242618 mod 100 is 18).
        long seed = 1;
        seed = (1103515245 * seed + 12345) % (1L << 31);
        due("a first draw of 100", seed / 64 % 100, 18);
        long second = (1103515245 * seed + 12345) % (1L << 31);
        int struck = (int) (second / 64 % 2);
        ThrownVoices x = Check.town(TWO.replace("stroke 50", "stroke 19"));
        due("chance(1)", x.chance(1), 1);
        due("seed", x.has(15), second);
        due("the STRUCK one", x.voice(struck, 1), 1);
        due("the other one", x.voice(1 - struck, 1), 0);
        due("ACTS", x.has(14), 1);
        due("MINUTE", x.has(3), 1);
        ThrownVoices y = Check.town(TWO.replace("stroke 50", "stroke 18"));
        due("chance(1) not below", y.chance(1), 0);
        due("seed", y.has(15), seed);
        due("nobody is STRUCK", y.has(4), 0);
        due("both SOUND", y.has(8), 2);
        ThrownVoices z = Check.town("stroke 100;");
        due("chance(2) without VOICES", z.chance(2), 0);
        due("seed after a draw each", z.has(15), second);
        due("chance(0)", z.chance(0), -1);
        due("chance(61)", z.chance(61), -1);
        due("status(2)", z.status(2), 2);
        due("seed stays", z.has(15), second);
        // Once STRUCK, a VOICE is not STRUCK again; the stroke comes ahead of the rest of the MINUTE.
        ThrownVoices w = Check.town("voice v pitch 5;person p pitch 5 calm 0;wants p at 0 long 9;stroke 100;");
        due("chance(60)", w.chance(60), 1);
        row("HUSHED at once", new long[] {w.saying(0, 3), w.kept(0, 0), w.voice(0, 2)}, 4, 0, 0);
        due("ACTS", w.has(14), 1);
        w.undo();
        w.minutes(2);
        w.chance(1);
        row("BROKEN in MINUTE 2", new long[] {w.saying(0, 3), w.kept(0, 0), w.kept(0, 2), w.saying(0, 6)}, 5, 2, 5, 0);
        for (int i = 0; i < 16; i++) w.minutes(60);
        due("chance beyond 999", w.chance(37), -1);
        due("chance up to 999", w.chance(36), 0);
    }

    private static void strikeAndHeal() {
        ThrownVoices x = Check.town(TWO);
        due("heal(0)", x.heal(0), false);
        x.minutes(1);
        due("strike(1)", x.strike(1), true);
        due("strike(1) again", x.strike(1), false);
        due("strike(2)", x.strike(2), false);
        due("strike(-1)", x.strike(-1), false);
        due("status(3)", x.status(3), 4);
        row("BROKEN", new long[] {x.saying(1, 3), x.saying(1, 5), x.saying(1, 6), x.saying(1, 7)}, 5, 1, 0, 1);
        row("KEPT", new long[] {x.has(12), x.kept(0, 0), x.kept(0, 1), x.kept(0, 2)}, 1, 1, 1, 5);
        due("has(4)", x.has(4), 1);
        due("strike(0)", x.strike(0), true);
        due("has(4)", x.has(4), 2);
        due("undo()", x.undo(), true);
        due("heal(1)", x.heal(1), true);
        due("strike(0) alone", x.strike(0), true);
        due("has(4)", x.has(4), 1);
        due("undo()", x.undo(), true);
        due("has(4)", x.has(4), 0);
        due("heal(1) again", x.heal(1), false);
        due("heal(2)", x.heal(2), false);
        due("heal(-1)", x.heal(-1), false);
        due("status(3)", x.status(3), 7);
        row("BROKEN still", new long[] {x.saying(1, 3), x.voice(1, 1), x.voice(1, 2)}, 5, 0, 1);
        due("ACTS", x.has(14), 3);
        x.minutes(1);
        row("saying 2 by the healed one", new long[] {x.saying(2, 5)}, 1);
    }

    private static void train() {
        ThrownVoices x = Check.town(TWO);
        due("train(0, 9)", x.train(0, 9), true);
        due("pitch", x.voice(0, 0), 9);
        due("picks", x.picks(0, 0), 14);
        due("train(0, 9) again", x.train(0, 9), false);
        due("train(0, 10)", x.train(0, 10), false);
        due("train(0, -1)", x.train(0, -1), false);
        due("train(2, 1)", x.train(2, 1), false);
        due("train(-1, 1)", x.train(-1, 1), false);
        due("status(3)", x.status(3), 5);
        due("train(0, 0)", x.train(0, 0), true);
        due("ACTS", x.has(14), 2);
    }

    private static void delay() {
        ThrownVoices x = Check.town(TWO);
        x.minutes(1);
        due("delay(0, 5) of what SOUNDS", x.delay(0, 5), false);
        due("delay(2, 0) to what was", x.delay(2, 0), false);
        due("delay(2, 1) to its own", x.delay(2, 1), false);
        due("delay(2, 1000)", x.delay(2, 1000), false);
        due("delay(3, 5)", x.delay(3, 5), false);
        due("delay(-1, 5)", x.delay(-1, 5), false);
        due("status(3)", x.status(3), 6);
        due("delay(2, 999)", x.delay(2, 999), true);
        due("its MINUTE", x.saying(2, 1), 999);
        due("delay(2, 1) to now", x.delay(2, 1), true);
        due("delay(2, 4)", x.delay(2, 4), true);
        due("ACTS", x.has(14), 4);
        due("delay(2, 7)", x.delay(2, 7), true);
        due("undo()", x.undo(), true);
        due("its MINUTE as it was", x.saying(2, 1), 4);
        x.minutes(3);
        due("TO COME still", x.saying(2, 3), 0);
        due("minutes(1)", x.minutes(1), 1);
        row("SAID in MINUTE 4", new long[] {x.kept(2, 0), x.kept(2, 1), x.kept(2, 2)}, 4, 2, 3);
        due("delay(2, 9) of what is SAID", x.delay(2, 9), false);
    }

    private static void undo() {
        ThrownVoices x = Check.town(TWO);
        due("undo() of none", x.undo(), false);
        due("status(4)", x.status(4), 1);
        for (int undone = 0; undone <= 20; undone++) {
            ThrownVoices there = after(25 - undone);
            ThrownVoices back = after(25);
            int drawn = back.has(15);
            for (int i = 0; i < undone; i++) due("undo() " + i, back.undo(), true);
            due("as it was behind " + (25 - undone) + " ACTS", withoutSeedAndActs(back).equals(withoutSeedAndActs(there)), true);
            due("ACTS", back.has(14), 20 - undone);
            due("seed stays", back.has(15), drawn);
            if (undone == 20) {
                due("undo() of the 21st", back.undo(), false);
                due("status(4)", back.status(4), 1);
            }
        }
    }

    private static ThrownVoices after(int acts) {
        ThrownVoices x = Check.town(TWO);
        for (int i = 0; i < acts; i++) {
            switch (i % 5) {
                case 0: x.train(0, x.voice(0, 0) == i % 9 ? 9 : i % 9); break;
                case 1: x.chance(1); break;
                case 2: if (x.voice(0, 1) == 1) x.heal(0); else x.strike(0); break;
                case 3: x.minutes(1); break;
                default: if (!x.delay(2, 500 + i)) x.train(1, (x.voice(1, 0) + 1) % 10);
            }
        }
        return x;
    }

    /** The 15th and the 16th word are how many ACTS can be undone, and the seed. */
    private static String withoutSeedAndActs(ThrownVoices x) {
        String[] words = Check.all(x).split(" ");
        words[14] = "acts";
        words[15] = "seed";
        return String.join(" ", words);
    }

    private static void seed() {
        ThrownVoices x = new ThrownVoices();
        due("seed(0)", x.seed(0), true);
        due("has(15)", x.has(15), 0);
        due("seed(-1)", x.seed(-1), false);
        due("seed(MIN)", x.seed(Integer.MIN_VALUE), false);
        due("has(15)", x.has(15), 0);
        due("status(5)", x.status(5), 2);
        due("seed(MAX)", x.seed(Integer.MAX_VALUE), true);
        due("has(15)", x.has(15), Integer.MAX_VALUE);
        due("ACTS", x.has(14), 0);
        x.chance(1);
        due("has(15)", x.has(15), (1103515245L * Integer.MAX_VALUE + 12345) % (1L << 31));
    }

    private static void kept() {
        // In one MINUTE what is HUSHED ends ahead of what is SAID.
        ThrownVoices x = Check.town("voice v pitch 5;person p pitch 5 calm 1;"
                + "wants p at 0 long 2;wants p at 0 long 2;wants p at 0 long 2;wants p at 2 long 9;");
        x.minutes(2);
        due("KEPT", x.has(12), 3);
        x.minutes(1);
        x.strike(0);
        row("the first", new long[] {x.kept(0, 0), x.kept(0, 1), x.kept(0, 2)}, 1, 1, 4);
        row("the second", new long[] {x.kept(1, 0), x.kept(1, 1), x.kept(1, 2)}, 1, 2, 4);
        row("the third", new long[] {x.kept(2, 0), x.kept(2, 1), x.kept(2, 2)}, 1, 0, 3);
        row("the fourth", new long[] {x.kept(3, 0), x.kept(3, 1), x.kept(3, 2)}, 3, 3, 5);
        row("none such", new long[] {x.kept(4, 0), x.kept(-1, 0), x.kept(0, 3), x.kept(0, -1)}, -1, -1, -1, -1);
        x.undo();
        due("KEPT when undone", x.has(12), 3);
    }

    private static void image() {
        ThrownVoices x = Check.town("voice a pitch 5;voice b pitch 2;person p pitch 4 calm 0;"
                + "wants p at 0 long 3;wants p at 300 long 2;mixes all;");
        for (int i = 0; i < 4; i++) x.minutes(60);
        x.minutes(58);
        x.strike(0);
        x.minutes(3);
        due("image()", x.image(), 2 + 6 + 14 + 1);
        int[] want = {1, 45, 5, 1, 1, 2, 0, 1, 3, 0, 0, 0, 0, 0, 1, 2, 1, 44, 0, 1, 1, 1, 0};
        int c = 199;
        for (int k = 0; k < 22; k++) {
            due("octet(" + k + ")", x.octet(k), want[k]);
            c = (5 * c + want[k]) % 251;
        }
        due("octet(22)", x.octet(22), c);
        due("octet(23)", x.octet(23), -1);
        due("octet(-1)", x.octet(-1), -1);
        x.minutes(1);
        due("octet(1) of the latest image()", x.octet(1), 45);
        due("town() of nothing", x.town(), 0);
        due("octet(22) still", x.octet(22), c);
        due("image() of nothing", x.image(), 3);
        row("its bytes", new long[] {x.octet(0), x.octet(1), x.octet(2), x.octet(3)}, 0, 0, 199 * 25 % 251, -1);
    }

    /** The largest image there can be, and one with a VOICE that is STRUCK. */
    private static void otherImages() {
        StringBuilder text = new StringBuilder("person p pitch 0 calm 1;");
        for (int v = 0; v < 7; v++) text.append("voice v" + (char) ('a' + v) + " pitch " + v + ";");
        for (int s = 0; s < 12; s++) text.append("wants p at 0 long 20;");
        ThrownVoices x = Check.town(text.toString());
        x.minutes(1);
        int[] image = Check.image(x);
        due("the largest image", image.length, 2 + 21 + 84 + 1);
        x.minutes(30);
        Check.put(x, image);
        due("on() the largest", x.on(), true);
        row("seven SOUND, five WAIT", new long[] {x.has(8), x.has(7), x.has(3), x.saying(6, 5), x.saying(11, 4)}, 7, 5, 1, 6, 1);
        ThrownVoices y = Check.town("voice v pitch 1;");
        y.strike(0);
        image = Check.image(y);
        y.heal(0);
        Check.put(y, image);
        due("on() with a STRUCK one", y.on(), true);
        due("it is STRUCK", y.voice(0, 1), 1);
        image[3] = 2;
        seal(image);
        refuse(y, image, "a flag is 2");
        image[3] = 255;
        seal(image);
        refuse(y, image, "a flag is 255");
    }

    private static void seal(int[] bytes) {
        int c = 199;
        for (int k = 0; k < bytes.length - 1; k++) c = (5 * c + bytes[k]) % 251;
        bytes[bytes.length - 1] = c;
    }

    private static void on() {
        ThrownVoices x = Check.town(TWO);
        x.minutes(1);
        Check.put(x, 0, 0, 0);
        x.hear();
        int[] image = Check.image(x);
        x.chance(2);
        x.strike(0);
        x.train(1, 7);
        x.delay(2, 500);
        Check.put(x, image);
        due("on()", x.on(), true);
        row("nothing KEPT, no ACTS, HEARD stays", new long[] {x.has(12), x.has(14), x.has(13)}, 0, 0, 1);
        due("undo()", x.undo(), false);
        int[] back = Check.image(x);
        for (int k = 0; k < image.length; k++) due("image [" + k + "]", back[k], image[k]);
        due("the tape went", x.end(1), false);
        onWrong(image);
        otherImages();
        onGood(image);
    }

    /** The town on this image, as a new object. */
    private static ThrownVoices on(int[] image) {
        ThrownVoices x = Check.town(TWO);
        Check.put(x, image);
        due("on()", x.on(), true);
        return x;
    }

    private static void onWrong(int[] image) {
        // Each of these alone makes it none such: byte and value. Bytes 8 .. are the SAYINGS, 7 each.
        int[][] wrong = {{0, 4}, {2, 10}, {3, 2}, {4, 100}, {3, 1}, {8, 6}, {9, 4}, {11, 100}, {12, 2}, {12, 255},
            {13, 0}, {13, 3}, {14, 2}, {12, 1}, {8, 0}, {8, 1}, {8, 3}, {22, 3}, {25, 1}, {26, 0}, {27, 1}, {28, 1}};
        for (int[] one : wrong) {
            int[] bad = image.clone();
            bad[one[0]] = one[1];
            seal(bad);
            refuse(on(image), bad, "byte " + one[0] + " is " + one[1]);
        }
        int[] bad = image.clone();
        bad[image.length - 1] = (bad[image.length - 1] + 1) % 251;
        refuse(on(image), bad, "the last byte");
        refuse(on(image), java.util.Arrays.copyOf(image, image.length - 1), "a byte less");
        refuse(on(image), java.util.Arrays.copyOf(image, image.length + 1), "a byte more");
        refuse(on(image), new int[0], "no bytes");
    }

    private static void onGood(int[] image) {
        // These can be: the edges of what the document tells.
        int[][] good = {{0, 3, 1, 231}, {2, 9, 4, 99}, {9, 3, 10, 231}, {11, 99, 14, 1}, {13, 2, 14, 0},
            {8, 3, 13, 0}, {8, 5, 13, 0}, {22, 1, 25, 99}, {22, 4, 25, 99}, {23, 0, 24, 0}};
        for (int[] two : good) {
            int[] other = image.clone();
            other[two[0]] = two[1];
            other[two[2]] = two[3];
            seal(other);
            int[] told = Check.image(on(other));
            for (int k = 0; k < told.length; k++) due("bytes " + two[0] + ", " + two[2] + ": byte " + k, told[k], other[k]);
        }
    }

    private static void refuse(ThrownVoices x, int[] bytes, String why) {
        String ahead = Check.all(x);
        Check.put(x, bytes);
        int refused = x.status(5);
        due("on() where " + why, x.on(), false);
        due("status(5)", x.status(5), refused + 1);
        due("all stays where " + why, Check.all(x).equals(ahead), true);
    }

    private static void status() {
        ThrownVoices x = new ThrownVoices();
        x.end(1);
        Check.put(x, 'x');
        x.town();
        x.minutes(0);
        x.chance(0);
        x.strike(0);
        x.heal(0);
        x.train(0, 0);
        x.delay(0, 0);
        x.undo();
        x.seed(-1);
        x.hear();
        x.on();
        row("status", new long[] {x.status(0), x.status(1), x.status(2), x.status(3), x.status(4), x.status(5),
            x.status(6), x.status(-1)}, 1, 1, 2, 4, 1, 3, -1, -1);
        Check.put(x, Check.bytes("stroke 1;"));
        x.town();
        due("status stays with a new town", x.status(5), 3);
    }
}
