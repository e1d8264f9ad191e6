import java.util.List;
import java.util.function.Supplier;

/** Every call with far numbers in several states: it answers, and what only asks changes nothing. */
public final class EdgesTest {
    private static final int[] FAR = {Integer.MIN_VALUE, -1000000, -2, -1, 0, 1, 2, 6, 7, 8, 11, 12, 13, 30, 31,
        60, 61, 255, 998, 999, 1000, Integer.MAX_VALUE};
    private static long sum;

    private EdgesTest() { }

    public static void main(String[] args) {
        List<Supplier<ThrownVoices>> all = List.of(ThrownVoices::new, () -> Check.town("stroke 100;"), EdgesTest::big,
                EdgesTest::late, () -> Check.town("voice a pitch 1;"),
                () -> Check.town("person a pitch 1 calm 1;wants a at 0 long 1;"));
        for (Supplier<ThrownVoices> make : all) {
            for (int steps = 0; steps < 3; steps++) {
                ask(make, steps);
                refuse(make, steps);
            }
        }
        worstTime();
        Check.due("answers were read", sum != 1, true);
        Check.end();
    }

    /** An object is used for 512 calls at most, so that each number asked has one of its own. */
    private static ThrownVoices made(Supplier<ThrownVoices> make, int steps) {
        ThrownVoices x = make.get();
        for (int i = 0; i < steps; i++) {
            x.chance(1);
            x.minutes(1);
        }
        return x;
    }

    private static void same(ThrownVoices x, String ahead) {
        Check.due("asking and refusing change nothing", Check.all(x).equals(ahead), true);
    }

    private static ThrownVoices big() {
        StringBuilder text = new StringBuilder();
        for (int v = 0; v < 7; v++) text.append("voice v" + (char) ('a' + v) + " pitch " + v + ";");
        for (int p = 0; p < 8; p++) text.append("person p" + (char) ('a' + p) + " pitch " + p + " calm 3;");
        for (int s = 0; s < 12; s++) text.append("wants p" + (char) ('a' + s % 8) + " at " + s / 3 + " long 3;");
        return Check.town(text + "picks 9-load-max(tone-pitch,pitch-tone);mixes busy>3;hush waits>2;stroke 30;");
    }

    private static ThrownVoices late() {
        ThrownVoices x = Check.town("voice a pitch 1;person p pitch 1 calm 1;wants p at 998 long 3;wants p at 999 long 3;");
        for (int i = 0; i < 16; i++) x.minutes(60);
        x.minutes(37);
        return x;
    }

    private static void ask(Supplier<ThrownVoices> make, int steps) {
        String ahead = Check.all(made(make, steps));
        for (int a : FAR) {
            ThrownVoices x = made(make, steps);
            sum += x.fault(a) + x.has(a) + x.ends(a) + x.busy(a) + x.match(a) + x.choir(a) + x.needed(a);
            sum += x.odds(a) + x.pitches(a) + x.octet(a) + x.status(a);
            for (int b : FAR) {
                sum += x.voice(a, b) + x.person(a, b) + x.saying(a, b) + x.picks(a, b) + x.worst(a, b);
                sum += x.tells(a, b) + x.kept(a, b);
            }
            same(x, ahead);
            for (int b : FAR) {
                ThrownVoices y = made(make, steps);
                for (int c : FAR) sum += y.later(a, b, c) + y.tune(a, b, c) + y.letter(a, b, c);
                same(y, ahead);
            }
        }
    }

    private static void refuse(Supplier<ThrownVoices> make, int steps) {
        String ahead = Check.all(made(make, steps));
        for (int a : FAR) {
            ThrownVoices x = made(make, steps);
            if (a < 0) Check.due("seed(" + a + ")", x.seed(a), false);
            if (a < 0 || a > 60) {
                Check.due("minutes(" + a + ")", x.minutes(a), -1);
                Check.due("chance(" + a + ")", x.chance(a), -1);
                Check.due("end(" + a + ")", x.end(a), false);
                Check.due("strike(" + a + ")", x.strike(a), false);
                Check.due("heal(" + a + ")", x.heal(a), false);
                for (int b : FAR) {
                    Check.due("train(" + a + ", " + b + ")", x.train(a, b), false);
                    Check.due("train(0, " + a + ")", x.train(0, a), false);
                    Check.due("delay(" + a + ", " + b + ")", x.delay(a, b), false);
                }
                if (a < 0 || a > 999) Check.due("delay(0, " + a + ")", x.delay(0, a), false);
            }
            Check.due("hear()", x.hear(), -1);
            Check.due("on()", x.on(), false);
            Check.put(x, '$');
            Check.due("town()", x.town(), -1);
            same(x, ahead);
        }
    }

    /** The dearest calls of the longest rules still end soon. */
    private static void worstTime() {
        StringBuilder text = new StringBuilder();
        for (int v = 0; v < 7; v++) text.append("voice v" + (char) ('a' + v) + " pitch 1;");
        text.append("person p pitch 1 calm 99;");
        for (int s = 0; s < 12; s++) text.append("wants p at 0 long 1;");
        text.append("hush minute>28;picks 0");
        while (text.length() < 1590) text.append("*1");
        ThrownVoices x = Check.town(text + ";");
        Check.due("choir(29)", x.choir(29), 0);
        Check.due("choir(30)", x.choir(30), -1);
        Check.due("tells(0, 2)", x.tells(0, 2), 10);
        Check.due("later(0, 60, 0)", x.later(0, 60, 0), 4);
    }
}
