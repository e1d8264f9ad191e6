import java.util.function.Consumer;
import java.util.function.Supplier;

/** Promises 24 to 36: acts, undoing, what is kept, images, refusals. */
final class ActBounds {
    private static final int MIN = Integer.MIN_VALUE;
    private static final int MAX = Integer.MAX_VALUE;
    private static final String V = "voice v pitch 5;";
    private static final String VW = "voice v pitch 5;voice w pitch 5;";
    private static final String P = "person p pitch 5 calm 9;";
    private static final int[] OTHERS = {MIN, -1000, -2, -1, 1000, MAX};
    // Behind two MINUTES 0 is SAID, 1 SOUNDS by w, 2 is HUSHED, 3 WAITS, 4 is TO COME; v is free.
    private static final String SEVERAL = VW + "person p pitch 5 calm 0;person q pitch 0 calm 9;wants p at 0 long 1;"
            + "wants p at 0 long 9;wants p at 0 long 9;"
            + "wants q at 1 long 9;wants q at 900 long 4;mixes busy=2;picks if(tone=0,0,5);stroke 100;";

    private ActBounds() { }

    static void check() {
        minutes();
        minutesRefused();
        chance();
        chanceRefused();
        strike();
        heal();
        train();
        delay();
        delayRefused();
        undo();
        undoNone();
        seed();
        kept();
        image();
        octet();
        on();
        onGood();
        onRefused();
        onOtherTowns();
        status();
    }

    private static ThrownVoices several() {
        ThrownVoices x = Doc.at(2, SEVERAL);
        Check.put(x, 0, 0, 255);
        x.hear();
        return x;
    }

    private static String call(String name, int... arguments) {
        return name + java.util.Arrays.toString(arguments).replace('[', '(').replace(']', ')');
    }

    // ---- minutes

    private static void minutes() {
        Doc.promise(24, "n MINUTES go by (1 .. 60), without DRAWS: how many SAYINGS were SAID;");
        String town = V + P + "wants p at 0 long 1;wants p at 58 long 1;wants p at 59 long 1;wants p at 60 long 1;stroke 100;";
        int[][] cases = {{1, 1}, {2, 1}, {59, 2}, {60, 3}};
        for (int[] one : cases) {
            ThrownVoices x = Doc.good(town);
            Doc.due("minutes(" + one[0] + ")", x.minutes(one[0]), one[1]);
            Doc.row("behind it", Doc.of(x.has(3), x.has(4), x.has(9), x.has(14), x.has(15)), one[0], 0, one[1], 1, 1);
        }
        ThrownVoices x = Doc.good(town);
        x.minutes(1);
        Doc.due("SAID in these alone", x.minutes(60), 3);
        Doc.due("none", x.minutes(60), 0);
        Doc.due("HUSHED ones are none", Doc.good("person p pitch 5 calm 0;wants p at 0 long 1;").minutes(60), 0);
        Doc.due("nobody", new ThrownVoices().minutes(60), 0);
    }

    private static void minutesRefused() {
        Doc.promise(24, "NONE, refused (2), when it can't be (beyond MINUTE 999).");
        for (int n : new int[] {MIN, -1, 0, 61, MAX}) {
            Doc.refused(2, call("minutes", n), ActBounds::several, x -> x.minutes(n));
        }
        int[][] last = {{939, 60, 1}, {940, 60, 0}, {940, 59, 1}, {998, 1, 1}, {998, 2, 0}, {999, 1, 0}, {999, 60, 0}};
        for (int[] one : last) {
            Supplier<ThrownVoices> make = () -> Doc.at(one[0], V + P + "wants p at 0 long 1;");
            if (one[2] == 0) {
                Doc.refused(2, "at " + one[0] + " " + call("minutes", one[1]), make, x -> x.minutes(one[1]));
            } else {
                ThrownVoices x = make.get();
                Doc.row("at " + one[0] + " " + call("minutes", one[1]), Doc.of(x.minutes(one[1]), x.has(3), x.status(2)), 0,
                        one[0] + one[1], 0);
            }
        }
    }

    private static void chance() {
        Doc.promise(25, "n MINUTES by the seed (1 .. 60), one ACT: how many VOICES were STRUCK;");
        for (int n : new int[] {1, 2, 59, 60}) {
            ThrownVoices x = Doc.good(P + "stroke 100;");
            long seed = 1;
            for (int i = 0; i < n; i++) seed = Doc.next(seed);
            Doc.row(call("chance", n), Doc.of(x.chance(n), x.has(3), x.has(14), x.has(15)), 0, n, 1, seed);
        }
        ThrownVoices x = Doc.good(VW + "voice u pitch 1;stroke 100;");
        Doc.row("all are STRUCK", Doc.of(x.chance(60), x.has(4), x.has(14), x.has(3)), 3, 3, 1, 60);
        Doc.row("none is STRUCK twice", Doc.of(x.chance(60), x.has(4), x.has(14), x.has(3)), 0, 3, 2, 120);
        Doc.row("one ACT", Doc.of(x.undo() ? 1 : 0, x.undo() ? 1 : 0, x.has(3), x.has(4), x.has(14)), 1, 1, 0, 0, 0);
        x = Doc.good(VW + P + "wants p at 0 long 1;stroke 0;");
        Doc.row("stroke 0", Doc.of(x.chance(60), x.has(4), x.has(9)), 0, 0, 1);
        // One MINUTE after the other as 60 at once.
        String town = VW + P + "wants p at 0 long 3;wants p at 0 long 4;wants p at 2 long 5;wants p at 3 long 5;stroke 20;";
        ThrownVoices y = Doc.good(town);
        ThrownVoices z = Doc.good(town);
        int struck = 0;
        for (int i = 0; i < 60; i++) struck += y.chance(1);
        Doc.due("60 at once", z.chance(60), struck);
        Doc.row("the same seed", Doc.of(z.has(15), z.has(14), y.has(14)), y.has(15), 1, 20);
        Doc.due("the same image", java.util.Arrays.equals(Check.image(y), Check.image(z)), true);
    }

    private static void chanceRefused() {
        Doc.promise(25, "NONE, refused (2), when it can't be.");
        for (int n : new int[] {MIN, -1, 0, 61, MAX}) {
            Doc.refused(2, call("chance", n), ActBounds::several, x -> x.chance(n));
        }
        int[][] last = {{939, 60, 1}, {940, 60, 0}, {940, 59, 1}, {998, 1, 1}, {998, 2, 0}, {999, 1, 0}};
        for (int[] one : last) {
            Supplier<ThrownVoices> make = () -> Doc.at(one[0], V + P + "wants p at 0 long 1;");
            if (one[2] == 0) {
                Doc.refused(2, "at " + one[0] + " " + call("chance", one[1]), make, x -> x.chance(one[1]));
            } else {
                ThrownVoices x = make.get();
                Doc.row("at " + one[0] + " " + call("chance", one[1]), Doc.of(x.chance(one[1]), x.has(3), x.status(2)), 0,
                        one[0] + one[1], 0);
            }
        }
    }

    // ---- acts on one

    private static void strike() {
        Doc.promise(26, "A VOICE is STRUCK: true;");
        ThrownVoices x = several();
        Doc.due("the first", x.strike(0), true);
        Doc.row("it was free", Doc.of(x.voice(0, 1), x.voice(1, 1), x.has(4), x.has(12), x.has(14)), 1, 0, 1, 2, 2);
        Doc.due("the last", x.strike(1), true);
        Doc.row("it was busy", Doc.of(x.voice(1, 1), x.has(4), x.saying(1, 3), x.saying(1, 5), x.saying(1, 6), x.saying(1, 7)),
                1, 2, 5, 1, 0, 1);
        Doc.row("KEPT by the act", Doc.of(x.has(12), x.kept(2, 0), x.kept(2, 1), x.kept(2, 2), x.has(3), x.status(3)), 3, 2, 1,
                5, 2, 0);
        Doc.due("at 999", Doc.at(999, V).strike(0), true);
        Doc.promise(26, "false, refused (3), when it is, or there is none such.");
        for (int v : new int[] {MIN, -1, 2, 7, MAX}) Doc.refused(3, call("strike", v), ActBounds::several, y -> y.strike(v));
        Doc.refused(3, "strike(0) once more", () -> {
            ThrownVoices y = several();
            y.strike(0);
            return y;
        }, y -> y.strike(0));
        Doc.refused(3, "strike(0) of none", ThrownVoices::new, y -> y.strike(0));
    }

    private static void heal() {
        Doc.promise(27, "A VOICE is healed: true;");
        ThrownVoices x = several();
        x.strike(0);
        x.strike(1);
        Doc.due("the last", x.heal(1), true);
        Doc.row("the other one is not", Doc.of(x.voice(0, 1), x.voice(1, 1), x.has(4), x.has(14)), 1, 0, 1, 4);
        Doc.row("what was BROKEN stays so", Doc.of(x.saying(1, 3), x.voice(1, 2), x.has(12)), 5, 1, 3);
        Doc.due("the first", x.heal(0), true);
        Doc.row("none is STRUCK", Doc.of(x.has(4), x.has(14), x.status(3)), 0, 5, 0);
        Doc.promise(27, "false, refused (3), when it is not STRUCK, or there is none such.");
        for (int v : new int[] {MIN, -1, 0, 1, 2, 7, MAX}) Doc.refused(3, call("heal", v), ActBounds::several, y -> y.heal(v));
        Doc.refused(3, "heal(0) once more", () -> {
            ThrownVoices y = several();
            y.strike(0);
            y.heal(0);
            return y;
        }, y -> y.heal(0));
        Doc.refused(3, "heal(0) of none", ThrownVoices::new, y -> y.heal(0));
    }

    private static void train() {
        Doc.promise(28, "A VOICE is trained to a pitch (0 .. 9): true;");
        for (int pitch = 0; pitch < 10; pitch++) {
            if (pitch == 5) continue;
            ThrownVoices x = several();
            Doc.due(call("train", 0, pitch), x.train(0, pitch), true);
            Doc.row("its pitch", Doc.of(x.voice(0, 0), x.voice(1, 0), x.has(14), x.status(3)), pitch, 5, 2, 0);
        }
        ThrownVoices x = several();
        Doc.due("a busy one", x.train(1, 0), true);
        Doc.row("it goes on", Doc.of(x.voice(1, 0), x.voice(1, 3), x.saying(1, 6)), 0, 1, 7);
        x.strike(0);
        Doc.due("a STRUCK one", x.train(0, 9), true);
        Doc.row("it is STRUCK still", Doc.of(x.voice(0, 0), x.voice(0, 1)), 9, 1);
        Doc.due("and back", x.train(0, 5), true);
        Doc.promise(28, "false, refused (3), when it has that, there is none such, or for others.");
        for (int pitch : new int[] {MIN, -1, 10, MAX}) Doc.refused(3, call("train", 0, pitch), ActBounds::several, y -> y.train(0, pitch));
        for (int v : new int[] {MIN, -1, 2, MAX}) Doc.refused(3, call("train", v, 1), ActBounds::several, y -> y.train(v, 1));
        Doc.refused(3, call("train", 0, 5), ActBounds::several, y -> y.train(0, 5));
        Doc.refused(3, call("train", 1, 5), ActBounds::several, y -> y.train(1, 5));
        Doc.refused(3, "train(0, 0) of none", ThrownVoices::new, y -> y.train(0, 0));
    }

    private static void delay() {
        Doc.promise(29, "A SAYING TO COME is put off to a MINUTE (now .. 999): true;");
        for (int minute : new int[] {2, 3, 255, 256, 899, 901, 998, 999}) {
            ThrownVoices x = several();
            Doc.due(call("delay", 4, minute), x.delay(4, minute), true);
            Doc.row("its MINUTE", Doc.of(x.saying(4, 1), x.saying(4, 3), x.saying(4, 2), x.has(14), x.status(3)), minute, 0, 4,
                    2, 0);
        }
        ThrownVoices x = several();
        x.delay(4, 2);
        x.minutes(1);
        Doc.row("put off to now, it WAITS in this MINUTE", Doc.of(x.saying(4, 3), x.saying(4, 4)), 1, 1);
        x = Doc.good(P + "wants p at 1 long 1;");
        Doc.due("to MINUTE 0 at 0", x.delay(0, 0), true);
        x = Doc.at(999, P + "wants p at 999 long 1;");
        Doc.due("to its own at 999", x.delay(0, 999), false);
    }

    private static void delayRefused() {
        Doc.promise(29, "false, refused (3), when it is not TO COME, has that MINUTE, there is none such, or for others.");
        for (int s = 0; s < 4; s++) {
            int saying = s;
            Doc.refused(3, call("delay", s, 500), ActBounds::several, x -> x.delay(saying, 500));
        }
        Doc.refused(3, "delay() of one that is BROKEN", () -> {
            ThrownVoices x = several();
            x.strike(1);
            return x;
        }, x -> x.delay(1, 500));
        for (int minute : new int[] {MIN, -1, 0, 1, 900, 1000, MAX}) {
            Doc.refused(3, call("delay", 4, minute), ActBounds::several, x -> x.delay(4, minute));
        }
        for (int s : new int[] {MIN, -1, 5, 12, MAX}) Doc.refused(3, call("delay", s, 500), ActBounds::several, x -> x.delay(s, 500));
        Doc.refused(3, "delay(0, 0) of none", ThrownVoices::new, x -> x.delay(0, 0));
        Doc.refused(3, "to what was, though it is TO COME still", () -> {
            ThrownVoices x = several();
            int at = Doc.placeOf(x, 4);
            return Doc.as(x, at + 1, 0, at + 2, 1);
        }, x -> x.delay(4, 0));
    }

    // ---- undoing

    private static void undo() {
        Doc.promise(30, "The latest ACT is undone: all that ACTS change is as it was ahead of it (but the seed): true;");
        undone("minutes(1)", x -> x.minutes(1));
        undone("minutes(60)", x -> x.minutes(60));
        undone("chance(1)", x -> x.chance(1));
        undone("chance(60)", x -> x.chance(60));
        undone("strike(0)", x -> x.strike(0));
        undone("strike(1)", x -> x.strike(1));
        undone("train(0, 0)", x -> x.train(0, 0));
        undone("train(1, 9)", x -> x.train(1, 9));
        undone("delay(4, 2)", x -> x.delay(4, 2));
        undone("delay(4, 999)", x -> x.delay(4, 999));
        ThrownVoices x = several();
        x.strike(1);
        String ahead = withoutSeedAndActs(x);
        x.heal(1);
        Doc.due("heal(1) changes something", withoutSeedAndActs(x).equals(ahead), false);
        Doc.due("undo() of heal(1)", x.undo(), true);
        Doc.due("all is as it was", withoutSeedAndActs(x).equals(ahead), true);
        // HEARD and what was refused are no ACTS' doing.
        x.minutes(1);
        Check.put(x, 1, 1, 255, 2, 2, 255);
        x.hear();
        x.strike(7);
        x.undo();
        Doc.row("HEARD and status() stay", Doc.of(x.has(13), x.status(3)), 2, 1);
    }

    private static void undone(String call, Consumer<ThrownVoices> act) {
        ThrownVoices x = several();
        String ahead = withoutSeedAndActs(x);
        int acts = x.has(14);
        act.accept(x);
        int seed = x.has(15);
        Doc.due(call + " changes something", withoutSeedAndActs(x).equals(ahead), false);
        Doc.due("undo() of " + call, x.undo(), true);
        Doc.due("all is as it was ahead of " + call, withoutSeedAndActs(x).equals(ahead), true);
        Doc.row("the seed stays, an ACT less", Doc.of(x.has(15), x.has(14), x.status(4)), seed, acts, 0);
    }

    private static String withoutSeedAndActs(ThrownVoices x) {
        return Doc.stand(x).replaceFirst("/" + x.has(14) + "/" + x.has(15) + "(?= |/)", "");
    }

    private static void undoNone() {
        Doc.promise(30, "false, refused (4), when none can be.");
        Doc.refused(4, "undo() of a new object", ThrownVoices::new, x -> x.undo());
        Doc.refused(4, "undo() of a new town", () -> Doc.good(SEVERAL), x -> x.undo());
        Doc.refused(4, "undo() behind the last one", () -> {
            ThrownVoices x = several();
            x.undo();
            return x;
        }, x -> x.undo());
        Doc.refused(4, "undo() of the 21st", () -> {
            ThrownVoices x = several();
            for (int i = 0; i < 22; i++) x.train(0, i % 2);
            for (int i = 0; i < 20; i++) Doc.due("undo() " + i, x.undo(), true);
            return x;
        }, x -> x.undo());
        Doc.refused(4, "undo() when only calls that are no ACTS were made", () -> {
            ThrownVoices x = Doc.good(V);
            x.seed(9);
            x.strike(9);
            x.image();
            x.minutes(0);
            return x;
        }, x -> x.undo());
        Doc.refused(4, "undo() behind on()", () -> Doc.as(several()), x -> x.undo());
    }

    private static void seed() {
        Doc.promise(31, "The seed: true;");
        ThrownVoices x = several();
        for (int seed : new int[] {0, 1, 2, MAX - 1, MAX}) {
            Doc.due(call("seed", seed), x.seed(seed), true);
            Doc.row("has(15)", Doc.of(x.has(15), x.has(14), x.status(5)), seed, 1, 0);
        }
        Doc.promise(31, "false, refused (5), when it is below 0.");
        for (int seed : new int[] {-1, -2, MIN, MIN + 1}) Doc.refused(5, call("seed", seed), ActBounds::several, y -> y.seed(seed));
    }

    private static void kept() {
        Doc.promise(32, "Of what is told as KEPT, the k-th from the oldest on: 0 MINUTE, 1 SAYING, 2 as what it ended.");
        ThrownVoices x = several();
        x.strike(1);
        x.minutes(1);
        int[][] rows = {{0, 2, 4}, {0, 0, 3}, {2, 1, 5}};
        for (int k = 0; k < 3; k++) Doc.row("row " + k, Doc.of(x.kept(k, 0), x.kept(k, 1), x.kept(k, 2)), rows[k][0], rows[k][1], rows[k][2]);
        x = Doc.at(998, V + P + "wants p at 998 long 1;");
        x.minutes(1);
        Doc.row("the last MINUTE that can be", Doc.of(x.kept(0, 0), x.kept(0, 1), x.kept(0, 2)), 998, 0, 3);
        x = Doc.at(998, V + P + "wants p at 998 long 2;");
        x.minutes(1);
        x.strike(0);
        Doc.row("by an act at 999", Doc.of(x.kept(0, 0), x.kept(0, 1), x.kept(0, 2)), 999, 0, 5);
        Doc.promise(32, "NONE when there is none such, or for others.");
        Doc.row("the first beyond", Doc.of(x.kept(1, 0), x.kept(1, 1), x.kept(1, 2), x.kept(0, 3), x.kept(0, -1), x.kept(-1,
                0)), -1, -1, -1, -1, -1, -1);
        for (int other : OTHERS) {
            Doc.due(call("kept", other, 0), x.kept(other, 0), -1);
            Doc.due(call("kept", 0, other), x.kept(0, other), -1);
        }
        x.undo();
        Doc.row("undone, it is told no more", Doc.of(x.has(12), x.kept(0, 0)), 0, -1);
        Doc.due("of a new object", new ThrownVoices().kept(0, 0), -1);
    }

    // ---- images

    private static void image() {
        Doc.promise(33, "AN IMAGE is written: how many bytes.");
        Doc.due("nobody", new ThrownVoices().image(), 3);
        Doc.due("a VOICE", Doc.good(V).image(), 6);
        Doc.due("a PERSON", Doc.good(P).image(), 3);
        Doc.due("a SAYING", Doc.good(P + "wants p at 0 long 1;").image(), 10);
        StringBuilder most = new StringBuilder(P);
        for (int v = 0; v < 7; v++) most.append("voice ").append((char) ('a' + v)).append(" pitch 0;");
        Doc.due("7 VOICES, 12 SAYINGS", Doc.good(most + "wants p at 0 long 1;".repeat(12)).image(), 108);
        ThrownVoices x = several();
        String ahead = Doc.stand(x);
        x.image();
        Doc.due("all stays", Doc.stand(x).equals(ahead), true);
    }

    private static void octet() {
        Doc.promise(34, "Byte k of the latest image();");
        ThrownVoices x = Doc.at(300, V + P + "wants p at 0 long 1;");
        Doc.due("image()", x.image(), 13);
        int[] want = {1, 44, 5, 0, 1, 3, 0, 0, 0, 0, 0, 0};
        for (int k = 0; k < 12; k++) Doc.due("octet(" + k + ")", x.octet(k), want[k]);
        int last = x.octet(12);
        x.minutes(1);
        x.train(0, 7);
        Doc.row("of the latest one", Doc.of(x.octet(1), x.octet(2), x.octet(12)), 44, 5, last);
        x.image();
        Doc.row("of the new one", Doc.of(x.octet(1), x.octet(2)), 45, 7);
        Doc.promise(34, "NONE when there is none such.");
        for (int other : OTHERS) Doc.due(call("octet", other), x.octet(other), -1);
        Doc.row("the first beyond", Doc.of(x.octet(13), x.octet(107), x.octet(108)), -1, -1, -1);
        Doc.due("there was none", new ThrownVoices().octet(0), -1);
        Doc.due("town() of nothing", x.town(), 0);
        Doc.row("of the latest one, though the town is another", Doc.of(x.octet(1), x.octet(2), x.octet(13)), 45, 7, -1);
        Doc.due("a shorter one", x.image(), 3);
        Doc.row("nothing of the longer one", Doc.of(x.octet(2), x.octet(3), x.octet(12)), 199 * 25 % 251, -1, -1);
    }

    private static void on() {
        Doc.promise(35, "The tape (it goes, refused or not) is AN IMAGE of this TOWN: true, all is as it tells, nothing is KEPT, no ACT can be undone;");
        ThrownVoices x = several();
        int[] image = Check.image(x);
        x.seed(9);
        x.chance(1);
        x.strike(1);
        x.train(0, 1);
        x.delay(4, 999);
        x.minutes(60);
        Doc.row("it went on", Doc.of(x.has(3), x.has(12) > 2 ? 1 : 0, x.has(14)), 63, 1, x.has(14));
        int seed = x.has(15);
        Check.put(x, image);
        Doc.due("on()", x.on(), true);
        Doc.due("all is as it tells", java.util.Arrays.equals(Check.image(x), image), true);
        Doc.row("nothing KEPT, no ACT", Doc.of(x.has(12), x.kept(0, 0), x.has(14), x.undo() ? 1 : 0), 0, -1, 0, 0);
        Doc.row("HEARD and the seed are not told in it", Doc.of(x.has(13), x.has(15)), 1, seed);
        Doc.due("the tape went", x.end(1), false);
        // It goes on from there as it did.
        ThrownVoices y = several();
        x.minutes(60);
        y.minutes(60);
        Doc.due("it goes on as it did", java.util.Arrays.equals(Check.image(x), Check.image(y)), true);
        Doc.row("KEPT and ACTS from there on", Doc.of(x.has(12), y.has(12), x.has(14)), 2, 4, 1);
        Check.put(x, image);
        x.end(image.length - 1);
        Doc.due("on() of a byte less", x.on(), false);
        Doc.due("the tape went, refused", x.end(1), false);
    }

    /** Where SEVERAL's image behind two MINUTES tells what: VOICES from 2 on, SAYINGS from 8 on, 7 bytes each. */
    private static final int W = 5;
    private static final int SAID = 8;
    private static final int SOUNDS = 15;
    private static final int HUSHED = 22;
    private static final int WAITS = 29;
    private static final int TO_COME = 36;

    private static void onGood() {
        Doc.promise(35, "(MINUTES 999, waited, begun 99, pitches 9 at most; flags 0, 1;"
                + " a SAYING that SOUNDS has a VOICE that there is, not STRUCK, no two the same,"
                + " 1 MINUTE left to as many as it is long; one SAID or BROKEN a VOICE that there is; others 255, not MIXED;"
                + " one TO COME has waited 0).");
        int[][] good = {{}, {0, 0, 1, 0}, {0, 3, 1, 231}, {2, 0}, {2, 9}, {3, 1}, {4, 0}, {4, 99}, {W, 9}, {W + 2, 99},
            {SAID + 1, 3, SAID + 2, 231}, {SAID + 3, 99}, {SAID + 4, 1}, {SAID + 6, 1}, {SAID, 5}, {SAID, 5, SAID + 4, 1, SAID
                    + 6, 1},
            {SOUNDS + 3, 99}, {SOUNDS + 4, 0}, {SOUNDS + 5, 1}, {SOUNDS + 5, 9}, {SOUNDS + 6, 0}, {SOUNDS, 3, SOUNDS + 5, 0},
                    {SOUNDS, 5, SOUNDS + 5, 0},
            {SOUNDS, 5, SOUNDS + 5, 0, W + 1, 1}, {SOUNDS, 3, SOUNDS + 5, 0, W + 1, 1},
            {HUSHED + 3, 99}, {HUSHED + 3, 0}, {HUSHED, 1}, {HUSHED, 0, HUSHED + 3, 0}, {HUSHED + 1, 3, HUSHED + 2, 231},
            {WAITS, 4}, {WAITS + 3, 0}, {WAITS + 3, 99}, {WAITS, 2, WAITS + 4, 0, WAITS + 5, 9, WAITS + 6, 1},
            {TO_COME + 1, 3, TO_COME + 2, 231}, {TO_COME + 1, 0, TO_COME + 2, 0}, {TO_COME, 1, TO_COME + 3, 99}, {TO_COME, 4},
            {TO_COME, 2, TO_COME + 4, 0, TO_COME + 5, 4}, {TO_COME, 2, TO_COME + 4, 0, TO_COME + 5, 1}};
        for (int[] pairs : good) {
            ThrownVoices x = several();
            int[] image = Doc.changed(x, pairs);
            Doc.as(x, pairs);
            Doc.due("the image is as it was told: " + java.util.Arrays.toString(pairs), java.util.Arrays.equals(Check.image(x),
                    image), true);
            Doc.due("nothing was refused", x.status(5), 0);
        }
    }

    private static void onRefused() {
        Doc.promise(35, "false, refused (5), all staying, if it is none such (MINUTES 999,");
        int[][] bad = {{0, 3, 1, 232}, {0, 4}, {0, 255, 1, 255}, {2, 10}, {2, 255}, {3, 2}, {3, 255}, {4, 100}, {4, 255}, {W,
                10}, {W + 1, 2}, {W + 2, 100},
            {SAID, 6}, {SAID, 255}, {SAID + 1, 3, SAID + 2, 232}, {SAID + 1, 4}, {SAID + 3, 100}, {SAID + 4, 2}, {SAID + 4,
                    255}, {SAID + 5, 1}, {SAID + 6, 2},
            {SAID, 5, SAID + 4, 2}, {SAID, 5, SAID + 4, 255}, {SAID, 5, SAID + 5, 1}, {SAID, 4}, {SAID, 1}, {SAID, 0},
            {SOUNDS + 3, 100}, {SOUNDS + 4, 2}, {SOUNDS + 4, 255}, {SOUNDS + 5, 0}, {SOUNDS + 5, 10}, {SOUNDS + 5, 255},
                    {SOUNDS + 6, 2}, {W + 1, 1},
            {SOUNDS, 3}, {SOUNDS, 5}, {SOUNDS + 1, 3, SOUNDS + 2, 232},
            {HUSHED + 3, 100}, {HUSHED + 4, 0}, {HUSHED + 4, 254}, {HUSHED + 5, 1}, {HUSHED + 6, 1}, {HUSHED, 3}, {HUSHED, 5},
                    {HUSHED, 2}, {HUSHED, 0},
            {WAITS + 4, 0}, {WAITS + 4, 1}, {WAITS + 5, 1}, {WAITS + 6, 1}, {WAITS + 6, 2}, {WAITS + 3, 100}, {WAITS, 6},
                    {WAITS, 0},
            {WAITS, 2, WAITS + 4, 1, WAITS + 5, 1}, {WAITS, 2, WAITS + 4, 0, WAITS + 5, 10}, {WAITS, 2, WAITS + 4, 0, WAITS
                    + 5, 0}, {WAITS, 2, WAITS + 4, 2, WAITS + 5, 1},
            {3, 1, WAITS, 2, WAITS + 4, 0, WAITS + 5, 1},
            {TO_COME + 3, 1}, {TO_COME + 3, 99}, {TO_COME + 1, 3, TO_COME + 2, 232}, {TO_COME + 4, 0}, {TO_COME + 5, 1},
                    {TO_COME + 6, 1},
            {TO_COME, 2, TO_COME + 4, 0, TO_COME + 5, 5}};
        for (int[] pairs : bad) refusedImage("bytes " + java.util.Arrays.toString(pairs), Doc.changed(several(), pairs));
        int[] image = Check.image(several());
        int end = image.length - 1;
        for (int seal : new int[] {(image[end] + 1) % 251, (image[end] + 250) % 251, 251, 255}) {
            int[] other = image.clone();
            other[end] = seal;
            if (seal != image[end]) refusedImage("the last byte " + seal, other);
        }
        for (int k = 0; k < end; k++) {
            int[] other = image.clone();
            other[k] ^= 1;
            refusedImage("byte " + k + " without its seal", other);
        }
        refusedImage("no bytes", new int[0]);
        refusedImage("a byte less", java.util.Arrays.copyOf(image, end));
        refusedImage("a byte more", java.util.Arrays.copyOf(image, end + 2));
        refusedImage("less, sealed", Doc.sealed(java.util.Arrays.copyOf(image, end - 6)));
        refusedImage("more, sealed", Doc.sealed(java.util.Arrays.copyOf(image, end + 8)));
    }

    private static void refusedImage(String call, int[] image) {
        Doc.refused(5, "on() of " + call, ActBounds::several, x -> {
            Check.put(x, image);
            return x.on();
        });
    }

    private static void onOtherTowns() {
        int[] none = Check.image(new ThrownVoices());
        refusedImage("another town's image", none);
        refusedImage("another town's image", Check.image(Doc.good(VW + P + "wants p at 0 long 1;")));
        ThrownVoices x = new ThrownVoices();
        x.minutes(60);
        Check.put(x, none);
        Doc.row("of nobody", Doc.of(x.on() ? 1 : 0, x.has(3)), 1, 0);
        Check.put(x, Doc.sealed(new int[] {3, 231, 0}));
        Doc.row("MINUTE 999", Doc.of(x.on() ? 1 : 0, x.has(3)), 1, 999);
        Check.put(x, Doc.sealed(new int[] {3, 232, 0}));
        Doc.row("MINUTE 1000", Doc.of(x.on() ? 1 : 0, x.has(3)), 0, 999);
        // All bytes but the last one, in a small town: only what the document lets be is taken.
        for (int what = 0; what < 7; what++) {
            ThrownVoices y = Doc.good(V + P + "wants p at 0 long 3;");
            for (int voice : new int[] {0, 1, 254, 255}) {
                for (int left = 0; left < 5; left++) {
                    for (int struck = 0; struck < 3; struck++) {
                        int[] image = Doc.sealed(new int[] {0, 0, 5, struck, 0, what, 0, 0, 0, voice, left, 0, 0});
                        boolean sounds = what == 2 && voice == 0 && struck == 0 && left > 0 && left < 4;
                        boolean over = (what == 3 || what == 5) && voice == 0 && left == 0;
                        boolean other = (what == 0 || what == 1 || what == 4) && voice == 255 && left == 0;
                        Check.put(y, image);
                        Doc.due("on() of what " + what + ", VOICE " + voice + ", left " + left + ", STRUCK " + struck, y.on(),
                                struck < 2 && (sounds || over || other));
                    }
                }
            }
        }
    }

    // ---- refusals

    private static void status() {
        Doc.promise(36, "How many were refused: 0 feed(), end(); 1 town(); 2 minutes(), chance();"
                + " 3 strike(), heal(), train(), delay(); 4 undo(); 5 seed(), hear(), on().");
        ThrownVoices x = Doc.good(V);
        long[] want = new long[6];
        for (int times = 0; times < 2; times++) {
            x.end(-1);
            counts("end()", x, want, 0);
            Check.put(x, '$');
            x.town();
            counts("town()", x, want, 1);
            x.minutes(0);
            counts("minutes()", x, want, 2);
            x.chance(0);
            counts("chance()", x, want, 2);
            x.strike(1);
            counts("strike()", x, want, 3);
            x.heal(0);
            counts("heal()", x, want, 3);
            x.train(0, 5);
            counts("train()", x, want, 3);
            x.delay(0, 5);
            counts("delay()", x, want, 3);
            x.undo();
            counts("undo()", x, want, 4);
            x.seed(-1);
            counts("seed()", x, want, 5);
            x.hear();
            counts("hear()", x, want, 5);
            x.on();
            counts("on()", x, want, 5);
        }
        Check.put(x, new int[1600]);
        x.feed(0, 0, 0, 0, 0);
        counts("feed()", x, want, 0);
        x.town();
        counts("town() once more", x, want, 1);
        Check.put(x, Check.bytes(V));
        x.town();
        x.later(-1, -1, -1);
        x.choir(0);
        x.match(-2);
        x.octet(-1);
        x.kept(0, 0);
        x.tells(0, 0);
        want[0]--;
        counts("what only asks, and a town()", x, want, 0);
        Doc.promise(36, "NONE for others.");
        for (int other : OTHERS) Doc.due(call("status", other), x.status(other), -1);
        Doc.due("the first beyond", x.status(6), -1);
    }

    private static void counts(String call, ThrownVoices x, long[] want, int kind) {
        want[kind]++;
        Doc.row("behind " + call, Doc.of(x.status(0), x.status(1), x.status(2), x.status(3), x.status(4), x.status(5)), want);
    }
}
