import java.util.Arrays;

/** A town told as a text, and what becomes of its sayings minute by minute. */
public final class ThrownVoices {
    /** None; refused. */
    public static final int NONE = -1;
    /** Told where a number below 0 may be one. */
    public static final long NOTHING = -1000000000000000L;

    private static final int TAPE_BYTES = 1600;
    private static final int FEED_BYTES = 20;
    private static final int VOICES = 7;
    private static final int PERSONS = 8;
    private static final int SAYINGS = 12;
    private static final int STATEMENTS = 80;
    private static final int NAME_LETTERS = 6;
    private static final int PITCHES = 10;
    private static final int LAST_MINUTE = 999;
    private static final int MOST_AHEAD = 60;
    private static final int MOST_PLANNED = 30;
    private static final int MOST_COUNTED = 99;
    private static final int MOST_LONG = 20;
    private static final int PERCENT = 100;
    private static final int ALL_VOICES = (1 << VOICES) - 1;

    private static final int TO_COME = 0;
    private static final int WAITING = 1;
    private static final int SOUNDING = 2;
    private static final int SAID = 3;
    private static final int HUSHED = 4;
    private static final int BROKEN = 5;

    private static final int RULE_PICKS = 0;
    private static final int RULE_MIXES = 1;
    private static final int RULE_HUSH = 2;
    private static final int RULES = 3;

    private static final int REFUSED_TAPE = 0;
    private static final int REFUSED_TOWN = 1;
    private static final int REFUSED_MINUTES = 2;
    private static final int REFUSED_ACTS = 3;
    private static final int REFUSED_UNDO = 4;
    private static final int REFUSED_TOLD = 5;

    private final Tape tape;
    private final Reader reader;
    private final Town town;
    private final State now;
    private final State trial;
    private final Past past;
    private final Matching matching;
    private final Heard heard;
    private final Picture picture;
    private final int[] refused;
    private int seed;

    public ThrownVoices() {
        tape = new Tape();
        reader = new Reader();
        town = new Town();
        now = new State(town);
        trial = new State(town);
        past = new Past(town);
        matching = new Matching(town, now);
        heard = new Heard(town, now, trial);
        picture = new Picture(town, now, trial);
        refused = new int[REFUSED_TOLD + 1];
        seed = 1;
    }

    public int feed(int a, int b, int c, int d, int e) {
        if (tape.length + FEED_BYTES > TAPE_BYTES) return none(REFUSED_TAPE);
        tape.put(a);
        tape.put(b);
        tape.put(c);
        tape.put(d);
        tape.put(e);
        return tape.length;
    }

    public boolean end(int n) {
        if (n < 0 || n > tape.length) return no(REFUSED_TAPE);
        tape.length = n;
        return true;
    }

    public int town() {
        int statements = reader.read(tape);
        tape.length = 0;
        if (statements == NONE) return none(REFUSED_TOWN);
        town.copyFrom(reader.draft);
        now.reset();
        past.clear();
        heard.clear();
        return statements;
    }

    public int fault(int what) {
        if (what == 0) return reader.fault;
        return what == 1 ? reader.place : NONE;
    }

    public int has(int what) {
        switch (what) {
            case 0: return town.voiceCount;
            case 1: return town.personCount;
            case 2: return town.sayingCount;
            case 3: return now.minute;
            case 4: return now.struckCount();
            case 5: return now.busyCount();
            case 6: return now.countOf(TO_COME);
            case 7: return now.countOf(WAITING);
            case 8: return now.countOf(SOUNDING);
            case 9: return now.countOf(SAID);
            case 10: return now.countOf(HUSHED);
            case 11: return now.countOf(BROKEN);
            case 12: return now.keptCount;
            case 13: return heard.count;
            case 14: return past.count;
            case 15: return seed;
            default: return NONE;
        }
    }

    public int letter(int kind, int which, int k) {
        if (k < 0 || k >= NAME_LETTERS) return NONE;
        if (kind == 0 && isVoice(which)) return Word.letterOf(town.voiceName[which], k);
        if (kind == 1 && isPerson(which)) return Word.letterOf(town.personName[which], k);
        return NONE;
    }

    public int voice(int voice, int what) {
        if (!isVoice(voice)) return NONE;
        switch (what) {
            case 0: return now.pitch[voice];
            case 1: return now.struck[voice];
            case 2: return now.begun[voice];
            case 3: return now.sayingBy(voice);
            default: return NONE;
        }
    }

    public int person(int person, int what) {
        if (!isPerson(person)) return NONE;
        switch (what) {
            case 0: return town.personPitch[person];
            case 1: return town.personCalm[person];
            case 2: return sayingsOf(person, false);
            case 3: return sayingsOf(person, true);
            default: return NONE;
        }
    }

    public int saying(int saying, int what) {
        if (!isSaying(saying)) return NONE;
        switch (what) {
            case 0: return town.sayingPerson[saying];
            case 1: return now.due[saying];
            case 2: return town.sayingLong[saying];
            case 3: return now.what[saying];
            case 4: return now.waited[saying];
            case 5: return now.voice[saying];
            case 6: return now.left[saying];
            case 7: return now.mixed[saying];
            default: return NONE;
        }
    }

    public long picks(int saying, int voice) {
        if (!isSaying(saying) || !isVoice(voice)) return NOTHING;
        return now.sumOfPicks(saying, voice);
    }

    // ---- ahead

    public int later(int saying, int n, int what) {
        if (!isSaying(saying) || !comes(n, 0, MOST_AHEAD)) return NONE;
        if (what < 0 || what > 2) return NONE;
        State then = fresh();
        then.pass(n);
        if (what == 0) return then.what[saying];
        return what == 1 ? then.voice[saying] : then.mixed[saying];
    }

    public int ends(int saying) {
        if (!isSaying(saying)) return NONE;
        State then = fresh();
        int most = Math.min(MOST_AHEAD, LAST_MINUTE - now.minute);
        for (int n = 0; n < most && then.what[saying] < SAID; n++) then.pass(1);
        return then.what[saying] < SAID ? NONE : then.minute - now.minute;
    }

    public int busy(int n) {
        if (!comes(n, 0, MOST_AHEAD)) return NONE;
        State then = fresh();
        then.pass(n);
        return then.busyCount();
    }

    // ---- voices for sayings

    public int match(int saying) {
        if (saying == NONE) return matching.bestSum();
        return isSaying(saying) ? matching.voiceFor(saying) : NONE;
    }

    public int choir(int n) {
        if (!comes(n, 1, MOST_PLANNED)) return NONE;
        for (int size = 0; size <= town.voiceCount; size++) {
            for (int bits = 0; bits < 1 << town.voiceCount; bits++) {
                if (Integer.bitCount(bits) == size && isEnough(bits, n)) return bits;
            }
        }
        return NONE;
    }

    public int worst(int n, int what) {
        if (!comes(n, 1, MOST_PLANNED) || what < 0 || what > 1) return NONE;
        int worst = NONE;
        int most = NONE;
        for (int v = 0; v < town.voiceCount; v++) {
            if (now.struck[v] == 0) {
                State then = fresh();
                then.breakVoice(v);
                then.pass(n);
                int lost = then.countOf(HUSHED) + then.countOf(BROKEN);
                if (lost > most) {
                    most = lost;
                    worst = v;
                }
            }
        }
        return what == 0 ? worst : most;
    }

    public int tune(int voice, int n, int what) {
        if (!isVoice(voice) || !comes(n, 1, MOST_PLANNED) || what < 0 || what > 1) return NONE;
        int best = NONE;
        int most = NONE;
        for (int pitch = 0; pitch < PITCHES; pitch++) {
            State then = fresh();
            then.pitch[voice] = pitch;
            then.pass(n);
            int said = then.countOf(SAID);
            if (said > most) {
                most = said;
                best = pitch;
            }
        }
        return what == 0 ? best : most;
    }

    public int needed(int voice) {
        return isVoice(voice) ? matching.needing(voice) : NONE;
    }

    public int odds(int saying) {
        if (saying != NONE && !isSaying(saying)) return NONE;
        if (town.voiceCount == 0 || !comes(1, 1, 1)) return NONE;
        int rows = PERCENT * town.voiceCount;
        if (saying == NONE) return rows;
        if (now.what[saying] == BROKEN) return rows;
        // Of the rows below stroke one VOICE in each hundred is the one by which it SOUNDS.
        return now.what[saying] == SOUNDING ? town.stroke : 0;
    }

    // ---- by which pitch

    public int hear() {
        int rows = heard.take(tape);
        tape.length = 0;
        return rows == NONE ? none(REFUSED_TOLD) : rows;
    }

    public int pitches(int voice) {
        return isVoice(voice) ? heard.watch(voice) : NONE;
    }

    public int tells(int voice, int what) {
        if (!isVoice(voice) || what < 0 || what > 2) return NONE;
        return heard.telling(heard.watch(voice), what);
    }

    // ---- acts

    public int minutes(int n) {
        if (!comes(n, 1, MOST_AHEAD)) return none(REFUSED_MINUTES);
        past.keep(now);
        return now.pass(n);
    }

    public int chance(int n) {
        if (!comes(n, 1, MOST_AHEAD)) return none(REFUSED_MINUTES);
        past.keep(now);
        int strokes = 0;
        for (int i = 0; i < n; i++) {
            strokes += strokeByDraw();
            now.pass(1);
        }
        return strokes;
    }

    public boolean strike(int voice) {
        if (!isVoice(voice) || now.struck[voice] != 0) return no(REFUSED_ACTS);
        past.keep(now);
        now.breakVoice(voice);
        return true;
    }

    public boolean heal(int voice) {
        if (!isVoice(voice) || now.struck[voice] == 0) return no(REFUSED_ACTS);
        past.keep(now);
        now.struck[voice] = 0;
        return true;
    }

    public boolean train(int voice, int pitch) {
        if (!isVoice(voice) || pitch < 0 || pitch >= PITCHES) return no(REFUSED_ACTS);
        if (now.pitch[voice] == pitch) return no(REFUSED_ACTS);
        past.keep(now);
        now.pitch[voice] = pitch;
        return true;
    }

    public boolean delay(int saying, int minute) {
        if (!isSaying(saying) || now.what[saying] != TO_COME) return no(REFUSED_ACTS);
        if (minute < now.minute || minute > LAST_MINUTE) return no(REFUSED_ACTS);
        if (now.due[saying] == minute) return no(REFUSED_ACTS);
        past.keep(now);
        now.due[saying] = minute;
        return true;
    }

    public boolean undo() {
        return past.giveBack(now) || no(REFUSED_UNDO);
    }

    public boolean seed(int seed) {
        if (seed < 0) return no(REFUSED_TOLD);
        this.seed = seed;
        return true;
    }

    public int kept(int k, int what) {
        if (k < 0 || k >= now.keptCount) return NONE;
        switch (what) {
            case 0: return now.keptMinute[k];
            case 1: return now.keptSaying[k];
            case 2: return now.keptWhat[k];
            default: return NONE;
        }
    }

    // ---- images, refusals

    public int image() {
        return picture.write();
    }

    public int octet(int k) {
        return k >= 0 && k < picture.length ? picture.bytes[k] : NONE;
    }

    public boolean on() {
        boolean whole = picture.read(tape);
        tape.length = 0;
        if (!whole) return no(REFUSED_TOLD);
        now.copyFrom(trial);
        past.clear();
        return true;
    }

    public int status(int what) {
        return what >= 0 && what < refused.length ? refused[what] : NONE;
    }

    // ---- what several calls share

    private int none(int group) {
        no(group);
        return NONE;
    }

    private boolean no(int group) {
        if (group >= 0 && group < refused.length) refused[group]++;
        return false;
    }

    private boolean isVoice(int voice) {
        return voice >= 0 && voice < town.voiceCount;
    }

    private boolean isPerson(int person) {
        return person >= 0 && person < town.personCount;
    }

    private boolean isSaying(int saying) {
        return saying >= 0 && saying < town.sayingCount;
    }

    private boolean comes(int n, int least, int most) {
        return n >= least && n <= most && now.minute + n <= LAST_MINUTE;
    }

    /** The one state for trials, as it is now. */
    private State fresh() {
        trial.copyFrom(now);
        return trial;
    }

    private boolean isEnough(int voices, int n) {
        for (int v = 0; v < town.voiceCount; v++) {
            if ((voices >> v & 1) != 0 && now.struck[v] != 0) return false;
        }
        State then = fresh();
        for (int i = 0; i < n; i++) {
            if (then.begin(voices) > 0) return false;
            then.finish();
        }
        return true;
    }

    private int sayingsOf(int person, boolean soundingOnly) {
        int count = 0;
        for (int s = 0; s < town.sayingCount; s++) {
            boolean counts = !soundingOnly || now.what[s] == SOUNDING;
            if (counts && town.sayingPerson[s] == person) count++;
        }
        return count;
    }

    private int draw(int most) {
        seed = (int) ((1103515245L * seed + 12345L) & 0x7fffffffL);
        return most > 0 ? (seed >> 6) % most : 0;
    }

    private int strokeByDraw() {
        if (draw(PERCENT) >= town.stroke || town.voiceCount == 0) return 0;
        int voice = draw(town.voiceCount);
        if (!isVoice(voice) || now.struck[voice] != 0) return 0;
        now.breakVoice(voice);
        return 1;
    }

    /** The bytes that were fed and not used yet. */
    private static final class Tape {
        final int[] bytes = new int[TAPE_BYTES];
        int length;

        void put(int number) {
            for (int shift = 24; shift >= 0; shift -= 8) {
                if (length < bytes.length) {
                    bytes[length] = (number >>> shift) & 255;
                    length++;
                }
            }
        }
    }

    /** The kinds of tokens, first the words that begin a STATEMENT; a sign is its own byte, above all these. */
    private static final class Word {
        static final int VOICE = 0;
        static final int PERSON = 1;
        static final int WANTS = 2;
        static final int PICKS = 3;
        static final int MIXES = 4;
        static final int HUSH = 5;
        static final int STROKE = 6;
        static final int PITCH = 7;
        static final int CALM = 8;
        static final int AT = 9;
        static final int LONG = 10;
        static final int TONE = 11;
        static final int WAITS = 12;
        static final int MINUTE = 13;
        static final int LOAD = 14;
        static final int BUSY = 15;
        static final int IF = 16;
        static final int OR = 17;
        static final int AND = 18;
        static final int NOT = 19;
        static final int ALL = 20;
        static final int MIN = 21;
        static final int MAX = 22;
        static final int OWN_COUNT = 23;
        static final int NAME = 23;
        static final int NUMBER = 24;
        static final int END = 25;
        static final int BAD = 26;

        static final String SIGNS = ";()[],+-*/%<>=";
        // In the order of the numbers above, six letters or blanks each.
        private static final String OWN =
                "voice personwants picks mixes hush  strokepitch calm  at    long  tone  waits minuteload  busy  if    or    and   not   all   min   max   ";

        /** A word is packed by five bits a letter, the first letter lowest. */
        static int letterOf(int packed, int k) {
            return (packed >> (5 * k)) & 31;
        }

        static int kindOf(int packed) {
            for (int w = 0; w < OWN_COUNT; w++) {
                int own = 0;
                for (int k = 0; k < NAME_LETTERS; k++) {
                    int cell = NAME_LETTERS * w + k;
                    int sign = cell < OWN.length() ? OWN.charAt(cell) : ' ';
                    if (sign != ' ') own |= (sign - 'a' + 1) << (5 * k);
                }
                if (own == packed) return w;
            }
            return NAME;
        }
    }

    /** A text split into words, numbers and signs, until it ends or goes wrong. */
    private static final class Tokens {
        private static final int NUMBER_DIGITS = 4;

        final int[] kind = new int[TAPE_BYTES + 1];
        final int[] place = new int[TAPE_BYTES + 1];
        final int[] value = new int[TAPE_BYTES + 1];
        int count;
        private boolean inWord;
        private int start;
        private int size;
        private int packed;

        void split(Tape text) {
            count = 0;
            size = 0;
            boolean good = true;
            for (int i = 0; i < text.length && i < text.bytes.length && good; i++) {
                good = take(text.bytes[i], i);
            }
            if (good) {
                finish();
                add(Word.END, text.length, 0);
            }
        }

        private boolean take(int c, int i) {
            boolean letter = c >= 'a' && c <= 'z';
            boolean digit = c >= '0' && c <= '9';
            if (!letter && !digit) return takeSign(c, i);
            if (size > 0 && letter != inWord) {
                // Side by side without a blank: what stands ahead is judged first.
                finish();
                return bad(i, i);
            }
            if (size == (letter ? NAME_LETTERS : NUMBER_DIGITS)) return bad(i, start);
            if (size == 0) {
                start = i;
                inWord = letter;
                packed = 0;
            }
            packed = letter ? packed | (c - 'a' + 1) << (5 * size) : 10 * packed + c - '0';
            size++;
            return true;
        }

        private boolean takeSign(int c, int i) {
            finish();
            if (c == ' ' || c == 10) return true;
            for (int k = 0; k < Word.SIGNS.length(); k++) {
                if (Word.SIGNS.charAt(k) == c) {
                    add(c, i, 0);
                    return true;
                }
            }
            return bad(i, i);
        }

        private void finish() {
            if (size > 0) add(inWord ? Word.kindOf(packed) : Word.NUMBER, start, packed);
            size = 0;
        }

        /** What goes wrong keeps as its value where it begins: a word may do so behind its first byte. */
        private boolean bad(int i, int first) {
            add(Word.BAD, i, first);
            return false;
        }

        private void add(int tokenKind, int tokenPlace, int tokenValue) {
            if (count < kind.length && count < place.length && count < value.length) {
                kind[count] = tokenKind;
                place[count] = tokenPlace;
                value[count] = tokenValue;
                count++;
            }
        }
    }

    /** Reads a text into a draft of a town; each fault is at the token that is read just then. */
    private static final class Reader {
        private static final int MOST_OPEN = 7;
        private static final int MOST_NUMBER = 9999;

        final Town draft = new Town();
        int fault;
        int place = NONE;
        private final Tokens tokens = new Tokens();
        private int next;
        private int open;
        private int rule;

        /** How many STATEMENTS; NONE with a fault. */
        int read(Tape text) {
            tokens.split(text);
            draft.clear();
            fault = 0;
            place = NONE;
            next = 0;
            open = 0;
            int statements = 0;
            for (int i = 0; i < TAPE_BYTES && fault == 0 && !at(Word.END); i++) {
                if (statements == STATEMENTS) refuseOneMore();
                readStatement(kind());
                require(';');
                statements++;
            }
            return fault == 0 ? statements : NONE;
        }

        /** Whatever the 81st begins with, even a word that goes wrong further on, its first byte counts. */
        private void refuseOneMore() {
            boolean wrong = at(Word.BAD);
            refuse(6);
            if (wrong) place = value();
        }

        private void readStatement(int first) {
            switch (first) {
                case Word.VOICE: readVoice(); break;
                case Word.PERSON: readPerson(); break;
                case Word.WANTS: readWants(); break;
                case Word.PICKS: readRule(RULE_PICKS); break;
                case Word.MIXES: readRule(RULE_MIXES); break;
                case Word.HUSH: readRule(RULE_HUSH); break;
                case Word.STROKE:
                    require(Word.STROKE);
                    draft.stroke = number(0, PERCENT);
                    break;
                default: refuse(1);
            }
        }

        private void readVoice() {
            int n = draft.voiceCount;
            if (n >= VOICES) refuse(6);
            require(Word.VOICE);
            int name = newName();
            require(Word.PITCH);
            int pitch = number(0, PITCHES - 1);
            if (fault != 0 || n >= VOICES) return;
            draft.voiceName[n] = name;
            draft.voicePitch[n] = pitch;
            draft.voiceCount++;
        }

        private void readPerson() {
            int n = draft.personCount;
            if (n >= PERSONS) refuse(6);
            require(Word.PERSON);
            int name = newName();
            require(Word.PITCH);
            int pitch = number(0, PITCHES - 1);
            require(Word.CALM);
            int calm = number(0, 99);
            if (fault != 0 || n >= PERSONS) return;
            draft.personName[n] = name;
            draft.personPitch[n] = pitch;
            draft.personCalm[n] = calm;
            draft.personCount++;
        }

        private void readWants() {
            int n = draft.sayingCount;
            if (n >= SAYINGS) refuse(6);
            require(Word.WANTS);
            int person = personName();
            require(Word.AT);
            int minute = number(0, LAST_MINUTE);
            require(Word.LONG);
            int length = number(1, MOST_LONG);
            if (fault != 0 || n >= SAYINGS) return;
            draft.sayingPerson[n] = person;
            draft.sayingDue[n] = minute;
            draft.sayingLong[n] = length;
            draft.sayingCount++;
        }

        private void readRule(int which) {
            if (draft.rules.isTold(which)) refuse(6);
            if (fault != 0) return;
            next++;
            rule = which;
            draft.rules.start(which);
            if (which == RULE_PICKS) {
                sum();
            } else {
                test();
            }
            draft.rules.stop(which);
        }

        private void test() {
            boolean either = false;
            fact();
            for (int i = 0; i < TAPE_BYTES && (at(Word.OR) || at(Word.AND)); i++) {
                boolean and = at(Word.AND);
                // An or waits until the ands behind it are through.
                if (!and && either) draft.rules.addSign(Word.OR);
                if (!and) either = true;
                next++;
                fact();
                if (and) draft.rules.addSign(Word.AND);
            }
            if (either) draft.rules.addSign(Word.OR);
        }

        private void fact() {
            if (at(Word.NOT)) {
                if (!enter()) return;
                fact();
                open--;
                draft.rules.addSign(Word.NOT);
            } else if (at('[')) {
                if (!enter()) return;
                test();
                require(']');
                open--;
            } else if (at(Word.ALL)) {
                next++;
                draft.rules.addNumber(1);
            } else {
                sum();
                int sign = kind();
                if (sign != '<' && sign != '>' && sign != '=') refuse(1);
                if (fault != 0) return;
                next++;
                sum();
                draft.rules.addSign(sign);
            }
        }

        private void sum() {
            int waiting = 0;
            part();
            for (int i = 0; i < TAPE_BYTES && fault == 0; i++) {
                int sign = kind();
                boolean adds = sign == '+' || sign == '-';
                if (!adds && sign != '*' && sign != '/' && sign != '%') break;
                // A + or - waits until the product behind it is through.
                if (adds && waiting != 0) draft.rules.addSign(waiting);
                if (adds) waiting = sign;
                next++;
                part();
                if (!adds) draft.rules.addSign(sign);
            }
            if (waiting != 0) draft.rules.addSign(waiting);
        }

        private void part() {
            int first = kind();
            if (at(Word.NUMBER)) {
                draft.rules.addNumber(number(0, MOST_NUMBER));
            } else if (at('(')) {
                if (!enter()) return;
                sum();
                require(')');
                open--;
            } else if (first == Word.MIN || first == Word.MAX || first == Word.IF) {
                next++;
                if (!at('(')) refuse(1);
                if (!enter()) return;
                if (first == Word.IF) {
                    test();
                    require(',');
                    sum();
                } else {
                    sum();
                }
                require(',');
                sum();
                require(')');
                open--;
                draft.rules.addSign(first);
            } else if (isAsked(first)) {
                next++;
                draft.rules.addFact(first);
            } else {
                refuse(1);
            }
        }

        /** Whether a word may be asked in the rule that is read. */
        private boolean isAsked(int word) {
            switch (word) {
                case Word.TONE: case Word.WAITS: case Word.MINUTE: case Word.LONG: return true;
                case Word.LOAD: return rule == RULE_PICKS;
                case Word.PITCH: return rule == RULE_PICKS || rule == RULE_MIXES;
                case Word.BUSY: return rule == RULE_MIXES;
                case Word.CALM: return rule == RULE_HUSH;
                default: return false;
            }
        }

        private boolean enter() {
            if (open >= MOST_OPEN) refuse(5);
            if (fault != 0) return false;
            open++;
            next++;
            return true;
        }

        private int newName() {
            if (!at(Word.NAME)) refuse(1);
            int name = value();
            if (draft.voiceOf(name) != NONE || draft.personOf(name) != NONE) refuse(2);
            if (fault == 0) next++;
            return name;
        }

        private int personName() {
            if (!at(Word.NAME)) refuse(1);
            int person = draft.personOf(value());
            if (person == NONE) refuse(3);
            if (fault == 0) next++;
            return person;
        }

        private int number(int least, int most) {
            if (!at(Word.NUMBER)) refuse(1);
            int number = value();
            if (number < least || number > most) refuse(4);
            if (fault == 0) next++;
            return number;
        }

        private void require(int wanted) {
            if (!at(wanted)) refuse(1);
            if (fault == 0) next++;
        }

        /** Behind a fault nothing stands any more, so that all reading ends. */
        private boolean at(int wanted) {
            return fault == 0 && next >= 0 && next < tokens.count && tokens.kind[next] == wanted;
        }

        private int kind() {
            return next >= 0 && next < tokens.count ? tokens.kind[next] : Word.BAD;
        }

        private int value() {
            return next >= 0 && next < tokens.count ? tokens.value[next] : 0;
        }

        private void refuse(int which) {
            if (fault != 0) return;
            fault = which;
            place = next >= 0 && next < tokens.count ? tokens.place[next] : NONE;
        }
    }

    /** The SUM of picks and the TESTS as rows of steps: what is asked first, then the sign. */
    private static final class Rules {
        private static final int FACT = 10000;
        private static final int SIGN = 20000;
        // Seven may be open, and each holds less than eight that wait.
        private static final int MOST_WAITING = 64;
        private static final long MOST = 1000000;

        final int[] facts = new int[Word.OWN_COUNT];
        private final int[] steps = new int[TAPE_BYTES];
        private final int[] from = new int[RULES];
        private final int[] to = new int[RULES];
        private final int[] waiting = new int[MOST_WAITING];
        private int count;

        void clear() {
            count = 0;
            Arrays.fill(from, 0);
            Arrays.fill(to, 0);
        }

        void copyFrom(Rules other) {
            System.arraycopy(other.steps, 0, steps, 0, steps.length);
            System.arraycopy(other.from, 0, from, 0, from.length);
            System.arraycopy(other.to, 0, to, 0, to.length);
        }

        boolean isTold(int rule) {
            return rule >= 0 && rule < RULES && to[rule] > from[rule];
        }

        void start(int rule) {
            if (rule >= 0 && rule < RULES) from[rule] = count;
        }

        void stop(int rule) {
            if (rule >= 0 && rule < RULES) to[rule] = count;
        }

        void addNumber(int number) {
            add(number);
        }

        void addFact(int word) {
            add(FACT + word);
        }

        void addSign(int sign) {
            add(SIGN + sign);
        }

        private void add(int step) {
            if (count < steps.length) {
                steps[count] = step;
                count++;
            }
        }

        /** What a rule comes to by the facts that were put; a TEST that holds comes to 1. */
        int value(int rule) {
            if (!isTold(rule)) return 0;
            int top = 0;
            for (int i = from[rule]; i < to[rule] && i < steps.length; i++) {
                int step = steps[i];
                if (step < SIGN) {
                    if (top >= waiting.length) return 0;
                    waiting[top] = step < FACT ? step : factOf(step - FACT);
                    top++;
                } else if (step == SIGN + Word.NOT) {
                    if (top < 1) return 0;
                    waiting[top - 1] = 1 - waiting[top - 1];
                } else if (step == SIGN + Word.IF) {
                    if (top < 3) return 0;
                    top -= 2;
                    if (waiting[top - 1] != 0) {
                        waiting[top - 1] = waiting[top];
                    } else {
                        waiting[top - 1] = waiting[top + 1];
                    }
                } else {
                    if (top < 2) return 0;
                    top--;
                    waiting[top - 1] = combine(step - SIGN, waiting[top - 1], waiting[top]);
                }
            }
            return top == 1 ? waiting[0] : 0;
        }

        private int factOf(int word) {
            return word >= 0 && word < facts.length ? facts[word] : 0;
        }

        private static int combine(int sign, int a, int b) {
            long result = 0;
            switch (sign) {
                case '+': result = (long) a + b; break;
                case '-': result = (long) a - b; break;
                case '*': result = (long) a * b; break;
                case '/': result = b == 0 ? 0 : Math.floorDiv(a, b); break;
                case '%': result = b == 0 ? 0 : Math.floorMod(a, b); break;
                case '<': result = a < b ? 1 : 0; break;
                case '>': result = a > b ? 1 : 0; break;
                case '=': result = a == b ? 1 : 0; break;
                case Word.AND: result = a & b; break;
                case Word.OR: result = a | b; break;
                case Word.MIN: result = Math.min(a, b); break;
                case Word.MAX: result = Math.max(a, b); break;
                default: break;
            }
            return (int) Math.max(-MOST, Math.min(MOST, result));
        }
    }

    /** What a text tells; what acts change of it stands in a State. */
    private static final class Town {
        int voiceCount;
        int personCount;
        int sayingCount;
        int stroke;
        final int[] voiceName = new int[VOICES];
        final int[] voicePitch = new int[VOICES];
        final int[] personName = new int[PERSONS];
        final int[] personPitch = new int[PERSONS];
        final int[] personCalm = new int[PERSONS];
        final int[] sayingPerson = new int[SAYINGS];
        final int[] sayingDue = new int[SAYINGS];
        final int[] sayingLong = new int[SAYINGS];
        final Rules rules = new Rules();

        void clear() {
            voiceCount = 0;
            personCount = 0;
            sayingCount = 0;
            stroke = 0;
            rules.clear();
        }

        void copyFrom(Town other) {
            voiceCount = other.voiceCount;
            personCount = other.personCount;
            sayingCount = other.sayingCount;
            stroke = other.stroke;
            System.arraycopy(other.voiceName, 0, voiceName, 0, VOICES);
            System.arraycopy(other.voicePitch, 0, voicePitch, 0, VOICES);
            System.arraycopy(other.personName, 0, personName, 0, PERSONS);
            System.arraycopy(other.personPitch, 0, personPitch, 0, PERSONS);
            System.arraycopy(other.personCalm, 0, personCalm, 0, PERSONS);
            System.arraycopy(other.sayingPerson, 0, sayingPerson, 0, SAYINGS);
            System.arraycopy(other.sayingDue, 0, sayingDue, 0, SAYINGS);
            System.arraycopy(other.sayingLong, 0, sayingLong, 0, SAYINGS);
            rules.copyFrom(other.rules);
        }

        int voiceOf(int name) {
            for (int v = 0; v < voiceCount && v < VOICES; v++) {
                if (voiceName[v] == name) return v;
            }
            return NONE;
        }

        int personOf(int name) {
            for (int p = 0; p < personCount && p < PERSONS; p++) {
                if (personName[p] == name) return p;
            }
            return NONE;
        }

        int toneOf(int saying) {
            int person = sayingPerson[saying];
            return person >= 0 && person < PERSONS ? personPitch[person] : 0;
        }

        int calmOf(int saying) {
            int person = sayingPerson[saying];
            return person >= 0 && person < PERSONS ? personCalm[person] : 0;
        }
    }

    /** All that minutes and acts change but the seed, and how a minute changes it. */
    private static final class State {
        final int[] pitch = new int[VOICES];
        final int[] struck = new int[VOICES];
        final int[] begun = new int[VOICES];
        final int[] what = new int[SAYINGS];
        final int[] due = new int[SAYINGS];
        final int[] waited = new int[SAYINGS];
        final int[] voice = new int[SAYINGS];
        final int[] left = new int[SAYINGS];
        final int[] mixed = new int[SAYINGS];
        // A SAYING ends once, so that these hold all that can be KEPT at a time.
        final int[] keptMinute = new int[SAYINGS];
        final int[] keptSaying = new int[SAYINGS];
        final int[] keptWhat = new int[SAYINGS];
        int keptCount;
        int minute;
        private final Town town;

        State(Town town) {
            this.town = town;
        }

        void reset() {
            System.arraycopy(town.voicePitch, 0, pitch, 0, VOICES);
            Arrays.fill(struck, 0);
            Arrays.fill(begun, 0);
            Arrays.fill(what, TO_COME);
            System.arraycopy(town.sayingDue, 0, due, 0, SAYINGS);
            Arrays.fill(waited, 0);
            Arrays.fill(voice, NONE);
            Arrays.fill(left, 0);
            Arrays.fill(mixed, 0);
            keptCount = 0;
            minute = 0;
        }

        void copyFrom(State other) {
            System.arraycopy(other.pitch, 0, pitch, 0, VOICES);
            System.arraycopy(other.struck, 0, struck, 0, VOICES);
            System.arraycopy(other.begun, 0, begun, 0, VOICES);
            System.arraycopy(other.what, 0, what, 0, SAYINGS);
            System.arraycopy(other.due, 0, due, 0, SAYINGS);
            System.arraycopy(other.waited, 0, waited, 0, SAYINGS);
            System.arraycopy(other.voice, 0, voice, 0, SAYINGS);
            System.arraycopy(other.left, 0, left, 0, SAYINGS);
            System.arraycopy(other.mixed, 0, mixed, 0, SAYINGS);
            System.arraycopy(other.keptMinute, 0, keptMinute, 0, SAYINGS);
            System.arraycopy(other.keptSaying, 0, keptSaying, 0, SAYINGS);
            System.arraycopy(other.keptWhat, 0, keptWhat, 0, SAYINGS);
            keptCount = other.keptCount;
            minute = other.minute;
        }

        int countOf(int kind) {
            int count = 0;
            for (int s = 0; s < town.sayingCount; s++) {
                if (what[s] == kind) count++;
            }
            return count;
        }

        int struckCount() {
            int count = 0;
            for (int v = 0; v < town.voiceCount; v++) {
                if (struck[v] != 0) count++;
            }
            return count;
        }

        /** No two SAYINGS SOUND by one VOICE, so that each that SOUNDS keeps one busy. */
        int busyCount() {
            return countOf(SOUNDING);
        }

        int sayingBy(int told) {
            for (int s = 0; s < town.sayingCount; s++) {
                if (what[s] == SOUNDING && voice[s] == told) return s;
            }
            return NONE;
        }

        boolean isFree(int told) {
            return struck[told] == 0 && sayingBy(told) == NONE;
        }

        int sumOfPicks(int saying, int told) {
            if (!town.rules.isTold(RULE_PICKS)) {
                return PITCHES - 1 - Math.abs(pitch[told] - town.toneOf(saying));
            }
            know(saying);
            town.rules.facts[Word.LOAD] = begun[told];
            town.rules.facts[Word.PITCH] = pitch[told];
            return town.rules.value(RULE_PICKS);
        }

        /** So many MINUTES without DRAWS: how many are SAID. */
        int pass(int n) {
            int said = 0;
            for (int i = 0; i < n; i++) {
                begin(ALL_VOICES);
                said += finish();
            }
            return said;
        }

        /** The first half of a minute, as far as to what is HUSHED: how many are. */
        int begin(int allowed) {
            for (int s = 0; s < town.sayingCount; s++) {
                if (what[s] == TO_COME && due[s] <= minute) what[s] = WAITING;
            }
            for (int s = 0; s < town.sayingCount; s++) {
                if (what[s] == WAITING) give(s, allowed);
            }
            int hushed = 0;
            for (int s = 0; s < town.sayingCount; s++) {
                if (what[s] == WAITING && isHushed(s)) {
                    conclude(s, HUSHED);
                    hushed++;
                }
            }
            return hushed;
        }

        /** The other half of a minute: how many are SAID. */
        int finish() {
            int said = 0;
            for (int s = 0; s < town.sayingCount; s++) {
                if (what[s] == SOUNDING) {
                    left[s]--;
                    if (left[s] <= 0) {
                        conclude(s, SAID);
                        said++;
                    }
                }
            }
            minute = Math.min(LAST_MINUTE, minute + 1);
            return said;
        }

        void breakVoice(int told) {
            int saying = sayingBy(told);
            struck[told] = 1;
            if (saying != NONE) conclude(saying, BROKEN);
        }

        private void give(int saying, int allowed) {
            int best = NONE;
            int most = 0;
            for (int v = 0; v < town.voiceCount; v++) {
                if ((allowed >> v & 1) != 0 && isFree(v)) {
                    int sum = sumOfPicks(saying, v);
                    if (sum > most) {
                        most = sum;
                        best = v;
                    }
                }
            }
            if (best == NONE) return;
            what[saying] = SOUNDING;
            voice[saying] = best;
            left[saying] = town.sayingLong[saying];
            begun[best] = Math.min(MOST_COUNTED, begun[best] + 1);
            mixed[saying] = isMixed(saying, best) ? 1 : 0;
        }

        private boolean isMixed(int saying, int told) {
            if (!town.rules.isTold(RULE_MIXES)) return false;
            know(saying);
            town.rules.facts[Word.PITCH] = pitch[told];
            town.rules.facts[Word.BUSY] = busyCount();
            return town.rules.value(RULE_MIXES) != 0;
        }

        private boolean isHushed(int saying) {
            waited[saying] = Math.min(MOST_COUNTED, waited[saying] + 1);
            if (!town.rules.isTold(RULE_HUSH)) return waited[saying] > town.calmOf(saying);
            know(saying);
            town.rules.facts[Word.CALM] = town.calmOf(saying);
            return town.rules.value(RULE_HUSH) != 0;
        }

        private void know(int saying) {
            town.rules.facts[Word.TONE] = town.toneOf(saying);
            town.rules.facts[Word.WAITS] = waited[saying];
            town.rules.facts[Word.MINUTE] = minute;
            town.rules.facts[Word.LONG] = town.sayingLong[saying];
        }

        private void conclude(int saying, int as) {
            what[saying] = as;
            left[saying] = 0;
            if (keptCount < SAYINGS) {
                keptMinute[keptCount] = minute;
                keptSaying[keptCount] = saying;
                keptWhat[keptCount] = as;
                keptCount++;
            }
        }
    }

    /** The states ahead of the latest acts. */
    private static final class Past {
        private static final int ACTS = 20;

        int count;
        private final State[] states = new State[ACTS];
        private int next;

        Past(Town town) {
            for (int i = 0; i < ACTS; i++) states[i] = new State(town);
        }

        void clear() {
            count = 0;
        }

        void keep(State state) {
            if (next < 0 || next >= ACTS || states[next] == null) return;
            states[next].copyFrom(state);
            next = next + 1 < ACTS ? next + 1 : 0;
            count = Math.min(ACTS, count + 1);
        }

        boolean giveBack(State state) {
            if (count == 0) return false;
            next = next > 0 ? next - 1 : ACTS - 1;
            if (next < 0 || next >= ACTS || states[next] == null) return false;
            state.copyFrom(states[next]);
            count--;
            return true;
        }
    }

    /** Which VOICES would serve best together the SAYINGS that WAIT now. */
    private static final class Matching {
        private final Town town;
        private final State now;
        // The most that SAYINGS from one on can sum up to when some VOICES are taken.
        private final int[][] best = new int[SAYINGS + 1][1 << VOICES];
        private final int[][] sums = new int[SAYINGS][VOICES];

        Matching(Town town, State now) {
            this.town = town;
            this.now = now;
        }

        int needing(int voice) {
            fillSums();
            int count = 0;
            for (int s = 0; s < town.sayingCount; s++) {
                int able = 0;
                for (int v = 0; v < town.voiceCount; v++) {
                    if (sums[s][v] > 0) able++;
                }
                if (able == 1 && sums[s][voice] > 0) count++;
            }
            return count;
        }

        int bestSum() {
            fillBest();
            return best[0][0];
        }

        int voiceFor(int saying) {
            fillBest();
            int taken = 0;
            int voice = NONE;
            for (int s = 0; s <= saying && s < SAYINGS; s++) {
                voice = firstBest(s, taken);
                if (voice != NONE) taken |= 1 << voice;
            }
            return voice;
        }

        /** The SUM of picks where a VOICE may be given now, else 0. */
        private void fillSums() {
            for (int s = 0; s < town.sayingCount; s++) {
                for (int v = 0; v < town.voiceCount; v++) {
                    boolean may = now.what[s] == WAITING && now.isFree(v);
                    sums[s][v] = may ? Math.max(0, now.sumOfPicks(s, v)) : 0;
                }
            }
        }

        private void fillBest() {
            fillSums();
            Arrays.fill(best[town.sayingCount], 0);
            for (int s = town.sayingCount - 1; s >= 0; s--) {
                for (int taken = 0; taken <= ALL_VOICES; taken++) {
                    int most = best[s + 1][taken];
                    for (int v = 0; v < town.voiceCount; v++) {
                        most = Math.max(most, sumWith(s, v, taken));
                    }
                    best[s][taken] = most;
                }
            }
        }

        /** The most from a SAYING on, if it has this VOICE; NONE when it can't have it. */
        private int sumWith(int saying, int voice, int taken) {
            int bit = 1 << voice;
            if ((taken & bit) != 0 || sums[saying][voice] <= 0) return NONE;
            return sums[saying][voice] + best[saying + 1][taken | bit];
        }

        private int firstBest(int saying, int taken) {
            if (best[saying + 1][taken] == best[saying][taken]) return NONE;
            for (int v = 0; v < town.voiceCount; v++) {
                if (sumWith(saying, v, taken) == best[saying][taken]) return v;
            }
            return NONE;
        }
    }

    /** What was heard, and which pitches fit to it. */
    private static final class Heard {
        private static final int ROWS = 16;
        private static final int ROW_BYTES = 3;
        private static final int MINUTES = 31;
        private static final int SILENT = 255;

        int count;
        private final Town town;
        private final State now;
        private final State trial;
        private final int[] minute = new int[ROWS];
        private final int[] saying = new int[ROWS];
        private final int[] voice = new int[ROWS];
        // By pitch: the VOICE of each SAYING in each MINUTE; VOICES where it does not SOUND.
        private final int[][] seen = new int[PITCHES][MINUTES * SAYINGS];
        private final int[] like = new int[VOICES + 1];

        Heard(Town town, State now, State trial) {
            this.town = town;
            this.now = now;
            this.trial = trial;
        }

        void clear() {
            count = 0;
        }

        /** How many rows; NONE, all staying, when the text is none such. */
        int take(Tape text) {
            int rows = text.length / ROW_BYTES;
            if (rows * ROW_BYTES != text.length || rows < 1 || rows > ROWS) return NONE;
            for (int i = 0; i < rows; i++) {
                if (!isRow(text.bytes, ROW_BYTES * i)) return NONE;
            }
            for (int i = 0; i < rows; i++) {
                minute[i] = text.bytes[ROW_BYTES * i];
                saying[i] = text.bytes[ROW_BYTES * i + 1];
                int told = text.bytes[ROW_BYTES * i + 2];
                voice[i] = told == SILENT ? VOICES : told;
            }
            count = rows;
            return rows;
        }

        /** Tries each pitch of a VOICE: those that fit, as bits. */
        int watch(int told) {
            int coming = minutesComing();
            int fitting = 0;
            for (int p = 0; p < PITCHES; p++) {
                trial.copyFrom(now);
                trial.pitch[told] = p;
                for (int m = 0; m < coming; m++) {
                    trial.begin(ALL_VOICES);
                    for (int s = 0; s < town.sayingCount; s++) {
                        boolean sounds = trial.what[s] == SOUNDING;
                        seen[p][m * SAYINGS + s] = sounds ? trial.voice[s] : VOICES;
                    }
                    trial.finish();
                }
                if (fits(p, coming)) fitting |= 1 << p;
            }
            return fitting;
        }

        /** What tells most of the pitches that were left when a VOICE was watched. */
        int telling(int fitting, int asked) {
            if (fitting == 0) return NONE;
            int coming = minutesComing();
            int bestMinute = NONE;
            int bestSaying = NONE;
            int fewest = NONE;
            for (int m = 0; m < coming; m++) {
                for (int s = 0; s < town.sayingCount; s++) {
                    int most = mostAlike(fitting, m * SAYINGS + s);
                    if (fewest == NONE || most < fewest) {
                        fewest = most;
                        bestMinute = m;
                        bestSaying = s;
                    }
                }
            }
            if (asked == 0) return bestMinute;
            return asked == 1 ? bestSaying : fewest;
        }

        private int minutesComing() {
            return Math.min(MINUTES, LAST_MINUTE - now.minute);
        }

        private boolean isRow(int[] bytes, int i) {
            if (i < 0 || i + 2 >= bytes.length) return false;
            boolean known = bytes[i + 2] < town.voiceCount || bytes[i + 2] == SILENT;
            return bytes[i] < MINUTES && bytes[i + 1] < town.sayingCount && known;
        }

        private boolean fits(int pitch, int coming) {
            for (int i = 0; i < count && i < ROWS; i++) {
                if (minute[i] >= coming) return false;
                if (seen[pitch][minute[i] * SAYINGS + saying[i]] != voice[i]) return false;
            }
            return true;
        }

        private int mostAlike(int fitting, int cell) {
            Arrays.fill(like, 0);
            int most = 0;
            for (int p = 0; p < PITCHES; p++) {
                int told = seen[p][cell];
                if ((fitting >> p & 1) != 0 && told >= 0 && told < like.length) {
                    like[told]++;
                    most = Math.max(most, like[told]);
                }
            }
            return most;
        }
    }

    /** Images: a state as bytes. */
    private static final class Picture {
        private static final int NO_VOICE = 255;
        private static final int MOST_BYTES = 2 + 3 * VOICES + 7 * SAYINGS + 1;

        final int[] bytes = new int[MOST_BYTES];
        int length;
        private final Town town;
        private final State now;
        private final State trial;
        private Tape text;
        private int next;

        Picture(Town town, State now, State trial) {
            this.town = town;
            this.now = now;
            this.trial = trial;
        }

        int write() {
            length = 0;
            putPair(now.minute);
            for (int v = 0; v < town.voiceCount; v++) {
                put(now.pitch[v]);
                put(now.struck[v]);
                put(now.begun[v]);
            }
            for (int s = 0; s < town.sayingCount; s++) {
                put(now.what[s]);
                putPair(now.due[s]);
                put(now.waited[s]);
                put(now.voice[s] == NONE ? NO_VOICE : now.voice[s]);
                put(now.left[s]);
                put(now.mixed[s]);
            }
            put(sealOf(bytes, length));
            return length;
        }

        /** Whether a text is an image of this town; if it is, trial is as it tells. */
        boolean read(Tape told) {
            int size = 2 + 3 * town.voiceCount + 7 * town.sayingCount + 1;
            if (told.length != size || size > told.bytes.length) return false;
            if (sealOf(told.bytes, size - 1) != told.bytes[size - 1]) return false;
            trial.reset();
            text = told;
            next = 0;
            trial.minute = takePair();
            boolean good = trial.minute <= LAST_MINUTE;
            for (int v = 0; v < town.voiceCount; v++) good = takeVoice(v) && good;
            for (int s = 0; s < town.sayingCount; s++) good = takeSaying(s) && good;
            return good;
        }

        private boolean takeVoice(int v) {
            trial.pitch[v] = take();
            trial.struck[v] = take();
            trial.begun[v] = take();
            return trial.pitch[v] < PITCHES && trial.struck[v] <= 1
                    && trial.begun[v] <= MOST_COUNTED;
        }

        private boolean takeSaying(int s) {
            int what = take();
            int due = takePair();
            int waited = take();
            int voice = take();
            int left = take();
            int mixed = take();
            if (what > BROKEN || due > LAST_MINUTE || waited > MOST_COUNTED || mixed > 1) return false;
            if (what == TO_COME && waited != 0) return false;
            boolean hasVoice = what == SOUNDING || what == SAID || what == BROKEN;
            if (hasVoice ? voice >= town.voiceCount : voice != NO_VOICE || mixed != 0) return false;
            if (what == SOUNDING) {
                if (!trial.isFree(voice) || left < 1 || left > town.sayingLong[s]) return false;
            } else if (left != 0) {
                return false;
            }
            trial.what[s] = what;
            trial.due[s] = due;
            trial.waited[s] = waited;
            trial.voice[s] = hasVoice ? voice : NONE;
            trial.left[s] = left;
            trial.mixed[s] = mixed;
            return true;
        }

        private static int sealOf(int[] row, int count) {
            int seal = 199;
            for (int i = 0; i < count && i < row.length; i++) seal = (5 * seal + row[i]) % 251;
            return seal;
        }

        private void put(int value) {
            if (length < bytes.length) {
                bytes[length] = value;
                length++;
            }
        }

        private void putPair(int value) {
            put(value >> 8);
            put(value & 255);
        }

        private int take() {
            if (text == null || next >= text.length || next >= text.bytes.length) return 0;
            next++;
            return text.bytes[next - 1];
        }

        private int takePair() {
            int high = take();
            return high << 8 | take();
        }
    }
}
