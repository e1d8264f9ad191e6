/** Texts with their faults: '^' stands in front of the byte that is the place. */
public final class FaultsTest {
    private static final String VOICE = "voice v pitch 1;";
    private static final String PERSON = "person p pitch 1 calm 1;";

    private FaultsTest() { }

    public static void main(String[] args) {
        good();
        firstByte();
        wholeWords();
        sideBySide();
        names();
        numbers();
        deep();
        tooMany();
        oneStatementMore();
        firstAlongTheText();
        everyOtherByte();
        oneAfterTheOther();
        Check.end();
    }

    private static void fault(int kind, String marked) {
        int place = marked.indexOf('^');
        String text = marked.substring(0, place) + marked.substring(place + 1);
        ThrownVoices x = new ThrownVoices();
        Check.put(x, Check.bytes(text));
        Check.due("town() of " + marked, x.town(), -1);
        Check.due("fault(0) of " + marked, x.fault(0), kind);
        Check.due("fault(1) of " + marked, x.fault(1), place);
        Check.due("status(1)", x.status(1), 1);
    }

    private static void good() {
        Check.town("");
        Check.town("  \n ");
        Check.town("voice a pitch 0009;person b pitch 9 calm 99;wants b at 999 long 20;wants b at 0 long 1;stroke 0;stroke 100;");
        Check.town("\nvoice\nabcdef\npitch\n1\n;\n");
        Check.town("person voices pitch 0 calm 0;voice pick pitch 0;voice mi pitch 1;voice ton pitch 1;");
        Check.town("picks tone+waits+minute+long+load+pitch+9999;mixes tone+waits+minute+long+pitch+busy>0;"
                + "hush tone+waits+minute+long+calm<0;");
        Check.town("picks(((((((1)))))))+(1);mixes not not not[[[[all]]]]and[all];");
        Check.town("hush not 1<2 and not 1<2 and not 1<2 and not 1<2 and not 1<2 and not 1<2 and not 1<2 and not all;");
        Check.town("picks min(1,max(2,if(1<2,3,4)));hush[1=1 or 2=2]and all or not all;");
        Check.town("picks if(all,1,2)-min ( 1 , 2 )*max\n(1,2)/3%4;");
        StringBuilder full = new StringBuilder();
        for (int v = 0; v < 7; v++) full.append("voice v" + (char) ('a' + v) + " pitch 1;");
        for (int p = 0; p < 8; p++) full.append("person p" + (char) ('a' + p) + " pitch 1 calm 1;");
        for (int s = 0; s < 12; s++) full.append("wants ph at 1 long 1;");
        full.append("picks 1;mixes all;hush all;");
        while (full.chars().filter(c -> c == ';').count() < 80) full.append("stroke 1;");
        ThrownVoices x = Check.town(full.toString());
        Check.due("VOICES", x.has(0), 7);
        Check.due("PERSONS", x.has(1), 8);
        Check.due("SAYINGS", x.has(2), 12);
    }

    private static void firstByte() {
        fault(1, "^;");
        fault(1, "^$");
        fault(1, " \n^\t");
        fault(1, "voice a pitch 1;^;");
        fault(1, "voice a pitch 1^");
        fault(1, "voice a pitch 1 \n^");
        fault(1, "voice a pitch^;");
        fault(1, "voice^");
        fault(1, "voice ^1 pitch 1;");
        fault(1, "voice a^;pitch 1;");
        fault(1, "voice a pitch 1 ^calm 1;");
        fault(1, "person a pitch 1^;");
        fault(1, "person a ^calm 1 pitch 1;");
        fault(1, PERSON + "wants p ^long 1 at 1;");
        fault(1, PERSON + "wants p at 1^;");
        fault(1, "stroke ^tone;");
        fault(1, "stroke 1^+1;");
        fault(1, "picks ^;");
        fault(1, "picks 1+^;");
        fault(1, "picks ^-1;");
        fault(1, "picks ^+1;");
        fault(1, "picks 1^<2;");
        fault(1, "picks ^all;");
        fault(1, "picks (1^;");
        fault(1, "picks (1^<2);");
        fault(1, "picks 1^);");
        fault(1, "picks ^[1];");
        fault(1, "picks 1^(2);");
        fault(1, "picks min ^1;");
        fault(1, "picks min(1^);");
        fault(1, "picks max(1,2^,3);");
        fault(1, "picks if(1^,2,3);");
        fault(1, "picks if(1<2,3^);");
        fault(1, "picks if(1<2 ^3,4);");
        fault(1, "mixes 1^;");
        fault(1, "mixes 1<^;");
        fault(1, "mixes 1<2^<3;");
        fault(1, "mixes 1<^=2;");
        fault(1, "mixes ^and;");
        fault(1, "mixes all ^all;");
        fault(1, "mixes all and^;");
        fault(1, "mixes all or ^or all;");
        fault(1, "mixes not^;");
        fault(1, "mixes [all^;");
        fault(1, "mixes [all^);");
        fault(1, "mixes (1 ^=1);");
        fault(1, "mixes (^all);");
        fault(1, "hush all^]");
        fault(1, "picks 1^\u00ff");
        fault(1, "^Voice a pitch 1;");
        fault(1, "voice ^A pitch 1;");
        fault(1, "voice a^B pitch 1;");
        fault(1, "picks 1^\r;");
        // Words of one rule are none of another.
        fault(1, "picks ^busy;");
        fault(1, "picks ^calm;");
        fault(1, "mixes ^load<1;");
        fault(1, "mixes ^calm<1;");
        fault(1, "hush ^load<1;");
        fault(1, "hush ^pitch<1;");
        fault(1, "hush ^busy<1;");
        fault(1, "picks ^voice;");
        fault(1, "picks ^name;");
    }

    private static void wholeWords() {
        fault(1, "^v");
        fault(1, "^voic");
        fault(1, "^voicea");
        fault(1, "voice a ^pitc 1;");
        fault(1, "voice sevena^b pitch 1;");
        fault(1, "voice sevena^bcdefgh");
        fault(1, "stroke^s 1;");
        fault(1, "voicex^x a pitch 1;");
        fault(1, "voice a pitch sevena^b;");
        fault(1, "picks abcdef^g;");
        fault(1, "picks 1+tonewa^its;");
        fault(1, "voice a pitch 1234^5;");
        fault(1, "picks 1234^5;");
        fault(1, "picks 0000^0;");
        fault(1, "voice 1234^5;");
        fault(1, "1234^5");
        fault(1, "^1234");
        String[] own = {"voice", "pitch", "person", "calm", "wants", "at", "long", "picks", "mixes", "hush",
            "stroke", "tone", "waits", "minute", "load", "busy", "if", "or", "and", "not", "all", "min", "max"};
        for (String word : own) {
            fault(1, "voice ^" + word + " pitch 1;");
            fault(1, "person ^" + word + " pitch 1 calm 1;");
            fault(1, PERSON + "wants ^" + word + " at 1 long 1;");
        }
    }

    private static void sideBySide() {
        fault(1, "voice a^1 pitch 1;");
        fault(1, "voice a pitch^1;");
        fault(1, PERSON + "wants p at 1^long 1;");
        fault(1, "mixes 1<2^or all;");
        fault(1, "mixes not^1<2;");
        fault(1, "picks 12^tone;");
        fault(1, "picks tone^1;");
        fault(1, "stroke^5;");
        fault(1, "voice a ^pitchx 1;");
    }

    private static void names() {
        fault(2, VOICE + "voice ^v pitch 1;");
        fault(2, VOICE + "person ^v pitch 1 calm 1;");
        fault(2, PERSON + "voice ^p pitch 1;");
        fault(2, PERSON + "person ^p");
        fault(3, "wants ^p at 1 long 1;");
        fault(3, VOICE + PERSON + "wants ^v at 1 long 1;");
        fault(3, PERSON + "wants ^pp at 1 long 1;");
        fault(3, "wants ^p at 1 long 1;" + PERSON);
    }

    private static void numbers() {
        fault(4, "voice v pitch ^10;");
        fault(4, "person p pitch ^10 calm 1;");
        fault(4, "person p pitch 1 calm ^100;");
        fault(4, PERSON + "wants p at ^1000 long 1;");
        fault(4, PERSON + "wants p at 1 long ^0;");
        fault(4, PERSON + "wants p at 1 long ^21;");
        fault(4, PERSON + "wants p at 1 long ^9999");
        fault(4, "stroke ^101;");
        fault(4, "stroke ^0101;");
    }

    private static void deep() {
        fault(5, "picks (((((((^(1))))))));");
        fault(5, "mixes [[[[[[[^[all");
        fault(5, "mixes not not not not not not not ^not all;");
        fault(5, "mixes not not[not[not(1+^((2);");
        fault(5, "picks min(1,max(2,if(all,3,(4+(5+(6+(7+^(8");
        fault(5, "picks if(not[not(1)<min(1,if(not^[all],2,3))],4,5);");
        fault(5, "picks ((((((1+if(all,max^(");
        fault(1, "picks (((((((1+min ^1");
        fault(1, "picks (((((((1+^)");
        fault(1, "mixes (((((((1+^not");
        // What is closed again is not open.
        Check.town("picks ((((((1))))))+((((((1))))))+(((((((1)))))));");
        Check.town("mixes not not not not not not not 1=1 and not not not not not not not 1=1;");
    }

    private static void tooMany() {
        StringBuilder voices = new StringBuilder();
        for (int v = 0; v < 7; v++) voices.append("voice v" + (char) ('a' + v) + " pitch 1;");
        fault(6, voices + "^voice va pitch 1;");
        fault(6, voices + "^voice 12");
        StringBuilder persons = new StringBuilder();
        for (int p = 0; p < 8; p++) persons.append("person p" + (char) ('a' + p) + " pitch 1 calm 1;");
        fault(6, persons + "^person x pitch 1 calm 1;");
        StringBuilder wants = new StringBuilder(PERSON);
        for (int s = 0; s < 12; s++) wants.append("wants p at 1 long 1;");
        fault(6, wants + "^wants p at 1 long 1;");
        fault(6, "picks 1;^picks 1;");
        fault(6, "mixes all;^mixes all;");
        fault(6, "hush all;stroke 1;^hush");
    }

    /** What the 81st STATEMENT begins with isn't asked; blanks alone behind the 80th are none. */
    private static void oneStatementMore() {
        String strokes = "stroke 1;".repeat(80);
        String[] begins = {"stroke 1;", "voice a pitch 1;", "picks 1;", "person", "wants p at", "hush $", "mixes mixes",
            "pitch", "max(1,2);", "name", "voic", "a", "abcdef", "abcdefg", "abcdefgh ", "strokes 1;", "voicesv a",
            "0", "12;", "1234", "12345", "123456", "12a", "1234abcdefg", "a1", "abcdef1", "abcdefg1", "12345a",
            ";", ";;", "(", ")", "[", "]", ",", "+", "-", "*", "/", "%", "<", ">", "=", "((((((((", "$", "V", "\t"};
        for (String first : begins) {
            fault(6, strokes + "^" + first);
            fault(6, strokes + " \n ^" + first);
        }
        for (char c = 0; c < 256; c++) {
            if (c != 10 && c != 32 && c != '^') fault(6, strokes + "\n^" + c + c);
        }
        fault(6, VOICE + "stroke 1;".repeat(79) + "^voice v pitch 1;");
        fault(6, "picks 1;" + "stroke 1;".repeat(79) + "^picks 1;");
        Check.town(strokes);
        Check.town(strokes + " ");
        Check.town(strokes + "\n \n" + " ".repeat(870));
        // One fewer, and what stands there is looked at.
        String fewer = "stroke 1;".repeat(79);
        Check.town(fewer);
        fault(1, fewer + "^;");
        fault(1, fewer + "^pitch");
        fault(1, fewer + "^name");
        fault(1, fewer + "^\0");
        fault(1, fewer + "abcdef^g");
        fault(1, fewer + "1234^5");
        fault(1, fewer + "stroke 1^");
        fault(1, fewer + "stroke 1 ^stroke 1;");
        fault(4, fewer + "stroke ^101;$");
        fault(6, fewer + "stroke 1;^stroke 101;");
    }

    private static void firstAlongTheText() {
        fault(4, "voice a pitch ^12x;");
        fault(4, "voice a pitch ^12");
        fault(2, VOICE + "voice ^v1");
        fault(3, "wants ^p1");
        fault(4, "stroke ^500 $");
        fault(1, "voice a ^pitc 12;");
        fault(4, "voice a pitch ^10;voice a pitch 1;");
        fault(2, VOICE + "voice ^v pitch 99;");
        fault(6, "picks 1;^picks $;");
        fault(1, "picks 1;^;");
    }

    private static void everyOtherByte() {
        for (char c = 0; c < 256; c++) {
            boolean letter = c >= 'a' && c <= 'z';
            boolean digit = c >= '0' && c <= '9';
            if (letter || digit || c == 10 || c == 32 || ";()[],+-*/%<>=^".indexOf(c) >= 0) continue;
            fault(1, "^" + c);
            fault(1, "^" + c + " v pitch 1;");
            fault(1, "voice ^" + c + " pitch 1;");
            fault(1, "voice v ^" + c + " 1;");
            fault(1, "voice v pitch ^" + c + ";");
            fault(1, "picks 1^" + c + "1;");
            fault(1, "mixes 1<2 ^" + c + " all;");
        }
    }

    /** What one text left behind, refused or not, is nothing to the next one. */
    private static void oneAfterTheOther() {
        ThrownVoices x = new ThrownVoices();
        for (int times = 0; times < 3; times++) {
            StringBuilder longRule = new StringBuilder("voice v pitch 1;person p pitch 9 calm 1;wants p at 0 long 1;"
                    + "stroke 100;mixes all;hush all;picks 2");
            while (longRule.length() < 1500) longRule.append("+1");
            Check.put(x, Check.bytes(longRule + ";"));
            Check.due("town() of a long rule", x.town(), 7);
            long sum = longRule.chars().filter(c -> c == '+').count() + 2;
            Check.due("the SUM of a long rule", x.picks(0, 0), sum);
            Check.due("odds", x.odds(-1), 100);
            Check.put(x, Check.bytes("voice w pitch 1;voice u pitch 1;picks ((((((("));
            Check.due("town() ends too soon", x.town(), -1);
            Check.put(x, Check.bytes("voice w pitch 1;person q pitch 9 calm 5;wants q at 0 long 2;"));
            Check.due("town() without rules", x.town(), 3);
            Check.due("VOICES", x.has(0), 1);
            Check.due("picks without", x.picks(0, 0), 1);
            x.minutes(1);
            Check.due("mixes without", x.saying(0, 7), 0);
            Check.due("odds without stroke", x.odds(0), 0);
            Check.put(x, Check.bytes("mixes (((((((1)))))))=1;"));
            Check.due("town() seven deep", x.town(), 1);
        }
        Check.due("status(1)", x.status(1), 3);
    }
}
