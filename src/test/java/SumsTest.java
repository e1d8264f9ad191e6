/** What sums and tests come to, asked by picks; a test by if(.., 1, 0). */
public final class SumsTest {
    private SumsTest() { }

    public static void main(String[] args) {
        numbers();
        signs();
        limits();
        tests();
        facts();
        Check.end();
    }

    private static ThrownVoices town(String picks) {
        return Check.town("voice v pitch 7;voice w pitch 2;person p pitch 3 calm 50;"
                + "wants p at 0 long 20;wants p at 1 long 4;picks " + picks + ";");
    }

    private static void sum(String picks, long want) {
        Check.due(picks, town(picks).picks(1, 0), want);
    }

    private static void test(String test, boolean want) {
        sum("if(" + test + ",1,0)", want ? 1 : 0);
    }

    private static void numbers() {
        sum("0", 0);
        sum("9999", 9999);
        sum("007", 7);
        sum("tone", 3);
        sum("pitch", 7);
        sum("long", 4);
        sum("load", 0);
        sum("waits", 0);
        sum("minute", 0);
    }

    private static void signs() {
        sum("9-3-2", 4);
        sum("9-(3-2)", 8);
        sum("2+3*4", 14);
        sum("2*3+4", 10);
        sum("(2+3)*4", 20);
        sum("20-2*3-4", 10);
        sum("20-12/5*2+1", 17);
        sum("100/7/2", 7);
        sum("100/(7/2)", 33);
        sum("7*3/2", 10);
        sum("7/2*3", 9);
        sum("17%5*2", 4);
        sum("2*17%5", 4);
        sum("(0-7)/2", -4);
        sum("7/(0-2)", -4);
        sum("(0-7)/(0-2)", 3);
        sum("(0-8)/2", -4);
        sum("(0-7)%2", 1);
        sum("7%(0-2)", -1);
        sum("(0-7)%(0-2)", -1);
        sum("(0-8)%2", 0);
        sum("5/0", 0);
        sum("5%0", 0);
        sum("1+5/0", 1);
        sum("5/(2-2)*9+4", 4);
        sum("0/5", 0);
        sum("min(3,9)-max(3,9)", -6);
        sum("min(9,3)+max(9,3)*2", 21);
        sum("min(0-1,1)", -1);
        sum("if(1<2,3,4)*10+if(1>2,3,4)", 34);
        sum("if(all,if(not all,1,2),3)", 2);
        sum("1+if(all,2,3)*4-5", 4);
    }

    private static void limits() {
        sum("9999*9999", 1000000);
        sum("1000*1000", 1000000);
        sum("1000*1000+1", 1000000);
        sum("1000*1000+1-1", 999999);
        sum("0-1000*1000", -1000000);
        sum("0-1000*1000-1", -1000000);
        sum("0-1000*1000-1+1", -999999);
        sum("(0-9999)*9999", -1000000);
        sum("9999*9999/1000", 1000);
        sum("9999*9999*9999/9999", 100);
        sum("(0-1000*1000)/(0-1)", 1000000);
        sum("(1000*1000)*(1000*1000)", 1000000);
        sum("999*1001", 999999);
    }

    private static void tests() {
        test("1<2", true);
        test("2<2", false);
        test("2>1", true);
        test("2>2", false);
        test("2=2", true);
        test("2=3", false);
        test("1+1=4/2", true);
        test("all", true);
        test("not all", false);
        test("not not all", true);
        test("not 1>2", true);
        test("not 1<2", false);
        test("not 2>1", false);
        test("not 1=1", false);
        test("1<2 and all", true);
        test("2>1 and all", true);
        test("1=1 and all", true);
        test("1<2 and not 2<1 and 2>1 and 1=1", true);
        test("all or not all and not all", true);
        test("[all or not all]and not all", false);
        test("not all and not all or all", true);
        test("not all and [not all or all]", false);
        test("not all or not all or all", true);
        test("all and all and not all", false);
        test("not all and all or all and all", true);
        test("not all or all and not all or not all", false);
        test("not [all and not all]", true);
        test("not not all and not all", false);
        test("not all or all", true);
        test("(1+2)*3>(8)", true);
        test("[[1<2]]", true);
        test("1<2 and 2<3 or 1>2 and 2>3", true);
        test("min(1,2)=1 and if(1<2,1,0)=1", true);
    }

    private static void facts() {
        ThrownVoices x = town("if(minute<2,0,1000*minute+100*waits+10*load+long)");
        x.minutes(2);
        Check.due("ahead", x.picks(0, 0), 2000 + 200 + 20);
        Check.due("ahead", x.picks(1, 0), 2000 + 100 + 4);
        x.minutes(1);
        Check.due("it SOUNDS by the first", x.saying(0, 5), 0);
        Check.due("load", x.picks(1, 0), 3000 + 100 + 10 + 4);
        Check.due("load of the second", x.picks(1, 1), 3000 + 100 + 10 + 4);
        Check.due("waits no more", x.picks(0, 1), 3000 + 200 + 10 + 20);
        // mixes asks behind the pick: it is busy too; hush asks behind its MINUTE of waiting.
        String many = "voice v pitch 7;voice w pitch 2;person p pitch 3 calm 50;person q pitch 4 calm 2;"
                + "wants p at 0 long 20;wants p at 0 long 4;wants p at 2 long 3;wants q at 2 long 3;";
        mixed(many, "busy=1", 1, 0);
        mixed(many, "busy=2", 0, 1);
        mixed(many, "busy>2", 0, 0);
        mixed(many, "pitch=7", 0, 1);
        mixed(many, "pitch=2", 1, 0);
        mixed(many, "long=20", 1, 0);
        mixed(many, "tone=3", 1, 1);
        mixed(many, "waits=0 and minute=0", 1, 1);
        hushed(many, "waits>0", 2);
        hushed(many, "waits>1", 3);
        hushed(many, "waits=1 and minute=2", 2);
        hushed(many, "minute=3", 3);
        hushed(many, "calm=50 and tone=3 and long=3", 2);
        ThrownVoices y = Check.town(many + "hush calm=2;");
        y.minutes(3);
        Check.due("calm", y.saying(3, 3) * 10 + y.saying(2, 3), 41);
        ThrownVoices z = Check.town(many);
        z.minutes(4);
        Check.due("calm without hush", z.saying(3, 3), 1);
        z.minutes(1);
        Check.due("calm without hush", z.saying(3, 3), 4);
        Check.due("the next by the one that is said", z.saying(2, 3), 2);
        counts();
    }

    private static void mixed(String town, String test, int first, int second) {
        ThrownVoices x = Check.town(town + "mixes " + test + ";");
        x.minutes(1);
        Check.due("by w, the nearest to 3", x.saying(0, 5) * 10 + x.saying(1, 5), 10);
        Check.due("mixes " + test, x.saying(0, 7), first);
        Check.due("mixes " + test, x.saying(1, 7), second);
    }

    private static void hushed(String town, String test, int minute) {
        ThrownVoices x = Check.town(town + "hush " + test + ";");
        Check.due("hush " + test, x.ends(2), minute + 1);
    }

    /** waits and load go no further than 99. */
    private static void counts() {
        ThrownVoices x = Check.town("person p pitch 3 calm 99;wants p at 0 long 1;");
        x.minutes(60);
        x.minutes(39);
        Check.due("waited 99", x.saying(0, 4), 99);
        x.minutes(60);
        Check.due("waited 99 still", x.saying(0, 4), 99);
        Check.due("and is not HUSHED by calm 99", x.saying(0, 3), 1);
        ThrownVoices y = Check.town("voice v pitch 3;person p pitch 3 calm 9;wants p at 0 long 1;picks load;");
        int[] image = Check.image(y);
        image[4] = 99;
        int c = 199;
        for (int k = 0; k < image.length - 1; k++) c = (5 * c + image[k]) % 251;
        image[image.length - 1] = c;
        Check.put(y, image);
        Check.due("on()", y.on(), true);
        Check.due("load", y.picks(0, 0), 99);
        y.minutes(1);
        Check.due("begun 99 still", y.voice(0, 2), 99);
        Check.due("SAID", y.saying(0, 3), 3);
    }
}
