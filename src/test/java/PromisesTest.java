/** For each promise: ordinary inputs, the edges that the document names, and wrong inputs. */
public final class PromisesTest {
    private static final Check CHECK = new Check();
    private static final int NONE = BreathRoad.NONE;
    private static final int NOTHING = BreathRoad.NOTHING;
    private static final String ROAD = "tunnel low gap 5 at 4 weighs 3 at 10 weighs 1;tunnel far gap 0 at 12 weighs 1;"
        + "holder ann breath 6 laughs 0;holder bob breath 12 laughs 0;holder cy breath 3 laughs 0;thinks ann far 20;"
        + "gives bob 9;worth if(made=1,20+last*5,held)+beaten*2;tires breath-held/2;seen 25;fine 30;";

    private static void due(String call, long got, long want) {
        CHECK.due(call, got, want);
    }

    private static void due(String call, boolean got, boolean want) {
        CHECK.due(call, got, want);
    }

    public static void main(String[] args) {
        newObject();
        feedAndEnd();
        road();
        fault();
        has();
        letter();
        tunnel();
        holder();
        score();
        likely();
        holds();
        made();
        worth();
        sums();
        deepestSum();
        tired();
        alone();
        on();
        rest();
        hidden();
        pace();
        whom();
        facesAndFit();
        drive();
        laughs();
        pause();
        believe();
        give();
        undo();
        seed();
        kept();
        imageAndOctet();
        goOn();
        fullSize();
        askedAgain();
        status();
        CHECK.finish();
    }

    private static void newObject() {
        due("NONE", NONE, -1);
        due("NOTHING", NOTHING, -1000000000);
        BreathRoad x = new BreathRoad();
        for (int what = 0; what < 7; what++) {
            due("new: has " + what, x.has(what), 0);
        }
        due("new: seed", x.has(7), 1);
        due("new: fault", x.fault(0), 0);
        due("new: place", x.fault(1), NONE);
        for (int what = 0; what < 5; what++) {
            due("new: status " + what, x.status(what), 0);
        }
        due("new: tunnel", x.tunnel(0, 0), NONE);
        due("new: holder", x.holder(0, 0), NONE);
        due("new: score", x.score(0), NOTHING);
        due("new: kept", x.kept(0, 0), NONE);
        due("new: octet", x.octet(0), NONE);
        due("new: fit", x.fit(0), NONE);
        due("new: pace", x.pace(0, 0, 0), NONE);
        due("new: on", x.on(0, 1, 0), NOTHING);
        due("new: pause", x.pause(), 0);
        due("new: has an act", x.has(6), 1);
    }

    private static void feedAndEnd() {
        BreathRoad x = new BreathRoad();
        for (int i = 1; i <= 80; i++) {
            due("feed", x.feed(0x20202020, 0x20202020, 0x20202020, 0x20202020, 0x20202020), 20 * i);
        }
        due("feed, 1620", x.feed(0, 0, 0, 0, 0), NONE);
        due("refused", x.status(0), 1);
        due("end 1601", x.end(1601), false);
        due("end -1", x.end(-1), false);
        due("refused", x.status(0), 3);
        due("end 1600", x.end(1600), true);
        due("feed, 1620", x.feed(0, 0, 0, 0, 0), NONE);
        due("end 1581", x.end(1581), true);
        due("feed, 1601", x.feed(0, 0, 0, 0, 0), NONE);
        due("end 1580", x.end(1580), true);
        due("feed, 1600", x.feed(0, 0, 0, 0, 0), 1600);
        due("end 0", x.end(0), true);
        due("feed", x.feed('s' << 24 | 'e' << 16 | 'e' << 8 | 'n', ' ' << 24 | '7' << 16 | ';' << 8 | 0xff, -1, -1, -1), 20);
        due("end 7", x.end(7), true);
        due("road", x.road(), 1);
        due("seen", x.has(2), 7);
        due("the tape is gone", x.end(1), false);
    }

    private static void road() {
        BreathRoad x = Check.of(ROAD);
        due("drive", x.drive(1), 11);
        due("faces", Check.put(x, 0, 4), true);
        due("faces", x.faces(0), 1);
        x.image();
        int seed = x.has(7);
        due("fault keeps all", Check.road(x, "seen"), NONE);
        due("refused", x.status(1), 1);
        due("has next", x.has(4), 1);
        due("has kept", x.has(5), 3);
        due("has acts", x.has(6), 1);
        due("fit", x.fit(0) != NONE, true);
        due("score", x.score(0), 27);
        due("road", Check.road(x, ROAD), 11);
        due("next", x.has(4), 0);
        due("kept", x.has(5), 0);
        due("acts", x.has(6), 0);
        due("undo", x.undo(), false);
        due("fit", x.fit(0), NONE);
        due("score", x.score(0), 0);
        due("breath", x.holder(0, 0), 6);
        due("the seed stays", x.has(7), seed);
        due("the image stays", x.octet(0), 1);
        due("empty road", Check.road(x, ""), 0);
        due("tunnels", x.has(0), 0);
        due("holders", x.has(1), 0);
        due("seen", x.has(2), 0);
        due("fine", x.has(3), 0);
        due("no worth is left", Check.road(x, "holder a breath 5 laughs 0;tunnel t gap 0 at 1 weighs 1;"), 2);
        due("worth", x.worth(0, 0, 1), 0);
        due("tired", x.tired(0, 0, 1, 1), 5);
        due("thinks", x.holder(0, 10), 0);
        due("gives", x.holder(0, 3), 60);
    }

    private static void fault() {
        BreathRoad x = new BreathRoad();
        due("road", Check.road(x, "seen 1;;"), NONE);
        due("fault", x.fault(0), 1);
        due("place", x.fault(1), 7);
        due("other", x.fault(2), NONE);
        due("other", x.fault(-1), NONE);
        due("road", Check.road(x, "seen 1;"), 1);
        due("fault", x.fault(0), 0);
        due("place", x.fault(1), NONE);
    }

    private static void has() {
        BreathRoad x = Check.of(ROAD + "seen 26;fine 31;");
        int[] want = {2, 3, 26, 31, 0, 0, 0, 1};
        for (int what = 0; what < want.length; what++) {
            due("has " + what, x.has(what), want[what]);
        }
        due("has -1", x.has(-1), NONE);
        due("has 8", x.has(8), NONE);
        x.drive(1);
        due("next", x.has(4), 1);
        due("kept", x.has(5), 3);
        due("acts", x.has(6), 1);
        due("seed", x.has(7), 1103527590);
    }

    private static void letter() {
        BreathRoad x = Check.of("tunnel azbycx gap 0 at 1 weighs 1;holder z breath 1 laughs 0;");
        int[] want = {1, 26, 2, 25, 3, 24};
        for (int k = 0; k < 6; k++) {
            due("letter " + k, x.letter(0, 0, k), want[k]);
            due("letter " + k, x.letter(1, 0, k), k == 0 ? 26 : 0);
        }
        due("letter 6", x.letter(0, 0, 6), NONE);
        due("letter -1", x.letter(0, 0, -1), NONE);
        due("none such", x.letter(0, 1, 0), NONE);
        due("none such", x.letter(1, 1, 0), NONE);
        due("none such", x.letter(1, -1, 0), NONE);
        due("kind 2", x.letter(2, 0, 0), NONE);
        due("kind -1", x.letter(-1, 0, 0), NONE);
    }

    private static void tunnel() {
        BreathRoad x = Check.of("tunnel a gap 99 at 60 weighs 9 at 1 weighs 8 at 30 weighs 7 at 2 weighs 6;"
            + "tunnel b gap 0 at 5 weighs 1;");
        int[] want = {99, 4, 30};
        for (int what = 0; what < 3; what++) {
            due("tunnel " + what, x.tunnel(0, what), want[what]);
        }
        int[] lengths = {60, 1, 30, 2};
        for (int k = 0; k < 4; k++) {
            due("length " + k, x.tunnel(0, 10 + k), lengths[k]);
            due("weight " + k, x.tunnel(0, 20 + k), 9 - k);
        }
        for (int what : new int[] {-1, 3, 9, 14, 19, 24, 30, Integer.MAX_VALUE}) {
            due("tunnel " + what, x.tunnel(0, what), NONE);
        }
        due("one length", x.tunnel(1, 11), NONE);
        due("one weight", x.tunnel(1, 21), NONE);
        due("none such", x.tunnel(2, 0), NONE);
        due("none such", x.tunnel(-1, 0), NONE);
    }

    private static void holder() {
        BreathRoad x = Check.of(ROAD + "thinks ann far 21;thinks ann far 7;gives cy 8;gives cy 0;");
        x.drive(1);
        due("breath now", x.holder(0, 0), 4);
        due("breath at first", x.holder(0, 1), 6);
        due("laughs", x.holder(0, 2), 0);
        due("gives", x.holder(0, 3), 60);
        due("gives, the last one", x.holder(2, 3), 0);
        due("believes", x.holder(0, 10), 0);
        due("believes, the last one", x.holder(0, 11), 7);
        for (int what : new int[] {-1, 4, 9, 12, 16, Integer.MIN_VALUE}) {
            due("holder " + what, x.holder(0, what), NONE);
        }
        due("none such", x.holder(3, 0), NONE);
        due("none such", x.holder(-1, 0), NONE);
    }

    private static void score() {
        BreathRoad x = Check.of(ROAD);
        due("score", x.score(0), 0);
        x.drive(2);
        due("score", x.score(0), 27);
        due("score", x.score(1), 40);
        due("score", x.score(2), 7);
        due("none such", x.score(3), NOTHING);
        due("none such", x.score(-1), NOTHING);
        x = Check.of("tunnel t gap 0 at 1 weighs 1;holder a breath 5 laughs 0;holder b breath 5 laughs 0;gives b 0;"
            + "worth made*2000-1000;");
        x.drive(30);
        due("score by the most", x.score(0), 29970);
        due("score by the least", x.score(1), -29970);
        x.drive(30);
        x.drive(30);
        x.drive(30);
        due("score at most", x.score(0), 99999);
        due("score at least", x.score(1), -99999);
        x.give(0, 0);
        x.drive(1);
        due("score from there", x.score(0), 99999 - 999);
    }

    private static void likely() {
        BreathRoad x = Check.of("tunnel t gap 0 at 5 weighs 1 at 3 weighs 1 at 60 weighs 1;");
        due("likely", x.likely(0, 0), 1000);
        due("likely", x.likely(0, 2), 1000);
        due("likely", x.likely(0, 3), 666);
        due("likely", x.likely(0, 5), 333);
        due("likely", x.likely(0, 60), 0);
        due("likely", x.likely(0, Integer.MAX_VALUE), 0);
        due("below", x.likely(0, -1), NONE);
        due("none such", x.likely(1, 0), NONE);
        due("none such", x.likely(-1, 0), NONE);
    }

    private static void holds() {
        BreathRoad x = Check.of("tunnel t gap 0 at 5 weighs 1;holder a breath 10 laughs 50;");
        due("its length", x.holds(0, 0, 9), 9);
        due("his breath", x.holds(0, 0, 60), 10);
        x.give(0, 7);
        due("gives up", x.holds(0, 0, 9), 7);
        x.believe(0, 0, 7);
        due("believes it as long", x.holds(0, 0, 9), 7);
        x.believe(0, 0, 8);
        due("believes it longer", x.holds(0, 0, 9), 0);
        due("believes it longer", x.holds(0, 0, 1), 0);
        x.give(0, 60);
        due("believes it less than his breath", x.holds(0, 0, 9), 9);
        x.believe(0, 0, 11);
        due("believes it longer than his breath", x.holds(0, 0, 9), 0);
        x.believe(0, 0, 0);
        x.give(0, 0);
        due("gives up at 0, believes nothing", x.holds(0, 0, 9), 0);
        due("length 0", x.holds(0, 0, 0), NONE);
        due("length 61", x.holds(0, 0, 61), NONE);
        due("none such", x.holds(1, 0, 5), NONE);
        due("none such", x.holds(0, 1, 5), NONE);
        due("none such", x.holds(-1, 0, 5), NONE);
        due("none such", x.holds(0, -1, 5), NONE);
    }

    private static void made() {
        BreathRoad x = Check.of("tunnel t gap 0 at 5 weighs 1 at 9 weighs 2 at 2 weighs 3;holder a breath 5 laughs 0;");
        due("made", x.made(0, 0), 666);
        x.give(0, 4);
        due("made", x.made(0, 0), 500);
        x.believe(0, 0, 5);
        due("made", x.made(0, 0), 0);
        due("none such", x.made(1, 0), NONE);
        due("none such", x.made(0, 1), NONE);
    }

    private static void worth() {
        BreathRoad x = Check.of("tunnel t gap 7 at 5 weighs 1;holder a breath 5 laughs 0;holder b breath 9 laughs 0;"
            + "holder c breath 9 laughs 0;worth held*100+last*50+beaten*10+made*5-long+breath+gap;");
        due("a in 4", x.worth(0, 0, 4), 400 + 50 + 0 + 5 - 4 + 5 + 7);
        due("a in 6", x.worth(0, 0, 6), 500 + 0 + 0 + 0 - 6 + 5 + 7);
        due("b in 6", x.worth(1, 0, 6), 600 + 50 + 10 + 5 - 6 + 9 + 7);
        x.give(2, 2);
        due("b in 6", x.worth(1, 0, 6), 600 + 50 + 20 + 5 - 6 + 9 + 7);
        due("c in 6", x.worth(2, 0, 6), 200 - 6 + 9 + 7);
        due("b in 60", x.worth(1, 0, 60), 900 + 50 + 20 - 60 + 9 + 7);
        due("length 0", x.worth(0, 0, 0), NOTHING);
        due("length 61", x.worth(0, 0, 61), NOTHING);
        due("none such", x.worth(3, 0, 5), NOTHING);
        due("none such", x.worth(0, 1, 5), NOTHING);
    }

    private static void sum(String text, int want) {
        BreathRoad x = Check.of("tunnel t gap 7 at 5 weighs 1;holder a breath 8 laughs 0;worth " + text + ";");
        due("worth " + text, x.worth(0, 0, 5), want);
    }

    private static void sums() {
        sum("1-2-3", -4);
        sum("2+3*4", 14);
        sum("(2+3)*4", 20);
        sum("7/2*2", 6);
        sum("(0-7)/2", -4);
        sum("(0-7)%2", 1);
        sum("7/(0-2)", -4);
        sum("7%(0-2)", -1);
        sum("100/7%5", 4);
        sum("5/0", 0);
        sum("5%0", 0);
        sum("5+3/0", 5);
        sum("9999*9999-9999*100", 100);
        sum("9999*9999/9999", 100);
        sum("(0-9999)*9999/9999", -101);
        sum("9999*100+9999-9999*100-100", 0);
        sum("1000*1000+1-9999*100", 100);
        sum("9999", 999);
        sum("0-9999", -999);
        sum("0-999", -999);
        sum("min(3,4)*10+max(3,4)", 34);
        sum("held+long*2+made*4+last*8+beaten*16+breath*32+gap*64", 5 + 10 + 4 + 8 + 0 + 256 + 448);
        sum("if(1<2,3,4)", 3);
        sum("if(2<1,3,4)", 4);
        sum("if(1=1,3,4)+if(2>1,10,20)+if(1>1,100,200)", 213);
        sum("if(not 1<2,3,4)", 4);
        for (String holds : new String[] {"1=1", "1<2", "2>1", "all", "[all]", "not 1=2"}) {
            sum("if(" + holds + " and all,3,4)", 3);
            sum("if(all and " + holds + ",3,4)", 3);
            sum("if(not " + holds + ",3,4)", 4);
            sum("if(not all or " + holds + ",3,4)", 3);
        }
        for (String fails : new String[] {"1=2", "2=1", "1<1", "2<1", "1>1", "1>2", "not all", "[not all]"}) {
            sum("if(" + fails + " and all,3,4)", 4);
            sum("if(" + fails + ",3,4)", 4);
            sum("if(not " + fails + ",3,4)", 3);
            sum("if(" + fails + " or " + fails + ",3,4)", 4);
        }
        sum("if(not all or all,3,4)", 3);
        sum("if(not [all or all],3,4)", 4);
        sum("if(all or all and not all,3,4)", 3);
        sum("if([all or all]and not all,3,4)", 4);
        sum("if(not all and all or all,3,4)", 3);
        sum("if(not not all,3,4)", 3);
        sum("if(if(1<2,0,1)<if(2<1,0,1),min(if(all,7,8),9),4)", 7);
        sum("1+if(1<2,10,20)+if(1>2,100,200)*2", 411);
        BreathRoad x = Check.of("tunnel t gap 7 at 5 weighs 1;holder a breath 8 laughs 0;");
        due("worth without", x.worth(0, 0, 5), 0);
        due("tires without", x.tired(0, 0, 5, 5), 8);
    }

    /** Everything that a sum can leave open, seven times. */
    private static void deepestSum() {
        String deep = "1";
        int want = 1;
        for (int i = 0; i < 7; i++) {
            deep = "1+1*if(1>2 or 1<2 and 1<1+1*" + deep + ",5,6)";
            want = 1 + (1 < 1 + want ? 5 : 6);
        }
        sum(deep, want);
        sum("((((((0-1+2*(held-long+2)*3-1))))))", 10);
        StringBuilder many = new StringBuilder("0");
        for (int i = 0; i < 700; i++) {
            many.append("+1");
        }
        sum(many.toString(), 700);
    }

    private static void tired() {
        BreathRoad x = Check.of("tunnel t gap 7 at 5 weighs 1;holder a breath 8 laughs 0;holder b breath 9 laughs 0;"
            + "tires held*1000+last*20+beaten*30+made*4-long+breath-held*1000;");
        due("alone", x.tired(0, 0, 6, 3), 20 - 6 + 8);
        due("alone, made", x.tired(0, 0, 6, 6), 20 + 4 - 6 + 8);
        due("held 0", x.tired(0, 0, 60, 0), 0);
        due("longer than his breath", x.tired(0, 0, 30, 20), 0);
        due("held all of 60", x.tired(0, 0, 60, 60), 0);
        due("held longer", x.tired(0, 0, 6, 7), NONE);
        due("held -1", x.tired(0, 0, 6, -1), NONE);
        due("held 61", x.tired(0, 0, 60, 61), NONE);
        due("length 0", x.tired(0, 0, 0, 0), NONE);
        due("length 61", x.tired(0, 0, 61, 5), NONE);
        due("none such", x.tired(2, 0, 6, 3), NONE);
        due("none such", x.tired(0, 1, 6, 3), NONE);
        x = Check.of("tunnel t gap 7 at 5 weighs 1;holder a breath 8 laughs 0;tires 20*gap;");
        due("60 at most", x.tired(0, 0, 6, 3), 60);
    }

    private static void alone() {
        String start = "tunnel t gap 0 at 4 weighs 1 at 8 weighs 2;holder a breath 6 laughs 0;holder b breath 9 laughs 0;";
        BreathRoad x = Check.of(start + "worth made*9-held;");
        due("a's second", x.alone(0, 0, 0), 0);
        due("a's mean", x.alone(0, 0, 1), 0);
        due("b's second", x.alone(1, 0, 0), 8);
        due("b's mean, (5 + 2) / 3", x.alone(1, 0, 1), 2333);
        x.believe(1, 0, 60);
        x.give(1, 1);
        due("beliefs count for nothing", x.alone(1, 0, 0), 8);
        x = Check.of(start + "worth 0-1-made*last-beaten;");
        due("like ones", x.alone(0, 0, 0), 0);
        due("below 0", x.alone(0, 0, 1), -1000);
        x = Check.of(start + "worth 0-if(long=4,1,0)-last;");
        due("the floor below 0", x.alone(0, 0, 1), -1334);
        due("what 2", x.alone(0, 0, 2), NOTHING);
        due("what -1", x.alone(0, 0, -1), NOTHING);
        due("none such", x.alone(2, 0, 0), NOTHING);
        due("none such", x.alone(0, 1, 0), NOTHING);
        due("none such", x.alone(-1, 0, 0), NOTHING);
    }

    private static void on() {
        BreathRoad x = Check.of(ROAD);
        due("over 1", x.on(0, 1, 1), 20250);
        due("over 2, the second", x.on(0, 2, 0), 5);
        due("over 2", x.on(0, 2, 1), 24000);
        x = Check.of("tunnel t gap 0 at 10 weighs 1;holder a breath 10 laughs 0;worth held;tires breath-held;");
        for (int n = 1; n <= 4; n++) {
            due("ten seconds in all", x.on(0, n, 1), 10000);
            due("the least second", x.on(0, n, 0), n == 1 ? 10 : 0);
        }
        x = Check.of("tunnel a gap 0 at 10 weighs 1;tunnel b gap 3 at 10 weighs 1;holder h breath 10 laughs 0;"
            + "worth held*(gap+1);tires breath-held;");
        due("kept for the second tunnel", x.on(0, 2, 0), 0);
        due("kept for the second tunnel", x.on(0, 2, 1), 40000);
        due("the first again", x.on(0, 3, 1), 40000);
        due("drive on", x.drive(1) >= 0 && x.pause() >= 0, true);
        due("from the next one on", x.on(0, 2, 0), 10);
        due("what 2", x.on(0, 2, 2), NOTHING);
        due("what -1", x.on(0, 2, -1), NOTHING);
        due("n 0", x.on(0, 0, 0), NOTHING);
        due("n 5", x.on(0, 5, 0), NOTHING);
        due("none such", x.on(1, 1, 0), NOTHING);
        due("no tunnels", Check.of("holder h breath 10 laughs 0;").on(0, 1, 0), NOTHING);
    }

    private static void rest() {
        String start = "tunnel t gap 0 at 10 weighs 1;holder a breath 9 laughs 0;holder b breath 9 laughs 0;";
        BreathRoad x = Check.of(start + "worth 7;");
        due("all alike: their own", x.rest(0, NONE), 1);
        due("all alike: their own", x.rest(0, 0), 9);
        x.believe(0, 0, 60);
        x.give(0, 2);
        due("what they believe is nothing", x.rest(0, 0), 9);
        x = Check.of(start + "worth 0-held;");
        due("nobody holds", x.rest(0, NONE), 2);
        due("nobody holds", x.rest(0, 0), 0);
        due("nobody holds", x.rest(0, 1), 0);
        due("none such", x.rest(0, 2), NONE);
        due("none such", x.rest(0, -2), NONE);
        due("none such", x.rest(1, NONE), NONE);
        due("none such", x.rest(-1, 0), NONE);
        due("no holders", Check.of("tunnel t gap 0 at 10 weighs 1;").rest(0, NONE), 1);
        x = Check.of(start + "worth if(held=beaten*3,9,0)+made-held/5;");
        due("both take 0 in the first round", x.rest(0, NONE), 2);
        due("a takes 0", x.rest(0, 0), 0);
        due("b takes 0, the least of 0 and 3", x.rest(0, 1), 0);
        x = Check.of("tunnel t gap 0 at 1 weighs 1;holder a breath 1 laughs 0;holder b breath 2 laughs 0;"
            + "worth if(breath=1,if(last=1 and beaten=0,1,0),if(last=1 and beaten=0,0,1));");
        due("a wants to do as b, b otherwise", x.rest(0, NONE), 13);
        due("a behind 12 rounds", x.rest(0, 0), 0);
        due("b behind 12 rounds", x.rest(0, 1), 1);
        x.drive(1);
        x.give(0, 0);
        due("the same when asked again", x.rest(0, 1), 1);
    }

    private static void hidden() {
        String start = "tunnel t gap 0 at 4 weighs 1 at 8 weighs 2;holder a breath 6 laughs 0;worth made*9+last;";
        BreathRoad x = Check.of(start);
        due("never seen", x.hidden(0, 0, 1), 10000);
        due("it pays", x.hidden(0, 0, 0), 1);
        x = Check.of(start + "seen 100;fine 7;");
        due("always seen", x.hidden(0, 0, 1), -7000);
        due("it does not pay", x.hidden(0, 0, 0), 0);
        x = Check.of(start + "seen 60;fine 0;");
        due("as much as alone", x.hidden(0, 0, 1), 4000);
        due("alone", x.alone(0, 0, 1), 4000);
        due("not more: does not pay", x.hidden(0, 0, 0), 0);
        x = Check.of(start + "seen 59;fine 0;");
        due("more: pays", x.hidden(0, 0, 0), 1);
        x = Check.of(start + "seen 33;fine 999;");
        due("on the mean", x.hidden(0, 0, 1), 6700 - 329670);
        due("what 2", x.hidden(0, 0, 2), NOTHING);
        due("what -1", x.hidden(0, 0, -1), NOTHING);
        due("none such", x.hidden(1, 0, 0), NOTHING);
        due("none such", x.hidden(0, 1, 0), NOTHING);
    }

    private static void pace() {
        BreathRoad x = Check.of("tunnel t gap 0 at 3 weighs 1 at 9 weighs 2;holder a breath 2 laughs 0;"
            + "holder b breath 4 laughs 0;");
        due("nobody", x.pace(0, 0, 0), 1);
        due("nobody: in 9", x.pace(0, 0, 1), 666);
        due("b alone: 3, at 1; 4, at 2", x.pace(0, 2, 0), 2);
        due("b alone", x.pace(0, 2, 1), 666);
        due("both: 1 and 2, at 4", x.pace(0, 3, 0), 4);
        due("both", x.pace(0, 3, 1), 1000);
        due("a alone: never", x.pace(0, 1, 0), 1);
        due("a alone: never", x.pace(0, 1, 1), 0);
        due("none such", x.pace(0, 4, 0), NONE);
        due("none such", x.pace(0, -1, 0), NONE);
        due("none such", x.pace(1, 1, 0), NONE);
        due("what 2", x.pace(0, 1, 2), NONE);
        due("what -1", x.pace(0, 1, -1), NONE);
        x.believe(1, 0, 9);
        due("b believes it too long", x.pace(0, 1, 0), 4);
        x = Check.of("tunnel t gap 0 at 1 weighs 1;holder a breath 1 laughs 0;");
        due("1 at least", x.pace(0, 1, 1), 1000);
        x = Check.of("tunnel t gap 0 at 1 weighs 1 at 9 weighs 1;holder a breath 2 laughs 0;");
        due("1 at least, at 4 too", x.pace(0, 1, 0), 4);
        due("1 at least, at 4 too", x.pace(0, 1, 1), 1000);
    }

    private static void whom() {
        BreathRoad x = Check.of("tunnel t gap 0 at 10 weighs 1 at 5 weighs 2;holder a breath 6 laughs 0;"
            + "holder b breath 7 laughs 0;holder c breath 8 laughs 0;worth held*10+last*5+beaten;");
        due("a: of like ones the first", x.whom(0, 0, 0), 1);
        due("a: (61 + 2 * 56) / 3", x.whom(0, 0, 1), 57666);
        due("b makes c laugh", x.whom(1, 0, 0), 2);
        due("b: (77 + 2 * 56) / 3", x.whom(1, 0, 1), 63000);
        due("c makes a laugh", x.whom(2, 0, 0), 0);
        x.give(0, 0);
        x.give(1, 0);
        due("who holds 0 already is of no use", x.whom(2, 0, 0), NONE);
        due("what 2", x.whom(0, 0, 2), NOTHING);
        due("what -1", x.whom(0, 0, -1), NOTHING);
        due("none such", x.whom(3, 0, 0), NOTHING);
        due("none such", x.whom(0, 1, 0), NOTHING);
        x = Check.of("tunnel t gap 0 at 5 weighs 1;holder a breath 6 laughs 0;worth held;");
        due("no other", x.whom(0, 0, 0), NONE);
        due("no other", x.whom(0, 0, 1), 5000);
    }

    private static void facesAndFit() {
        BreathRoad x = Check.of("tunnel t gap 0 at 5 weighs 1 at 9 weighs 2 at 12 weighs 3;tunnel u gap 0 at 1 weighs 1;"
            + "holder a breath 6 laughs 0;holder b breath 10 laughs 0;");
        due("fit ahead of any", x.fit(0), NONE);
        due("put", Check.put(x, 0, 6), true);
        due("faces", x.faces(0), 1);
        due("the tape is gone", x.end(1), false);
        int[] want = {2, 6, 833};
        for (int what = 0; what < 3; what++) {
            due("a held 6: fit " + what, x.fit(what), want[what]);
        }
        due("fit 3", x.fit(3), NONE);
        due("fit -1", x.fit(-1), NONE);
        due("put", Check.put(x, 0, 6, 1, 9), true);
        due("faces", x.faces(0), 2);
        due("a held 6, b 9", x.fit(1), 2);
        x.give(0, 5);
        due("as all is now", x.fit(0), 0);
        due("as all is now", x.fit(1), 0);
        due("as all is now", x.fit(2), 0);
        x.undo();
        due("as all is now", x.fit(2), 333);
        due("put", Check.put(x, 0, 6, 0, 5), true);
        due("rows that do not go together", x.faces(0), 2);
        due("none", x.fit(0), 0);
        due("put", Check.put(x, 0, 5, 0, 5, 1, 5, 1, 5, 0, 5, 0, 5, 1, 5, 1, 5, 0, 5, 0, 5, 1, 5, 1, 5), true);
        due("12 rows", x.faces(0), 12);
        due("of 5", x.fit(1), 1);
        int refused = x.status(4);
        refusedFaces(x, 0);
        refusedFaces(x, 0, 0);
        refusedFaces(x, 0, 0, 5, 1);
        refusedFaces(x, 0, 2, 5);
        refusedFaces(x, 0, 255, 5);
        refusedFaces(x, 0, 0, 61);
        refusedFaces(x, 2, 0, 5);
        refusedFaces(x, -1, 0, 5);
        refusedFaces(x, 0, new int[26]);
        due("refused", x.status(4), refused + 9);
        due("all stays", x.fit(1), 1);
        due("put", Check.put(x, 0, 1, 1, 0), true);
        due("seconds 0 and of another tunnel", x.faces(1), 2);
        due("none", x.fit(0), 0);
        due("put", Check.put(x, 0, 60), true);
        due("60 seconds", x.faces(1), 1);
    }

    private static void refusedFaces(BreathRoad x, int tunnel, int... bytes) {
        due("put", Check.put(x, bytes), true);
        due("faces of " + bytes.length + " bytes", x.faces(tunnel), NONE);
        due("the tape is gone", x.end(1), false);
        x.feed(0, 0, 0, 0, 0);
        x.end(0);
    }

    private static void drive() {
        BreathRoad x = Check.of(ROAD);
        due("low, 4 long", x.drive(1), 11);
        int[] scores = {27, 27, 3};
        int[] breaths = {4, 10, 2};
        int[] held = {4, 4, 3};
        for (int h = 0; h < 3; h++) {
            due("score " + h, x.score(h), scores[h]);
            due("breath " + h, x.holder(h, 0), breaths[h]);
            int[] row = {0, 4, h, held[h]};
            for (int what = 0; what < 4; what++) {
                due("kept " + h + ", " + what, x.kept(h, what), row[what]);
            }
        }
        due("next", x.has(4), 1);
        due("far, 12 long", x.drive(1), 11);
        due("next", x.has(4), 0);
        due("score", x.score(2), 7);
        due("breath", x.holder(1, 0), 6);
        due("acts", x.has(6), 2);
        for (int n : new int[] {0, -1, 31, Integer.MAX_VALUE}) {
            due("drive " + n, x.drive(n), NONE);
        }
        due("refused", x.status(2), 4);
        due("acts", x.has(6), 2);
        due("30 is one act", x.drive(30) >= 0, true);
        due("acts", x.has(6), 3);
        due("next", x.has(4), 0);
        due("no tunnels", Check.of("holder a breath 5 laughs 0;").drive(1), NONE);
        x = Check.of("tunnel t gap 0 at 5 weighs 1 at 6 weighs 9;");
        due("no holders", x.drive(7), 0);
        due("no holders: a draw each", x.has(7) != 1, true);
        due("no holders: none kept", x.has(5), 0);
        x = Check.of("tunnel t gap 0 at 5 weighs 1;holder a breath 9 laughs 0;holder b breath 3 laughs 0;tires beaten*10+last;");
        x.drive(1);
        due("tired among all", x.holder(0, 0), 11);
        due("tired among all", x.holder(1, 0), 0);
    }

    /** The draws made once more here, by the document's words. */
    private static void laughs() {
        BreathRoad x = Check.of("tunnel t gap 0 at 20 weighs 2 at 9 weighs 3 at 30 weighs 4;holder a breath 25 laughs 5;"
            + "holder b breath 40 laughs 0;holder c breath 12 laughs 50;holder d breath 60 laughs 1;worth held;");
        due("seed", x.seed(2147483647), true);
        long seed = 2147483647L;
        int[] breath = {25, 40, 12, 60};
        int[] laughs = {5, 0, 50, 1};
        for (int i = 0; i < 40; i++) {
            seed = (1103515245L * seed + 12345) % 2147483648L;
            long which = seed / 64 % 9;
            int length = which < 2 ? 20 : which < 5 ? 9 : 30;
            int all = 0;
            int[] held = new int[4];
            for (int h = 0; h < 4; h++) {
                held[h] = Math.min(length, breath[h]);
                for (int s = 1; laughs[h] > 0 && s <= held[h]; s++) {
                    seed = (1103515245L * seed + 12345) % 2147483648L;
                    if (seed / 64 % 100 < laughs[h]) {
                        held[h] = s - 1;
                        break;
                    }
                }
                all += held[h];
            }
            due("drive", x.drive(1), all);
            due("seed", x.has(7), seed);
            int told = x.has(5);
            for (int h = 0; h < 4; h++) {
                due("length", x.kept(told - 4 + h, 1), length);
                due("held", x.kept(told - 4 + h, 3), held[h]);
            }
        }
    }

    private static void pause() {
        BreathRoad x = Check.of(ROAD);
        x.drive(2);
        due("more", x.pause(), 10);
        due("breath", x.holder(1, 0), 12);
        due("no more", x.pause(), 0);
        due("acts", x.has(6), 3);
        x = Check.of("tunnel t gap 0 at 5 weighs 1;holder a breath 5 laughs 0;tires 100;");
        x.drive(1);
        due("breath", x.holder(0, 0), 60);
        due("less", x.pause(), -55);
        due("breath", x.holder(0, 0), 5);
        x.undo();
        due("breath", x.holder(0, 0), 60);
    }

    private static void believe() {
        BreathRoad x = Check.of(ROAD);
        due("what he believed", x.believe(0, 1, 60), 20);
        due("what he believed", x.believe(0, 1, 0), 60);
        due("what he believed", x.believe(0, 1, 0), 0);
        due("holds", x.holds(0, 1, 5), 5);
        due("acts", x.has(6), 3);
        due("61", x.believe(0, 1, 61), NONE);
        due("-1", x.believe(0, 1, -1), NONE);
        due("none such", x.believe(3, 1, 5), NONE);
        due("none such", x.believe(0, 2, 5), NONE);
        due("none such", x.believe(-1, 0, 5), NONE);
        due("none such", x.believe(0, -1, 5), NONE);
        due("refused", x.status(2), 6);
        due("acts", x.has(6), 3);
    }

    private static void give() {
        BreathRoad x = Check.of(ROAD);
        due("when he gave up", x.give(1, 0), 9);
        due("when he gave up", x.give(1, 60), 0);
        due("when he gave up", x.give(0, 4), 60);
        due("gives", x.holder(0, 3), 4);
        due("acts", x.has(6), 3);
        due("61", x.give(0, 61), NONE);
        due("-1", x.give(0, -1), NONE);
        due("none such", x.give(3, 5), NONE);
        due("none such", x.give(-1, 5), NONE);
        due("refused", x.status(2), 4);
        due("acts", x.has(6), 3);
    }

    private static void undo() {
        BreathRoad x = Check.of(ROAD);
        due("nothing to undo", x.undo(), false);
        due("refused", x.status(3), 1);
        for (int i = 1; i <= 23; i++) {
            due("give", x.give(0, i) >= 0, true);
            due("acts", x.has(6), Math.min(20, i));
        }
        for (int i = 22; i >= 3; i--) {
            due("undo", x.undo(), true);
            due("gives", x.holder(0, 3), i);
        }
        due("no more", x.undo(), false);
        due("gives", x.holder(0, 3), 3);
        due("refused", x.status(3), 2);
        x = Check.of(ROAD);
        x.drive(1);
        x.believe(2, 1, 33);
        int seed = x.has(7);
        x.drive(3);
        int after = x.has(7);
        due("undo", x.undo(), true);
        due("the seed stays", x.has(7), after);
        due("the seed went on", after != seed, true);
        due("next", x.has(4), 1);
        due("kept", x.has(5), 3);
        due("kept", x.kept(2, 3), 3);
        due("score", x.score(0), 27);
        due("breath", x.holder(1, 0), 10);
        due("undo", x.undo(), true);
        due("believes", x.holder(2, 11), 0);
        due("undo", x.undo(), true);
        due("kept", x.has(5), 0);
        due("next", x.has(4), 0);
        due("score", x.score(0), 0);
        due("breath", x.holder(1, 0), 12);
    }

    private static void seed() {
        BreathRoad x = new BreathRoad();
        due("seed", x.seed(0), true);
        due("seed", x.has(7), 0);
        due("seed", x.seed(Integer.MAX_VALUE), true);
        due("below 0", x.seed(-1), false);
        due("below 0", x.seed(Integer.MIN_VALUE), false);
        due("refused", x.status(4), 2);
        due("stays", x.has(7), Integer.MAX_VALUE);
        due("no act", x.has(6), 0);
    }

    private static void kept() {
        StringBuilder text = new StringBuilder("tunnel t gap 0 at 5 weighs 1 at 50 weighs 1;tunnel u gap 0 at 7 weighs 1;");
        for (char c = 'a'; c < 'f'; c++) {
            text.append("holder h").append(c).append(" breath ").append(40 + c - 'a').append(" laughs 9;");
        }
        BreathRoad x = Check.of(text.toString());
        x.drive(9);
        due("45 kept", x.has(5), 45);
        due("the oldest", x.kept(0, 2), 0);
        due("behind", x.kept(45, 0), NONE);
        x.drive(1);
        due("the last 48 of 50", x.has(5), 48);
        due("the oldest is holder 2 of the first tunnel", x.kept(0, 2), 2);
        due("tunnel", x.kept(0, 0), 0);
        due("the latest", x.kept(47, 2), 4);
        due("the latest's tunnel", x.kept(47, 0), 1);
        due("the latest's length", x.kept(47, 1), 7);
        due("behind", x.kept(48, 0), NONE);
        due("ahead", x.kept(-1, 0), NONE);
        due("what 4", x.kept(0, 4), NONE);
        due("what -1", x.kept(0, -1), NONE);
        int[] rows = new int[48 * 4];
        for (int i = 0; i < rows.length; i++) {
            rows[i] = x.kept(i / 4, i % 4);
        }
        x.drive(30);
        x.drive(30);
        x.undo();
        x.undo();
        for (int i = 0; i < rows.length; i++) {
            due("kept as ahead of it, " + i, x.kept(i / 4, i % 4), rows[i]);
        }
    }

    private static void imageAndOctet() {
        BreathRoad x = new BreathRoad();
        due("octet ahead of any", x.octet(0), NONE);
        due("image", x.image(), 2);
        due("octet", x.octet(0), 0);
        due("octet", x.octet(1), 535 % 251);
        due("octet behind", x.octet(2), NONE);
        due("octet -1", x.octet(-1), NONE);
        x = Check.of(ROAD);
        x.drive(1);
        due("image", x.image(), 23);
        int[] want = {1, 4, 60, 1, 134, 187, 0, 20, 10, 9, 1, 134, 187, 0, 0, 2, 60, 1, 134, 163, 0, 0};
        int c = 107;
        for (int k = 0; k < want.length; k++) {
            due("octet " + k, x.octet(k), want[k]);
            c = (5 * c + want[k]) % 251;
        }
        due("the last octet", x.octet(22), c);
        due("octet 23", x.octet(23), NONE);
        x.give(0, 5);
        due("of the latest image", x.octet(2), 60);
        due("no act", x.has(6), 2);
    }

    private static int[] closed(int... bytes) {
        int[] all = java.util.Arrays.copyOf(bytes, bytes.length + 1);
        int c = 107;
        for (int octet : bytes) {
            c = (5 * c + octet) % 251;
        }
        all[bytes.length] = c;
        return all;
    }

    private static void refusedImage(BreathRoad x, String why, int... bytes) {
        int before = x.status(4);
        due("put", Check.put(x, bytes), true);
        due(why, x.goOn(), false);
        due("refused", x.status(4), before + 1);
        due("the tape is gone", x.end(1), false);
        due("all stays", x.holder(0, 3), 33);
        due("acts stay", x.has(6), 1);
    }

    private static void goOn() {
        BreathRoad x = Check.of("tunnel t gap 0 at 5 weighs 1;tunnel u gap 0 at 6 weighs 1;holder a breath 5 laughs 0;");
        x.give(0, 33);
        refusedImage(x, "an empty tape");
        refusedImage(x, "one byte short", closed(0, 5, 60, 1, 134, 160, 0));
        refusedImage(x, "one byte more", closed(0, 5, 60, 1, 134, 160, 0, 0, 0));
        refusedImage(x, "a tunnel that is not there", closed(2, 5, 60, 1, 134, 160, 0, 0));
        refusedImage(x, "61 seconds of breath", closed(0, 61, 60, 1, 134, 160, 0, 0));
        refusedImage(x, "61 seconds to give up", closed(0, 5, 61, 1, 134, 160, 0, 0));
        refusedImage(x, "61 seconds believed", closed(0, 5, 60, 1, 134, 160, 0, 61));
        refusedImage(x, "61 seconds believed of the first", closed(0, 5, 60, 1, 134, 160, 61, 0));
        refusedImage(x, "a score of -100000", closed(0, 5, 60, 0, 0, 0, 0, 0));
        refusedImage(x, "a score of 100000", closed(0, 5, 60, 3, 13, 64, 0, 0));
        refusedImage(x, "a great score", closed(0, 5, 60, 255, 255, 255, 0, 0));
        int[] wrong = closed(0, 5, 60, 1, 134, 160, 0, 0);
        wrong[8] = (wrong[8] + 1) % 251;
        refusedImage(x, "a wrong last byte", wrong);
        x.drive(1);
        due("put", Check.put(x, 0, 5), true);
        due("faces", x.faces(0), 1);
        int seed = x.has(7);
        due("put", Check.put(x, closed(1, 60, 0, 0, 0, 1, 60, 0)), true);
        due("goOn", x.goOn(), true);
        due("next", x.has(4), 1);
        due("breath", x.holder(0, 0), 60);
        due("breath at first", x.holder(0, 1), 5);
        due("gives", x.holder(0, 3), 0);
        due("score", x.score(0), -99999);
        due("believes", x.holder(0, 10), 60);
        due("believes", x.holder(0, 11), 0);
        due("nothing is kept", x.has(5), 0);
        due("no act", x.has(6), 0);
        due("undo", x.undo(), false);
        due("the seed stays", x.has(7), seed);
        due("faces stay", x.fit(0), 0);
        due("the tape is gone", x.end(1), false);
        due("put", Check.put(x, closed(0, 0, 60, 3, 13, 63, 0, 60)), true);
        due("goOn", x.goOn(), true);
        due("score", x.score(0), 99999);
        due("next", x.has(4), 0);
        x = new BreathRoad();
        due("put", Check.put(x, closed(0)), true);
        due("goOn without a road", x.goOn(), true);
        due("put", Check.put(x, closed(1)), true);
        due("goOn without a road, tunnel 1", x.goOn(), false);
    }

    /** Six of each, four lengths each, and each number at the last place of its row. */
    private static void fullSize() {
        StringBuilder text = new StringBuilder();
        for (int t = 0; t < 6; t++) {
            text.append("tunnel t").append((char) ('a' + t)).append(" gap ").append(90 + t);
            for (int k = 0; k < 4; k++) {
                text.append(" at ").append(10 * k + t + 1).append(" weighs ").append(9 - k);
            }
            text.append(";");
        }
        for (int h = 0; h < 6; h++) {
            text.append("holder h").append((char) ('a' + h)).append(" breath ").append(20 + h).append(" laughs 0;");
        }
        BreathRoad x = Check.of(text + "worth held+beaten;tires breath;");
        due("tunnels", x.has(0), 6);
        due("holders", x.has(1), 6);
        due("the last length", x.tunnel(5, 13), 36);
        due("the last weight", x.tunnel(5, 23), 6);
        due("all weights", x.tunnel(5, 2), 30);
        for (int h = 0; h < 6; h++) {
            for (int t = 0; t < 6; t++) {
                due("believe", x.believe(h, t, 6 * h + t), 0);
            }
            due("give", x.give(h, 50 + h), 60);
        }
        due("rest", x.rest(5, NONE), 1);
        due("alone", x.alone(5, 5, 0), 25);
        due("pace of all", x.pace(5, 63, 0) >= 1, true);
        due("whom", x.whom(5, 5, 0) >= NONE, true);
        due("image", x.image(), 2 + 6 * 11);
        int[] bytes = new int[68];
        for (int k = 0; k < 68; k++) {
            bytes[k] = x.octet(k);
        }
        bytes[0] = 5;
        due("all again", Check.road(x, text.toString()), 12);
        due("put", Check.put(x, closed(java.util.Arrays.copyOf(bytes, 67))), true);
        due("goOn", x.goOn(), true);
        due("next", x.has(4), 5);
        for (int h = 0; h < 6; h++) {
            due("breath", x.holder(h, 0), 20 + h);
            due("gives", x.holder(h, 3), 50 + h);
            due("score", x.score(h), 0);
            for (int t = 0; t < 6; t++) {
                due("believes", x.holder(h, 10 + t), 6 * h + t);
            }
        }
        due("drive", x.drive(30) >= 0, true);
        due("next", x.has(4), 5);
    }

    /** What is asked again behind a change is not the answer from ahead of it. */
    private static void askedAgain() {
        String start = "tunnel t gap 0 at 9 weighs 1;holder a breath 9 laughs 0;holder b breath 4 laughs 0;worth held;";
        BreathRoad x = Check.of(start + "tires 4-held/9*4;");
        due("rest", x.rest(0, 0), 9);
        due("alone", x.alone(0, 0, 0), 9);
        x.drive(1);
        due("a has no breath left: rest", x.rest(0, 0), 0);
        due("b: alone", x.alone(1, 0, 0), 4);
        due("a: alone", x.alone(0, 0, 0), 0);
        due("a: on", x.on(0, 1, 1), 0);
        due("b: on", x.on(1, 1, 1), 4000);
        x.pause();
        due("pause: rest", x.rest(0, 0), 9);
        x.undo();
        due("undo: rest", x.rest(0, 0), 0);
        due("put", Check.put(x, closed(0, 7, 60, 1, 134, 160, 0, 4, 60, 1, 134, 160, 0)), true);
        due("goOn", x.goOn(), true);
        due("goOn: rest", x.rest(0, 0), 7);
        due("goOn: alone", x.alone(0, 0, 0), 7);
        due("road", Check.road(x, start.replace("worth held", "worth 0-held")), 4);
        due("road: rest", x.rest(0, 0), 0);
        due("road: alone", x.alone(0, 0, 0), 0);
    }

    private static void status() {
        BreathRoad x = Check.of(ROAD);
        x.end(-1);
        x.end(1);
        Check.road(x, "x");
        x.drive(0);
        x.believe(9, 9, 9);
        x.give(9, 9);
        x.undo();
        x.seed(-1);
        x.faces(0);
        x.goOn();
        int[] want = {2, 1, 3, 1, 3};
        for (int what = 0; what < 5; what++) {
            due("status " + what, x.status(what), want[what]);
        }
        due("status 5", x.status(5), NONE);
        due("status -1", x.status(-1), NONE);
        Check.road(x, ROAD);
        due("status stays", x.status(2), 3);
    }
}
