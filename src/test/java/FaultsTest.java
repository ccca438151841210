/** Texts with one mark, |, where their FAULT is; without a mark they have none. */
public final class FaultsTest {
    private static final Check CHECK = new Check();
    private static final String T = "tunnel t gap 1 at 5 weighs 1;";
    private static final String H = "holder h breath 5 laughs 0;";

    private static void fault(int kind, String marked) {
        int place = marked.indexOf('|');
        String text = marked.replace("|", "");
        BreathRoad x = new BreathRoad();
        boolean put = Check.put(x, text);
        CHECK.due("put " + text, put, true);
        int got = x.road();
        CHECK.due("road of " + text, got == BreathRoad.NONE, kind != 0);
        CHECK.due("fault(0) of " + text, x.fault(0), kind);
        CHECK.due("fault(1) of " + text, x.fault(1), kind == 0 ? BreathRoad.NONE : place);
        CHECK.due("status(1) of " + text, x.status(1), kind == 0 ? 0 : 1);
    }

    private static void fine(String text) {
        fault(0, text);
    }

    private static String times(int n, String text) {
        return text.repeat(n);
    }

    public static void main(String[] args) {
        texts();
        wordsAndNumbers();
        sideBySide();
        names();
        numbers();
        open();
        tooMany();
        theEightyFirst();
        order();
        CHECK.finish();
    }

    private static void texts() {
        fine("");
        fine(" \n ");
        fine("seen 5;");
        fine("\n seen\n5 ;\nfine 9;  ");
        fine("seen 5;fine 9;seen 6;");
        fine("worth(held)+(long-made)*last/beaten%breath-gap;");
        fine("tires if(not[all or 1<2]and 3>2,min(1,2),max(1,if(1=1,2,3)));");
        fault(1, "seen 5|");
        fault(1, "seen 5  |");
        fault(1, "seen 5|fine 9;");
        fault(1, "seen 5 |fine 9;");
        fault(1, "seen 5;|;");
        fault(1, "|;");
        fault(1, "|5;");
        fault(1, "|foo 5;");
        fault(1, "|held;");
        fault(1, "seen |;");
        fault(1, "seen |held;");
        fault(1, "seen 5;|\t");
        fault(1, "|Seen 5;");
        fault(1, "seen 5;|\u0000");
        fault(1, "seen 5|\u00e9;");
        fault(1, "tunnel|");
        fault(1, "tunnel |;");
        fault(1, "tunnel t |at 5 weighs 1;");
        fault(1, "tunnel t gap 5|;");
        fault(1, "tunnel t gap 5 |weighs 1;");
        fault(1, "tunnel t gap 5 at 1 |at 2;");
        fault(1, "holder h |laughs 0 breath 5;");
        fault(1, "holder h breath 5|;");
        fault(1, "holder h breath 5 laughs|;");
        fault(1, "worth |;");
        fault(1, "worth 1+|;");
        fault(1, "worth 1 |2;");
        fault(1, "worth |-1;");
        fault(1, "worth |all;");
        fault(1, "worth 1 |< 2;");
        fault(1, "worth (1|;");
        fault(1, "worth (1|]);");
        fault(1, "worth min(1|);");
        fault(1, "worth min(1,2|,3);");
        fault(1, "worth if(1|,2,3);");
        fault(1, "worth if(1<2|);");
        fault(1, "worth if(1<2,3|);");
        fault(1, "worth if(1<2|<3,3,4);");
        fault(1, "worth if((1|<2),3,4);");
        fault(1, "worth if([1<2|),3,4);");
        fault(1, "worth if(all|<2,3,4);");
        fault(1, "worth if(1<2 and|,3,4);");
        fault(1, "worth if(|or 1<2,3,4);");
        fault(1, "worth |x;");
        fault(1, H + "worth |h;");
    }

    private static void wordsAndNumbers() {
        fault(1, "seen|5;");
        fault(1, "worth 5|held;");
        fault(1, "worth held|5;");
        fault(1, "worth 1+2|all;");
        fault(1, "abcdef|g 5;");
        fault(1, "seen abcdef|gh;");
        fault(1, "holder|h");
        fault(1, "holder|h breath 5 laughs 0;");
        fault(1, "seen 1234|5;");
        fault(1, "seen 0000|0;");
        fault(1, "worth 1234|56;");
        fault(1, "seen 5 1234|5;");
        fault(1, "tunnel 1234|5;");
        fault(1, "tunnel t|5 gap 1 at 5 weighs 1;");
        fault(1, "worth (1)abcdef|gh;");
        fine("worth 9999;");
        fine("seen 0005;");
        fine("worth(1)*(held)/2;");
    }

    private static void sideBySide() {
        for (String word : new String[] {"a", "held", "abcdef", "abcdefg", "abcdefghij"}) {
            fault(1, "seen 1|" + word + ";");
            fault(1, "worth 1234|" + word + ";");
            fault(1, "worth (held+5|" + word + ");");
            fault(1, "tunnel t gap 1|" + word + " 5 weighs 1;");
        }
        for (String number : new String[] {"5", "1234", "12345", "123456789"}) {
            fault(1, "seen|" + number + ";");
            fault(1, "tunnel t|" + number + " gap 1 at 5 weighs 1;");
            fault(1, "holder abcdef|" + number + " breath 5 laughs 0;");
            fault(1, "worth held|" + number + ";");
            fault(1, H + "gives h|" + number + ";");
        }
        // Two words, or two numbers, without a blank are one.
        fault(1, "|seenfi 5;");
        fault(1, "seenfi|ne 5;");
        fault(1, "worth |heldas;");
        fault(1, "worth heldhe|ld;");
        fault(1, "holder abcdef|breath 5 laughs 0;");
        fine("worth 1212;");
        fault(1, "worth 1212|12;");
        fault(4, "seen |1212;");
        // With a blank, or a sign, each is one of its own.
        for (String blank : new String[] {" ", "\n", " \n "}) {
            fine("seen" + blank + "5;");
            fault(1, "seen" + blank + "1234|5;");
            fault(1, "seen 5" + blank + "|fine 5;");
            fault(1, "seen 5" + blank + "abcdef|g;");
            fault(1, "seen 5" + blank + "|6;");
            fault(1, "seen 5" + blank + "1234|5;");
            fault(1, "seen" + blank + "|fine;");
            fault(1, "seen" + blank + "abcdef|g;");
        }
        fine("worth 1+held*2-long/3;");
        fault(1, "worth 1+abcdef|g;");
        fault(1, "worth held+1234|5;");
        fault(1, "seen 5;abcdef|g;");
        fault(1, "seen 5;1234|5;");
        // What is wrong further ahead counts, be it with what stands beside it or not.
        fault(1, "seen 1234|5abcdefg;");
        fault(1, "abcdef|g12345;");
        fault(1, "seen 1|a2b3c;");
        fault(1, "tunnel |5abcdefg gap 1 at 5 weighs 1;");
        fault(4, "seen |101abcdefg;");
        fault(4, "tunnel t gap 1 at |61weighs 1;");
        fault(3, "gives |x12345;");
        fault(2, H + "holder |h12345;");
        fault(6, "worth 1;|worth12345;");
        fault(5, "worth if(" + times(6, "not ") + "|not12345,1,2);");
        // Both at one byte: without its blank it is no number and no word there.
        fault(1, "seen|101;");
        fault(1, "tunnel t gap 1 at 1 weighs 1 at 2 weighs 1 at 3 weighs 1 at 4 weighs 1|at 5 weighs 1;");
    }

    private static void names() {
        fine("tunnel abcdef gap 1 at 5 weighs 1;");
        fine(T + "holder tt breath 1 laughs 0;thinks tt t 1;");
        fault(2, T + "tunnel |t gap");
        fault(2, T + "holder |t breath");
        fault(2, H + "tunnel |h gap");
        fault(2, H + "holder |h5");
        fault(3, "gives |a 5;");
        fault(3, "gives |a5;");
        fault(3, T + "gives |t 5;");
        fault(3, T + H + "thinks |t h 5;");
        fault(3, T + H + "thinks h |h 5;");
        fault(3, T + H + "thinks h |x 5;");
        fault(1, T + H + "thinks h |5;");
        fault(1, T + H + "thinks h t|;");
        fault(1, H + "gives |held 5;");
        for (String own : ("tunnel gap at weighs holder breath laughs thinks gives worth tires seen fine held long made"
                + " last beaten if or and not all min max").split(" ")) {
            fault(1, "holder |" + own + " breath 5 laughs 0;");
            fault(1, "tunnel |" + own + " gap 5 at 1 weighs 1;");
            fault(1, "gives |" + own + " 5;");
        }
        fine("holder gaps breath 1 laughs 0;holder a breath 1 laughs 0;holder atat breath 1 laughs 0;");
    }

    private static void numbers() {
        fine("tunnel t gap 0 at 1 weighs 1 at 60 weighs 9;tunnel u gap 99 at 60 weighs 1;");
        fault(4, "tunnel t gap |100");
        fault(4, "tunnel t gap 0 at |0 weighs 1;");
        fault(4, "tunnel t gap 0 at |61 weighs 1;");
        fault(4, "tunnel t gap 0 at 1 weighs |0;");
        fault(4, "tunnel t gap 0 at 1 weighs |10;");
        fault(4, "tunnel t gap 0 at 1 weighs 1 at 2 weighs 1 at |001 weighs 1;");
        fine("holder h breath 1 laughs 0;holder i breath 60 laughs 50;");
        fault(4, "holder h breath |0 laughs 0;");
        fault(4, "holder h breath |61");
        fault(4, "holder h breath 60 laughs |51;");
        fine(T + H + "thinks h t 1;thinks h t 60;gives h 0;gives h 60;");
        fault(4, T + H + "thinks h t |0;");
        fault(4, T + H + "thinks h t |61;");
        fault(4, H + "gives h |61;");
        fine("seen 0;seen 100;fine 0;fine 999;");
        fault(4, "seen |101;");
        fault(4, "seen |101x");
        fault(4, "fine |1000;");
    }

    private static void open() {
        fine("worth " + times(7, "(") + "1" + times(7, ")") + ";");
        fault(5, "worth " + times(7, "(") + "|(1" + times(8, ")") + ";");
        fine("worth (1)+" + times(7, "(") + "1" + times(7, ")") + "*(2);");
        fine("worth " + times(7, "min(1,") + "2" + times(7, ")") + ";");
        fault(5, "worth " + times(7, "max(1,") + "max|(1");
        fault(5, "worth " + times(7, "if(all,1,") + "if|(all");
        fault(5, "worth if(" + times(6, "[") + "|[all");
        fine("worth if(" + times(6, "[") + "all" + times(6, "]") + ",1,2);");
        fine("worth if(" + times(6, "not ") + "all,1,2);");
        fine("worth if(" + times(6, "not ") + "all and " + times(6, "not ") + "1<2 or " + times(6, "[") + "all"
            + times(6, "]") + "," + times(6, "(") + "1" + times(6, ")") + ",2);");
        fault(5, "worth if(" + times(6, "not ") + "|not all,1,2);");
        fault(5, "worth if(" + times(6, "not ") + "|[all],1,2);");
        fault(5, "worth if(" + times(6, "not ") + "|(1)<2,1,2);");
        fault(5, "worth if(" + times(6, "not ") + "1<|(1),1,2);");
        fault(1, "worth if(" + times(6, "not ") + "min|1,1,2);");
        fault(1, "worth " + times(7, "(") + "|[");
        fault(1, "worth " + times(7, "(") + "|not");
    }

    private static void tooMany() {
        StringBuilder six = new StringBuilder();
        for (char c = 'a'; c < 'g'; c++) {
            six.append("tunnel ").append(c).append(" gap 1 at 5 weighs 1;");
        }
        fine(six.toString());
        fault(6, six + "|tunnel");
        fine(six + H);
        StringBuilder holders = new StringBuilder();
        for (char c = 'a'; c < 'g'; c++) {
            holders.append("holder ").append(c).append(" breath 5 laughs 0;");
        }
        fine(holders.toString());
        fault(6, holders + "|holder x breath 5 laughs 0;");
        fine(holders + "tunnel x gap 0 at 1 weighs 1;");
        fine("worth 1;tires 2;");
        fault(6, "worth 1;tires 2;|worth 3;");
        fault(6, "worth 1;tires 2;|tires 3;");
        fine(times(80, "seen 1;"));
        fine(times(80, "seen 1;") + "\n ");
        fault(6, times(80, "seen 1;") + "|seen 1;");
        fault(6, times(80, "seen 1;") + "|gives x 1;");
        String four = "tunnel t gap 1 at 1 weighs 1 at 2 weighs 1 at 3 weighs 1 at 4 weighs 1";
        fine(four + ";");
        fault(6, four + " |at 1 weighs 1;");
    }

    private static void theEightyFirst() {
        String eighty = times(80, "seen 0;");
        for (String any : new String[] {"seen 0;", "s", "x", "held;", ";", "5", "1234;", "12345", "123456789;", "abcdef",
                "abcdefg ", "abcdefg\u0000\u0000", "abcdefghi5;", "!", "\t", "\r", "\u0000", "\u00ff", "A", "(", "]", "_",
                "tunnel", "worth 1;", "seen 101;", "seen12345;"}) {
            fault(6, eighty + "|" + any);
            fault(6, eighty + " \n|" + any);
            fault(6, eighty + "|" + any + " seen 0;!");
        }
        fine(eighty);
        fine(eighty + " \n \n");
        // One less: the same are what they are.
        String fewer = times(79, "seen 0;");
        fine(fewer + "seen 1;");
        fault(1, fewer + "|!");
        fault(1, fewer + "abcdef|g ");
        fault(1, fewer + "1234|5");
        fault(1, fewer + "seen|12345;");
        fault(1, fewer + "seen 0|");
        fault(1, fewer + "seen 0|!");
        fault(1, fewer + "seen 0 |seen 0;");
        fault(4, fewer + "seen |101;!");
    }

    private static void order() {
        fault(4, "seen |101;worth ;");
        fault(2, T + "tunnel |t gap 100;");
        fault(1, "worth |;seen 101;");
        BreathRoad x = Check.of(T + H + "seen 7;");
        CHECK.due("seen", x.has(2), 7);
        CHECK.due("a road with a fault", Check.road(x, "seen 9;seen 101;"), BreathRoad.NONE);
        CHECK.due("seen stays", x.has(2), 7);
        CHECK.due("tunnels stay", x.has(0), 1);
        CHECK.due("the tape is gone", x.feed(0, 0, 0, 0, 0), 20);
        CHECK.due("road of zeros", x.road(), BreathRoad.NONE);
        CHECK.due("fault of zeros", x.fault(1), 0);
        CHECK.due("road", Check.road(x, ""), 0);
        CHECK.due("no tunnels", x.has(0), 0);
        CHECK.due("no fault", x.fault(0), 0);
        CHECK.due("no place", x.fault(1), BreathRoad.NONE);
    }
}
