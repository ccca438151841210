import java.util.List;

/** Boundary cases of texts: what can be told, how often, and each kind of FAULT at its place. */
public final class Bounds04To05Test {
    private static final int NONE = Bounds.NONE;
    private static final String T = "tunnel t gap 1 at 5 weighs 1;";
    private static final String H = "holder h breath 5 laughs 0;";
    private static final String[] OWN_WORDS = ("tunnel gap at weighs holder breath laughs thinks gives worth tires seen fine"
        + " held long made last beaten if or and not all min max").split(" ");

    private static final List<String> STATEMENTS =
        List.of("tunnel", "holder", "thinks", "gives", "worth", "tires", "seen", "fine");
    private static final List<String> PARTS =
        List.of("held", "long", "made", "last", "beaten", "breath", "gap", "if", "min", "max");

    public static void main(String[] args) {
        Bounds.run(Bounds04To05Test.class, 4, 5);
    }

    private static void due(long got, long want) {
        Bounds.due(got, want);
    }

    private static void due(boolean got, boolean want) {
        Bounds.due(got, want);
    }

    private static Called reads(String text) {
        return Bounds.reads(text);
    }

    private static void faults(int kind, String marked) {
        Bounds.faults(kind, marked);
    }

    private static String blanks(int n) {
        return " ".repeat(n);
    }

    // ---- promise 4: the call itself

    static void promise04NoTextAtAll() {
        Called x = new Called();
        due(x.road(), 0);
        due(x.fault(0), 0);
        due(x.fault(1), NONE);
        due(x.status(1), 0);
        x = Bounds.used();
        due(x.road(), 0);
        for (int what = 0; what < 7; what++) {
            due(x.has(what), 0);
        }
        due(x.fit(0), NONE);
        due(x.undo(), false);
    }

    static void promise04BlanksAlone() {
        reads(" ");
        reads("\n");
        reads(" \n\n  \n");
        reads(blanks(1600));
    }

    static void promise04JustSixteenHundredBytes() {
        reads("worth 1" + "+1".repeat(796) + ";");
        due(reads("seen 7" + blanks(1593) + ";").has(2), 7);
    }

    static void promise04TheTapeGoes() {
        Called x = new Called();
        x.put("seen 5;");
        due(x.road(), 1);
        due(x.end(1), false);
        due(x.road(), 0);
        x.put("seen 5");
        due(x.road(), NONE);
        due(x.end(1), false);
        due(x.feed(0, 0, 0, 0, 0), 20);
    }

    static void promise04HowManyStatements() {
        reads("");
        reads("seen 1;");
        reads("seen 1;".repeat(79));
        reads("seen 1;".repeat(80));
        reads("seen 1;".repeat(80) + " \n");
    }

    static void promise04AFaultLeavesAll() {
        Called x = Bounds.used();
        String again = "tunnel ua gap 9 at 9 weighs 9;holder ga breath 9 laughs 9;thinks ga ua 9;gives ga 9;worth 9;tires 9;"
            + "seen 9;fine 9;!";
        List<String> before = Bounds.all(x);
        x.put(again);
        due(x.road(), NONE);
        due(x.fault(0), 1);
        due(x.fault(1), again.length() - 1);
        due(x.status(1), 2);
        List<String> now = Bounds.all(x);
        // Of the latest road() are the first two lines.
        Bounds.same(before.subList(2, before.size()), now.subList(2, now.size()));
        due(x.end(1), false);
        due(x.undo(), true);
        due(x.holder(1, 3), 60);
    }

    static void promise04AllIsAsAtFirst() {
        String text = "tunnel ta gap 3 at 4 weighs 2 at 9 weighs 1;tunnel tb gap 8 at 6 weighs 1;"
            + "holder ha breath 7 laughs 20;holder hb breath 5 laughs 0;thinks hb ta 3;gives ha 6;worth held;tires breath-1;";
        Called x = Bounds.used();
        int seed = x.has(7);
        due(x.read(text), 8);
        due(x.has(7), seed);
        due(x.has(4), 0);
        due(x.has(5), 0);
        due(x.kept(0, 0), NONE);
        due(x.has(6), 0);
        due(x.undo(), false);
        due(x.fit(0), NONE);
        Called fresh = Called.of(text);
        fresh.seed(seed);
        fresh.image();
        x.image();
        Bounds.same(Bounds.all(fresh), Bounds.all(x));
    }

    static void promise04TheSeedStays() {
        for (int seed : new int[] {0, 1, 77, Bounds.MOST}) {
            Called x = new Called();
            x.seed(seed);
            due(x.read(T), 1);
            due(x.has(7), seed);
            due(x.read("!"), NONE);
            due(x.has(7), seed);
        }
    }

    static void promise04NothingOfTheOldRoadIsLeft() {
        Called x = Called.of(T + H + "thinks h t 9;gives h 2;worth 7;tires 3;seen 50;fine 60;");
        due(x.read(T + H), 2);
        due(x.holder(0, 10), 0);
        due(x.holder(0, 3), 60);
        due(x.worth(0, 0, 5), 0);
        due(x.tired(0, 0, 5, 5), 5);
        due(x.has(2), 0);
        due(x.has(3), 0);
        due(x.read(T), 1);
        due(x.has(1), 0);
        due(x.holder(0, 0), NONE);
        due(x.score(0), Bounds.NOTHING);
        due(x.read("gives h 2;"), NONE);
        due(x.fault(0), 3);
    }

    static void promise04NothingOfARefusedTextIsLeft() {
        Called x = new Called();
        due(x.read(T + H + "thinks h t 9;gives h 2;worth 7;tires 3;seen 50;fine 60;!"), NONE);
        due(x.read(T + H + "worth held;"), 3);
        due(x.holder(0, 10), 0);
        due(x.holder(0, 3), 60);
        due(x.tired(0, 0, 5, 5), 5);
        due(x.has(2), 0);
        due(x.has(3), 0);
        due(x.read("gives h 2;"), NONE);
        due(x.fault(0), 3);
    }

    /** Rows of the old ROAD that the new one does not need count for nothing. */
    static void promise04FewerLengthsThanBefore() {
        Called x = new Called();
        for (int i = 0; i < 3; i++) {
            due(x.read("tunnel t gap 1 at 60 weighs 9 at 59 weighs 9 at 58 weighs 9 at 57 weighs 9;"
                + "holder h breath 60 laughs 0;worth held;"), 3);
        }
        for (int i = 0; i < 2; i++) {
            due(x.read(T + "holder h breath 60 laughs 0;worth if(long>5,0-9,held);"), 3);
            due(x.tunnel(0, 1), 1);
            due(x.tunnel(0, 2), 1);
            due(x.tunnel(0, 11), NONE);
            due(x.likely(0, 5), 0);
            due(x.made(0, 0), 1000);
            due(x.alone(0, 0, 1), 5000);
            due(x.on(0, 4, 1), 20000);
            due(x.rest(0, NONE), 1);
            due(x.hidden(0, 0, 1), 5000);
            due(x.pace(0, 1, 1), 1000);
            due(x.whom(0, 0, 1), 5000);
            due(x.drive(30), 150);
        }
    }

    /** Those of the old ROADS who are none of the new one hold nothing, make nothing and are beaten by nobody. */
    static void promise04FewerHoldersThanBefore() {
        Called x = new Called();
        for (int i = 0; i < 3; i++) {
            StringBuilder six = new StringBuilder(T);
            for (char c = 'a'; c < 'g'; c++) {
                six.append("holder h").append(c).append(" breath ").append(1 + 9 * (c - 'a')).append(" laughs 50;");
            }
            due(x.read(six + "worth beaten;"), 8);
            x.drive(30);
        }
        for (int n = 1; n <= 5; n++) {
            StringBuilder fewer = new StringBuilder(T);
            for (int h = 0; h < n; h++) {
                fewer.append("holder g").append((char) ('a' + h)).append(" breath 5 laughs 0;");
            }
            due(x.read(fewer + "worth held*10+last*100+beaten;"), n + 2);
            due(x.worth(n - 1, 0, 5), 150);
            due(x.rest(0, NONE), 1);
            due(x.rest(0, n - 1), 5);
            due(x.pace(0, (1 << n) - 1, 0), 1);
            due(x.pace(0, (1 << n) - 1, 1), 1000);
            due(x.pace(0, (2 << n) - 1, 0), NONE);
            due(x.whom(0, 0, 0), n > 1 ? 1 : NONE);
            due(x.drive(1), 5 * n);
            due(x.score(n - 1), 150);
            due(x.has(5), n);
            due(x.pause(), 0);
            due(x.image(), 2 + 6 * n);
        }
    }

    static void promise04LongTextsAgainAndAgain() {
        Called x = new Called();
        for (int i = 0; i < 4; i++) {
            due(x.read(T + H + "worth 0" + "+1".repeat(760) + ";"), 3);
            due(x.worth(0, 0, 5), 760);
            due(x.read("worth 0" + "+1".repeat(100)), NONE);
        }
    }

    static void promise04AskedAgainBehindAnotherRoad() {
        Called x = Called.of(T + H + "worth held;");
        due(x.alone(0, 0, 0), 5);
        due(x.rest(0, 0), 5);
        due(x.read(T + H + "worth 0-held;"), 3);
        due(x.rest(0, 0), 0);
        due(x.alone(0, 0, 0), 0);
        due(x.on(0, 2, 1), 0);
        due(x.read(T + H + "worth 2;"), 3);
        due(x.on(0, 2, 1), 4000);
        due(x.rest(0, 0), 5);
    }

    static void promise04RefusedIsCounted() {
        Called x = new Called();
        for (int i = 1; i <= 5; i++) {
            due(x.read("!"), NONE);
            due(x.status(1), i);
            due(x.read(" "), 0);
            due(x.status(1), i);
        }
        due(x.status(0) + x.status(2) + x.status(3) + x.status(4), 0);
    }

    // ---- promise 4: what can be told

    static void promise04Gaps() {
        due(reads("tunnel t gap 0 at 5 weighs 1;").tunnel(0, 0), 0);
        due(reads("tunnel t gap 99 at 5 weighs 1;").tunnel(0, 0), 99);
        due(reads("tunnel t gap 0099 at 5 weighs 1;").tunnel(0, 0), 99);
    }

    static void promise04Lengths() {
        due(reads("tunnel t gap 1 at 1 weighs 1;").tunnel(0, 10), 1);
        due(reads("tunnel t gap 1 at 60 weighs 1;").tunnel(0, 10), 60);
        due(reads("tunnel t gap 1 at 1 weighs 1 at 60 weighs 1;").tunnel(0, 11), 60);
    }

    static void promise04Weights() {
        due(reads("tunnel t gap 1 at 5 weighs 1;").tunnel(0, 20), 1);
        due(reads("tunnel t gap 1 at 5 weighs 9;").tunnel(0, 20), 9);
        due(reads("tunnel t gap 1 at 5 weighs 1 at 6 weighs 9;").tunnel(0, 21), 9);
    }

    static void promise04OneToFourLengths() {
        StringBuilder text = new StringBuilder("tunnel t gap 1");
        for (int k = 1; k <= 4; k++) {
            text.append(" at ").append(10 * k).append(" weighs ").append(k);
            Called x = reads(text + ";");
            due(x.tunnel(0, 1), k);
            due(x.tunnel(0, 2), k * (k + 1) / 2);
        }
    }

    static void promise04TheSameLengthInAnotherRow() {
        Called x = reads("tunnel t gap 1 at 5 weighs 1 at 6 weighs 1;tunnel u gap 1 at 6 weighs 1 at 5 weighs 1;");
        due(x.tunnel(1, 10), 6);
        due(x.tunnel(1, 11), 5);
    }

    private static String tunnels(int n) {
        StringBuilder text = new StringBuilder();
        for (int t = 0; t < n; t++) {
            text.append("tunnel t").append((char) ('a' + t)).append(" gap ").append(t).append(" at 5 weighs 1;");
        }
        return text.toString();
    }

    private static String holders(int n) {
        StringBuilder text = new StringBuilder();
        for (int h = 0; h < n; h++) {
            text.append("holder h").append((char) ('a' + h)).append(" breath ").append(h + 1).append(" laughs 0;");
        }
        return text.toString();
    }

    static void promise04SixTunnels() {
        Called x = reads(tunnels(6));
        due(x.has(0), 6);
        due(x.tunnel(5, 0), 5);
        due(x.letter(0, 5, 1), 6);
    }

    static void promise04SixHolders() {
        Called x = reads(holders(6));
        due(x.has(1), 6);
        due(x.holder(5, 0), 6);
        due(x.letter(1, 5, 1), 6);
        x = reads(tunnels(6) + holders(6));
        due(x.has(0), 6);
        due(x.has(1), 6);
    }

    static void promise04Breaths() {
        due(reads("holder h breath 1 laughs 0;").holder(0, 1), 1);
        due(reads("holder h breath 60 laughs 0;").holder(0, 1), 60);
    }

    static void promise04Laughs() {
        due(reads("holder h breath 5 laughs 0;").holder(0, 2), 0);
        due(reads("holder h breath 5 laughs 50;").holder(0, 2), 50);
    }

    static void promise04Thinks() {
        due(reads(T + H).holder(0, 10), 0);
        due(reads(T + H + "thinks h t 1;").holder(0, 10), 1);
        due(reads(T + H + "thinks h t 60;").holder(0, 10), 60);
        due(reads(T + H + "thinks h t 60;thinks h t 1;thinks h t 9;").holder(0, 10), 9);
    }

    static void promise04ThinksOfTheseTwo() {
        Called x = reads(tunnels(2) + holders(2) + "thinks ha ta 1;thinks hb ta 2;thinks ha tb 3;thinks hb ta 4;");
        due(x.holder(0, 10), 1);
        due(x.holder(0, 11), 3);
        due(x.holder(1, 10), 4);
        due(x.holder(1, 11), 0);
    }

    static void promise04ThinksAndGivesOfEachAndAll() {
        StringBuilder text = new StringBuilder(tunnels(6) + holders(6));
        for (int h = 0; h < 6; h++) {
            text.append("gives h").append((char) ('a' + h)).append(' ').append(50 + h).append(';');
            for (int t = 0; t < 6; t++) {
                text.append("thinks h").append((char) ('a' + h)).append(" t").append((char) ('a' + t)).append(' ');
                text.append(6 * h + t + 1).append(';');
            }
        }
        Called x = reads(text.toString());
        for (int h = 0; h < 6; h++) {
            due(x.holder(h, 3), 50 + h);
            for (int t = 0; t < 6; t++) {
                due(x.holder(h, 10 + t), 6 * h + t + 1);
            }
        }
    }

    static void promise04Gives() {
        due(reads(H).holder(0, 3), 60);
        due(reads(H + "gives h 0;").holder(0, 3), 0);
        due(reads(H + "gives h 60;").holder(0, 3), 60);
        due(reads(H + "gives h 60;gives h 0;gives h 9;").holder(0, 3), 9);
        Called x = reads(holders(2) + "gives hb 7;gives ha 8;");
        due(x.holder(0, 3), 8);
        due(x.holder(1, 3), 7);
    }

    static void promise04SeenAndFine() {
        due(reads("seen 0;").has(2), 0);
        due(reads("seen 100;").has(2), 100);
        due(reads("seen 100;seen 0;seen 9;").has(2), 9);
        due(reads("fine 7;").has(2), 0);
        due(reads("fine 0;").has(3), 0);
        due(reads("fine 999;").has(3), 999);
        due(reads("fine 999;fine 0;fine 9;").has(3), 9);
        due(reads("seen 7;").has(3), 0);
    }

    static void promise04WorthAndTiresOnce() {
        Called x = reads(T + H + "tires 9;worth 8;");
        due(x.worth(0, 0, 5), 8);
        due(x.tired(0, 0, 5, 5), 9);
        due(reads(T + H + "worth 8;").tired(0, 0, 5, 5), 5);
        due(reads(T + H + "tires 9;").worth(0, 0, 5), 0);
    }

    static void promise04NamesOfOneAndOfSixLetters() {
        Called x = reads("tunnel a gap 1 at 5 weighs 1;tunnel abcdef gap 2 at 5 weighs 1;holder z breath 5 laughs 0;"
            + "holder abcdeg breath 6 laughs 0;thinks abcdeg abcdef 7;gives z 4;");
        due(x.holder(1, 11), 7);
        due(x.holder(0, 3), 4);
    }

    static void promise04NumbersOfOneAndOfFourDigits() {
        due(reads("seen 7;").has(2), 7);
        due(reads("seen 0007;").has(2), 7);
        due(reads("seen 0000;").has(2), 0);
        Called x = reads(T + H + "worth 9999-9000;");
        due(x.worth(0, 0, 5), 999);
    }

    static void promise04BlanksWhereOneLikes() {
        String tight = "tunnel t gap 1 at 5 weighs 1;holder h breath 5 laughs 0;thinks h t 9;gives h 7;"
            + "worth if(not[1<2]or 3>2 and all,min(1,2),max(3,4)*(5-6)/7%8);";
        reads(tight);
        StringBuilder loose = new StringBuilder("\n");
        for (char sign : tight.toCharArray()) {
            boolean sole = ";()[],+-*/%<>= ".indexOf(sign) >= 0;
            loose.append(sole ? " \n" : "").append(sign).append(sole ? "\n " : "");
        }
        reads(loose.toString());
    }

    static void promise04NoBlankBesideSigns() {
        Called x = reads(T + H + "worth(held)+1*held/1-held%2;seen 5;fine 6;");
        due(x.worth(0, 0, 5), 5 + 5 - 1);
    }

    // ---- promise 5: the call itself

    static void promise05AheadOfAny() {
        Called x = new Called();
        due(x.fault(0), 0);
        due(x.fault(1), NONE);
        x.put("!");
        due(x.fault(0), 0);
        due(x.fault(1), NONE);
    }

    static void promise05WithoutOne() {
        Called x = Called.of("seen 1;");
        due(x.fault(0), 0);
        due(x.fault(1), NONE);
        due(x.read("!"), NONE);
        due(x.fault(0), 1);
        due(x.fault(1), 0);
        due(x.read(""), 0);
        due(x.fault(0), 0);
        due(x.fault(1), NONE);
    }

    static void promise05AnotherWhat() {
        Called x = new Called();
        due(x.fault(2), NONE);
        due(x.read("seen 5;!"), NONE);
        Bounds.dueToEach(NONE, x::fault, -1, 2, 7, Bounds.LEAST, Bounds.MOST);
        due(x.fault(0), 1);
        due(x.fault(1), 7);
    }

    static void promise05OfTheLatestRoadCall() {
        Called x = Called.of(T + H);
        due(x.read("seen 101;"), NONE);
        due(x.fault(0), 4);
        due(x.fault(1), 5);
        x.drive(1);
        x.undo();
        x.undo();
        x.end(5);
        x.image();
        x.goOn();
        x.faces(0);
        x.put("seen 5;!");
        due(x.fault(0), 4);
        due(x.fault(1), 5);
        due(x.road(), NONE);
        due(x.fault(0), 1);
        due(x.fault(1), 7);
    }

    static void promise05EachKindAtItsPlace() {
        faults(1, "seen |;");
        faults(2, T + "tunnel |t gap 1 at 5 weighs 1;");
        faults(3, "gives |h 5;");
        faults(4, "seen |101;");
        faults(5, "worth (((((((|(1))))))));");
        faults(6, "worth 1;|worth 1;");
    }

    static void promise05TheFirstAlongTheText() {
        String[] marked = {"seen |;", "gives |h 5;", "seen |101;", "worth (((((((|(1))))))));"};
        int[] kinds = {1, 3, 4, 5};
        for (int i = 0; i < marked.length; i++) {
            for (String behind : marked) {
                faults(kinds[i], marked[i] + behind.replace("|", ""));
                faults(kinds[i], "fine 5;" + marked[i] + behind.replace("|", ""));
            }
        }
        faults(2, H + "holder |h breath 61 laughs 51;");
        faults(6, "worth 1;|worth ;seen 101;");
    }

    // ---- promise 5, FAULT 1

    /** Cut behind each word, number and sign but the last one. */
    static void promise05TheTextEndsTooSoon() {
        String[] texts = {
            "tunnel t gap 5 at 7 weighs 2 at 8 weighs 1 ;",
            "holder h breath 7 laughs 2 ;",
            T + H + " thinks h t 7 ;",
            H + " gives h 7 ;",
            "seen 7 ;",
            "fine 7 ;",
            "worth if ( not [ held < 5 ] and all or long = 2 , min ( 1 , 2 ) , 4 ) ;",
            "tires max ( made + last * 3 , if ( all , 1 , 2 ) ) - ( beaten / breath % gap ) ;",
        };
        for (String text : texts) {
            reads(text);
            int begin = text.lastIndexOf("; ") < 0 ? 0 : text.lastIndexOf("; ") + 1;
            for (int at = text.indexOf(' ', begin + 1); at >= 0; at = text.indexOf(' ', at + 1)) {
                faults(1, text.substring(0, at) + "|");
                faults(1, text.substring(0, at) + " \n |");
            }
        }
    }

    private static final String[] STATEMENTS_APART = {
        "tunnel t gap 5 at 7 weighs 2 at 8 weighs 1 ;", "holder h breath 7 laughs 2 ;", "seen 7 ;", "fine 7 ;",
    };

    private static String joined(String[] words, int from, int to) {
        StringBuilder text = new StringBuilder();
        for (int i = from; i < to; i++) {
            text.append(words[i]).append(' ');
        }
        return text.toString();
    }

    static void promise05OneWordLeftOut() {
        for (String text : STATEMENTS_APART) {
            String[] words = text.split(" ");
            for (int i = 0; i < words.length; i++) {
                faults(1, joined(words, 0, i) + "|" + joined(words, i + 1, words.length) + (i + 1 < words.length ? "" : text));
            }
        }
        faults(1, H + "gives |7;");
        faults(1, H + "gives h|;");
        faults(1, T + H + "thinks h |7;");
        faults(1, T + H + "thinks h t|;");
        faults(3, T + H + "thinks |t 7;");
    }

    static void promise05OneWordTwice() {
        for (String text : STATEMENTS_APART) {
            String[] words = text.split(" ");
            for (int i = 0; i < words.length; i++) {
                faults(1, joined(words, 0, i + 1) + "|" + joined(words, i, words.length));
            }
        }
        faults(1, H + "gives h |h 7;");
        faults(1, H + "gives h 7 |7;");
        faults(3, T + H + "thinks h |h t 7;");
        faults(1, T + H + "thinks h t |t 7;");
        faults(1, T + H + "thinks h t 7 |7;");
    }

    static void promise05SumsThatDoNotGoOn() {
        for (String part : new String[] {"", "1+", "1-", "2*", "2/", "2%", "(", "((", "min(", "max(1,", "1+(2-", "if(all,",
                "if(all,1,", "if(1<", "if(1>2+", "if(", "if(not ", "if([", "if(all and ", "if(all or "}) {
            for (String sign : new String[] {";", ")", "]", ",", "+", "-", "*", "/", "%", "<", ">", "="}) {
                faults(1, "worth " + part + "|" + sign + ";");
            }
            if (!part.matches("if\\((not |\\[|all and |all or )?")) {
                faults(1, "worth " + part + "|[all];");
                faults(1, "worth " + part + "|not all;");
                faults(1, "worth " + part + "|all;");
            }
        }
        for (String part : new String[] {"1", "held", "1+held", "(1)", "min(1,2)", "if(all,1,2)"}) {
            for (String sign : new String[] {")", "]", ",", "<", ">", "=", "(", "[", " 1", " held", " if(", " min(", " all",
                    " or", " and", " not"}) {
                boolean blank = sign.startsWith(" ");
                faults(1, "worth " + part + (blank ? " |" + sign.substring(1) : "|" + sign) + ";");
            }
        }
    }

    static void promise05OpenedAndNotClosed() {
        faults(1, "worth (1|;");
        faults(1, "worth (1|];");
        faults(1, "worth (1|,2);");
        faults(1, "worth min(1|);");
        faults(1, "worth min(1,2|,3);");
        faults(1, "worth max(1,2|];");
        faults(1, "worth if(all|);");
        faults(1, "worth if(all,1|);");
        faults(1, "worth if(all,1,2|,3);");
        faults(1, "worth if([all|,1,2);");
        faults(1, "worth if([all|),1,2);");
        faults(1, "worth if(1|,1,2);");
        faults(1, "worth if(1<2|<3,1,2);");
        faults(1, "worth if(all|<1,1,2);");
        faults(1, "worth if((|all);");
        faults(1, "worth if(not |,1,2);");
        faults(1, "worth if |all,1,2);");
        for (String word : new String[] {"min", "max", "if"}) {
            for (String ahead : new String[] {"", "1+", "2*", "(3)-"}) {
                faults(1, "worth " + ahead + word + "|;");
                faults(1, "worth " + ahead + word + "|+1;");
            }
        }
        faults(1, "worth min |[1,2];");
        faults(1, "worth max |1,2);");
    }

    static void promise05TheTextsLengthOfSixteenHundred() {
        faults(1, "seen 1" + blanks(1594) + "|");
        faults(1, "worth 1" + "+1".repeat(796) + "|");
        faults(1, "worth 1" + "+1".repeat(796) + "+|");
        faults(1, blanks(1599) + "|;");
    }

    static void promise05BytesThatNoRoadHas() {
        for (int octet = 0; octet < 256; octet++) {
            String sign = String.valueOf((char) octet);
            boolean blank = octet == 10 || octet == 32;
            boolean digit = octet >= '0' && octet <= '9';
            boolean letter = octet >= 'a' && octet <= 'z';
            if (octet != '|') {
                first(sign, blank);
                behindANumber(sign, blank || digit);
                insideAName(sign, blank || letter);
                if (";()[],+-*/%<>=".indexOf(octet) < 0 && !blank && !digit && !letter) {
                    behindEachSign(sign);
                }
            }
        }
    }

    private static void behindEachSign(String sign) {
        for (String ahead : new String[] {"worth ", "worth (", "worth 1+", "worth 1-", "worth 1*", "worth 1/", "worth 1%",
                "worth min(1,", "worth if(", "worth if([", "worth if(not ", "worth if(1<", "worth if(1>", "worth if(1=",
                "worth if(all", "worth if(all,1", "worth (1)", "seen", "tunnel ", "tunnel t gap", "gives "}) {
            faults(1, ahead + "|" + sign);
        }
    }

    private static void first(String sign, boolean fits) {
        if (fits) {
            reads(sign + "seen 5;" + sign);
        } else {
            faults(1, "|" + sign);
            faults(1, "seen 5;|" + sign);
        }
    }

    private static void behindANumber(String sign, boolean fits) {
        if (fits) {
            reads("seen 5" + sign + ";");
        } else if (sign.equals(";")) {
            faults(1, "seen 5;|;");
        } else {
            faults(1, "seen 5|" + sign + ";");
        }
    }

    private static void insideAName(String sign, boolean fits) {
        if (fits) {
            reads("holder h" + sign + " breath 5 laughs 0;");
        } else {
            faults(1, "holder h|" + sign + " breath 5 laughs 0;");
        }
    }

    static void promise05TheSeventhLetter() {
        reads("holder abcdef breath 5 laughs 0;");
        faults(1, "holder abcdef|g breath 5 laughs 0;");
        faults(1, "holder abcdef|ghijkl breath 5 laughs 0;");
        faults(1, "abcdef|g");
        faults(1, "seen abcdef|g;");
        faults(1, "worth 1 abcdef|g;");
        faults(1, "beaten|s");
        faults(1, "tunnel|s t gap");
        faults(1, "holder abcdef breath 5 laughs 0;gives abcdef|g 5;");
        faults(1, "holder abcdef breath 5 laughs 0;holder abcdef|g breath 5 laughs 0;");
        // Six that do not fit are so as a whole.
        faults(1, "|abcdef");
        faults(1, "seen |abcdef;");
    }

    static void promise05TheFifthDigit() {
        reads("worth 1234;");
        faults(1, "worth 1234|5;");
        faults(1, "worth 0000|0;");
        faults(1, "worth 1234|56789;");
        faults(1, "seen 9999|9;");
        faults(1, "1234|5");
        faults(1, "tunnel 1234|5");
        faults(1, "seen 5 1234|5;");
        // Four that do not fit are so as a whole.
        faults(1, "|1234");
        faults(1, "tunnel |1234");
        faults(4, "seen |9999;");
    }

    static void promise05SideBySide() {
        faults(1, "seen|5;");
        faults(1, "seen 5|fine 5;");
        faults(1, "holder h|5 breath 5 laughs 0;");
        faults(1, "holder h breath 5|laughs 0;");
        faults(1, "tunnel t gap 1|at 5 weighs 1;");
        faults(1, "worth held|1;");
        faults(1, "worth 1|held;");
        reads("holder h breath 5 laughs 0\n;worth(1);");
    }

    static void promise05OwnWordsAreNoNames() {
        for (String own : OWN_WORDS) {
            faults(1, "tunnel |" + own + " gap 1 at 5 weighs 1;");
            faults(1, "holder |" + own + " breath 5 laughs 0;");
            faults(1, T + H + "thinks |" + own + " t 5;");
            faults(1, T + H + "thinks h |" + own + " 5;");
            faults(1, H + "gives |" + own + " 5;");
        }
    }

    /** One letter more or less is a name, if it has six at the most. */
    static void promise05NearOwnWordsAreNames() {
        for (String own : OWN_WORDS) {
            String less = own.substring(0, own.length() - 1);
            reads("holder " + less + " breath 5 laughs 0;gives " + less + " 5;");
            if (own.length() < 6) {
                reads("tunnel " + own + "x gap 1 at 5 weighs 1;");
            }
        }
    }

    static void promise05WordsWhereNoneOfThemFits() {
        for (String own : OWN_WORDS) {
            if (!STATEMENTS.contains(own)) {
                faults(1, "|" + own + " 5;");
            }
            if (!PARTS.contains(own)) {
                faults(1, "worth |" + own + ";");
                faults(1, "worth 1+|" + own + ";");
            }
            if (!own.equals("or") && !own.equals("and")) {
                faults(1, "worth if(all |" + own + ",1,2);");
            }
            faults(1, "seen 5 |" + own + ";");
        }
    }

    // ---- promise 5, FAULTS 2 and 3

    static void promise05ANameThatIsThereAlready() {
        faults(2, T + "tunnel |t gap 1 at 5 weighs 1;");
        faults(2, T + "holder |t breath 5 laughs 0;");
        faults(2, H + "tunnel |h gap 1 at 5 weighs 1;");
        faults(2, H + "holder |h breath 5 laughs 0;");
        faults(2, tunnels(5) + "tunnel |ta gap 1 at 5 weighs 1;");
        faults(2, tunnels(5) + "tunnel |te gap 1 at 5 weighs 1;");
        faults(2, holders(5) + "holder |he breath 5 laughs 0;");
        faults(2, tunnels(6) + "holder |tf breath 5 laughs 0;");
        faults(2, holders(6) + "tunnel |hf gap 1 at 5 weighs 1;");
        reads("tunnel a gap 1 at 5 weighs 1;tunnel aa gap 1 at 5 weighs 1;holder aaa breath 5 laughs 0;"
            + "holder aaaaaa breath 5 laughs 0;holder aaaaab breath 5 laughs 0;holder b breath 5 laughs 0;");
    }

    static void promise05ANameThatIsNoneOfWhatIsAsked() {
        faults(3, "gives |h 5;");
        faults(3, T + "gives |t 5;");
        faults(3, T + H + "thinks |t t 5;");
        faults(3, T + H + "thinks |x t 5;");
        faults(3, T + H + "thinks h |h 5;");
        faults(3, T + H + "thinks h |x 5;");
        faults(3, T + H + "thinks |x x 5;");
        faults(3, H + "gives |hh 5;");
        faults(3, "holder hh breath 5 laughs 0;gives |h 5;");
    }

    static void promise05NamesAreToldAheadOfWhereTheyAreAsked() {
        faults(3, "gives |h 5;" + H);
        faults(3, H + "thinks h |t 5;" + T);
        faults(3, T + "thinks |h t 5;" + H);
        reads(H + T + "thinks h t 5;");
    }

    // ---- promise 5, FAULT 4

    static void promise05NumbersThatCannotBe() {
        faults(4, "tunnel t gap |100 at 5 weighs 1;");
        faults(4, "tunnel t gap |9999 at 5 weighs 1;");
        faults(4, "tunnel t gap 1 at |0 weighs 1;");
        faults(4, "tunnel t gap 1 at |61 weighs 1;");
        faults(4, "tunnel t gap 1 at 5 weighs |0;");
        faults(4, "tunnel t gap 1 at 5 weighs |10;");
        faults(4, "tunnel t gap 1 at 5 weighs 1 at |0 weighs 1;");
        faults(4, "tunnel t gap 1 at 5 weighs 1 at |61 weighs 1;");
        faults(4, "tunnel t gap 1 at 5 weighs 1 at 6 weighs |0;");
        faults(4, "tunnel t gap 1 at 5 weighs 1 at 6 weighs |10;");
        faults(4, "holder h breath |0 laughs 0;");
        faults(4, "holder h breath |61 laughs 0;");
        faults(4, "holder h breath 5 laughs |51;");
        faults(4, T + H + "thinks h t |0;");
        faults(4, T + H + "thinks h t |61;");
        faults(4, H + "gives h |61;");
        faults(4, "seen |101;");
        faults(4, "fine |1000;");
    }

    static void promise05ALengthToldInThatRowAlready() {
        faults(4, "tunnel t gap 1 at 5 weighs 1 at |5 weighs 1;");
        faults(4, "tunnel t gap 1 at 5 weighs 1 at 6 weighs 2 at 7 weighs 3 at |5 weighs 1;");
        faults(4, "tunnel t gap 1 at 5 weighs 1 at 6 weighs 2 at 7 weighs 3 at |7 weighs 1;");
        faults(4, "tunnel t gap 1 at 5 weighs 1 at |0005 weighs 1;");
        faults(4, T + "tunnel u gap 1 at 6 weighs 1 at 5 weighs 1 at |6 weighs 1;");
        reads("tunnel t gap 7 at 5 weighs 7 at 7 weighs 5;");
    }

    // ---- promise 5, FAULT 5

    /** What is opened one in another, as the digits of a number tell; ahead of the 8th that is open stands a mark. */
    private static final class Nest {
        private final int most;
        private long digits;

        Nest(int most, long digits) {
            this.most = most;
            this.digits = digits;
        }

        private int next(int of) {
            int digit = (int) (digits % of);
            digits /= of;
            return digit;
        }

        private static String mark(int open) {
            return open == 7 ? "|" : "";
        }

        String sum(int open) {
            if (open == most) {
                return "held";
            }
            String at = mark(open);
            switch (next(6)) {
                case 0: return at + "(" + sum(open + 1) + ")";
                case 1: return "1+min" + at + "(" + sum(open + 1) + ",2)";
                case 2: return "2*max" + at + "(1," + sum(open + 1) + ")";
                case 3: return "if" + at + "(" + test(open + 1) + ",1,2)";
                case 4: return "if" + at + "(all," + sum(open + 1) + ",2)";
                default: return "if" + at + "(1<2,1," + sum(open + 1) + ")";
            }
        }

        String test(int open) {
            return next(2) == 0 ? fact(open) : "1<2 or all and " + fact(open) + " or all";
        }

        private String fact(int open) {
            if (open == most) {
                return "all";
            }
            switch (next(4)) {
                case 0: return mark(open) + "not " + fact(open + 1);
                case 1: return mark(open) + "[" + test(open + 1) + "]";
                case 2: return sum(open) + "<1";
                default: return "1=" + sum(open);
            }
        }
    }

    static void promise05SevenOpenAtOnceAndTheEighth() {
        for (int i = 0; i < 400; i++) {
            long digits = (i + 1) * 0x9e3779b97f4a7c15L >>> 8;
            reads("worth " + new Nest(7, digits).sum(0).replace("|", "") + ";");
            String eight = "worth " + new Nest(8, digits).sum(0) + ";";
            int mark = eight.indexOf('|');
            faults(5, eight.substring(0, mark + 1) + eight.substring(mark + 1).replace("|", ""));
        }
    }

    static void promise05EachSortAsTheEighth() {
        String seven = "worth if(" + "[".repeat(6);
        faults(5, seven + "|[all");
        faults(5, seven + "|not all");
        faults(5, seven + "|(1)<2");
        faults(5, seven + "1<|(2)");
        faults(5, seven + "min|(1,2)<2");
        faults(5, seven + "max|(1,2)<2");
        faults(5, seven + "if|(all,1,2)<2");
        reads(seven + "all" + "]".repeat(6) + ",1,2);");
    }

    static void promise05ANotIsOpenUntilItsFactEnds() {
        String nots = "not ".repeat(6);
        reads("worth if(" + nots + "all,1,2);");
        faults(5, "worth if(" + nots + "|not all,1,2);");
        faults(5, "worth if(" + nots + "1<2+|(3),1,2);");
        reads("worth if(" + nots + "all and " + nots + "1<2 or " + nots + "1=2,1,2);");
        reads("worth if(" + nots + "1<2,((((((1)))))),((((((2)))))));");
        reads("worth if([" + "not ".repeat(5) + "all]and " + nots + "all,1,2);");
        faults(5, "worth if([" + "not ".repeat(5) + "all and " + "not ".repeat(5) + "|not all],1,2);");
    }

    static void promise05WhatIsClosedIsNotOpen() {
        reads("worth (1)" + "+(1)".repeat(100) + ";");
        reads("worth " + "(".repeat(7) + "1" + ")".repeat(7) + "*" + "(".repeat(7) + "1" + ")".repeat(7) + ";tires "
            + "(".repeat(7) + "1" + ")".repeat(7) + ";");
        faults(5, "worth (1)+" + "(".repeat(7) + "|(1");
        faults(5, "worth 1;tires " + "(".repeat(7) + "|(1");
        reads("worth if(" + "[all]or".repeat(50) + "[all],1,2);");
    }

    static void promise05WhatCannotOpenThereIsNoEighth() {
        faults(1, "worth " + "(".repeat(7) + "|[");
        faults(1, "worth " + "(".repeat(7) + "|not");
        faults(1, "worth " + "(".repeat(7) + "1|(");
        faults(1, "worth " + "(".repeat(7) + "min|1");
        faults(1, "worth " + "(".repeat(7) + "if|;");
    }

    // ---- promise 5, FAULT 6

    static void promise05TheSeventhTunnel() {
        faults(6, tunnels(6) + "|tunnel x gap 1 at 5 weighs 1;");
        faults(6, tunnels(6) + "seen 5;|tunnel");
        faults(6, tunnels(6) + "|tunnel ta gap 100;");
        reads(tunnels(6) + "holder x breath 5 laughs 0;");
    }

    static void promise05TheSeventhHolder() {
        faults(6, holders(6) + "|holder x breath 5 laughs 0;");
        faults(6, holders(6) + "seen 5;|holder");
        faults(6, holders(6) + "|holder ha breath 61;");
        reads(holders(6) + "tunnel x gap 1 at 5 weighs 1;");
    }

    static void promise05TheFifthLength() {
        String four = "tunnel t gap 1 at 1 weighs 1 at 2 weighs 1 at 3 weighs 1 at 4 weighs 1";
        reads(four + ";");
        faults(6, four + " |at 5 weighs 1;");
        faults(6, four + " |at 1 weighs 1;");
        faults(6, four + " |at;");
        faults(1, four + " |gap;");
    }

    static void promise05NoLengthAtAll() {
        faults(1, "tunnel t gap 1|;");
        faults(1, "tunnel t gap 1 |weighs 1;");
    }

    static void promise05ASecondWorthAndASecondTires() {
        reads("worth 1;tires 1;");
        faults(6, "worth 1;|worth 1;");
        faults(6, "tires 1;|tires 1;");
        faults(6, "worth 1;tires 1;seen 1;|worth");
        faults(6, "worth 1;tires 1;seen 1;|tires");
    }

    static void promise05TheEightyFirstStatement() {
        String eighty = "seen 0;".repeat(80);
        faults(6, eighty + "|seen 0;");
        faults(6, eighty + " \n |seen 0;");
        faults(6, eighty + "|!");
        faults(6, eighty + "|abcdefg");
        faults(6, eighty + "|12345");
        faults(6, eighty + "|;");
        faults(6, eighty + "|s");
        faults(6, tunnels(6) + "seen 0;".repeat(74) + "|tunnel x gap 1 at 5 weighs 1;");
        String fewer = "seen 0;".repeat(79);
        reads(fewer + "seen 0;");
        faults(1, fewer + "|!");
        faults(1, fewer + "abcdef|g");
    }

    static void promise05ThinksGivesSeenAndFineAsOftenAsOneLikes() {
        for (String kind : new String[] {"thinks h t 9;", "gives h 9;", "seen 9;", "fine 9;"}) {
            reads(T + H + kind.repeat(78));
            faults(6, T + H + kind.repeat(78) + "|" + kind);
        }
    }
}
