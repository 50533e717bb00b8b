/** The terms of LISTENERS; promises 9 to 11: listener, about, as. */
public final class ListenerTest {
    private static final int[] NO_KINDS = {-1, 5, 6, Due.LOWEST, Due.HIGHEST};

    private static final Due due = new Due();

    public static void main(String[] args) {
        due.terms("LISTENERS (4 at most", "WRITE for a KIND");
        fourOfFiveKinds();
        allAreListeners();
        allShutBelow();
        widowsShutBehindDear();
        hastyShutsBehindTheSecondPause();
        brideShutsAbove();
        deafNeverShuts();
        noMoreThanSnow();
        whatSheHasHeard();
        due.promise("int listener(int kind)");
        listenerAnswersHerNumber();
        listenerRefusesKinds();
        listenerWithoutALetter();
        listenersAreFull();
        due.promise("int about(int listener, int what)");
        aboutKind();
        aboutFromTheEnd();
        aboutFromTheTop();
        aboutRefusesNumbers();
        aboutRefusesWhats();
        due.promise("int as(int listener, int kind)");
        asAnswersHerNumber();
        asFails();
        asRefusesNumbers();
        asRefusesKinds();
        due.end();
    }

    // ---- terms

    private static void fourOfFiveKinds() {
        due.says("LISTENERS (4 at most, numbered) are of KINDS: 0 LISTENER, 1 WIDOW, 2 DEAF, 3 HASTY, 4 BRIDE.");
        for (int kind = 0; kind <= 4; kind++) {
            ReadBackwards x = Due.taken("y;1");
            for (int number = 0; number < 4; number++) due.is("listener(" + kind + ")", x.listener(kind), number);
            due.refusedEach(x, "fifth listener(#)", x::listener, Due.FULL, kind);
        }
    }

    private static void allAreListeners() {
        due.says("All are LISTENERS; a BRIDE is a WIDOW, too.");
        for (int kind = 0; kind <= 4; kind++) {
            due.is(kind + " as a LISTENER", Due.heardBy("y;1", kind).as(0, Due.LISTENER), 0);
        }
        due.is("a BRIDE as a WIDOW", Due.heardBy("y;1", Due.BRIDE).as(0, Due.WIDOW), 0);
        due.is("a WIDOW as a BRIDE", Due.heardBy("y;1", Due.WIDOW).as(0, Due.BRIDE), Due.NONE);
    }

    private static void allShutBelow() {
        due.says("One SHUTS the door behind the first WORD by which: the VALUE is below -1;");
        for (int kind : new int[] {Due.LISTENER, Due.WIDOW, Due.HASTY, Due.BRIDE}) {
            heard("n;9", kind, 1, 99, 0, 1, 99, 0);
            heard("nn;9", kind, 2, 98, 1, 2, 98, 1);
            heard("nnn;9", kind, 2, 98, 1, 2, 98, 1);
            heard("ynn;9", kind, 2, 98, 1, 3, 99, 0);
            heard("nny;9", kind, 3, 99, 0, 2, 98, 1);
            heard("tyty;9", kind, 4, 100, 0, 4, 98, 1);
        }
        heard("yyu;9", Due.WIDOW, 3, 102, 0, 3, 98, 1);
        heard("yyyyu;9", Due.HASTY, 5, 104, 0, 5, 96, 1);
        heard("uyyyyyyyy;9", Due.LISTENER, 9, 92, 1, 9, 108, 0);
    }

    private static void widowsShutBehindDear() {
        due.says("a WIDOW (a BRIDE) also behind DEAR;");
        for (int kind : new int[] {Due.WIDOW, Due.BRIDE}) {
            heard("d;9", kind, 1, 101, 1, 1, 101, 1);
            heard("nd;9", kind, 1, 101, 1, 2, 100, 1);
            heard("ydn;9", kind, 2, 100, 1, 2, 102, 1);
            heard("ddd;9", kind, 1, 101, 1, 1, 101, 1);
        }
        for (int kind : new int[] {Due.LISTENER, Due.DEAF, Due.HASTY}) {
            heard("d;9", kind, 1, 101, 0, 1, 101, 0);
            heard("ydn;9", kind, 3, 101, 0, 3, 101, 0);
        }
    }

    private static void hastyShutsBehindTheSecondPause() {
        due.says("a HASTY one also behind the second PAUSE;");
        heard(".;9", Due.HASTY, 1, 100, 0, 1, 100, 0);
        heard("..;9", Due.HASTY, 2, 100, 1, 2, 100, 1);
        heard("...;9", Due.HASTY, 2, 100, 1, 2, 100, 1);
        heard(".yn;9", Due.HASTY, 3, 100, 0, 3, 100, 0);
        heard(".y.n;9", Due.HASTY, 4, 100, 1, 3, 101, 1);
        heard(".yyyyyyy.;9", Due.HASTY, 9, 107, 1, 9, 107, 1);
        for (int kind : new int[] {Due.LISTENER, Due.WIDOW, Due.DEAF, Due.BRIDE}) {
            heard(".y.n.;9", kind, 5, 100, 0, 5, 100, 0);
        }
    }

    private static void brideShutsAbove() {
        due.says("a BRIDE also if the VALUE is above 1.");
        heard("y;9", Due.BRIDE, 1, 101, 0, 1, 101, 0);
        heard("yy;9", Due.BRIDE, 2, 102, 1, 2, 102, 1);
        heard("yyy;9", Due.BRIDE, 2, 102, 1, 2, 102, 1);
        heard("yyn;9", Due.BRIDE, 3, 101, 0, 2, 102, 1);
        heard("yuu;9", Due.BRIDE, 3, 101, 0, 3, 101, 0);
        for (int kind : new int[] {Due.LISTENER, Due.WIDOW, Due.DEAF, Due.HASTY}) {
            heard("yyyyyyyyy;9", kind, 9, 109, 0, 9, 109, 0);
        }
    }

    private static void deafNeverShuts() {
        due.says("A DEAF one never SHUTS, and always has it from the TOP.");
        heard("nnnnnnnnn;9", Due.DEAF, 9, 91, 0, 9, 91, 0);
        heard("ddddddddd;9", Due.DEAF, 9, 109, 0, 9, 109, 0);
        heard(".........;9", Due.DEAF, 9, 100, 0, 9, 100, 0);
        heard("yu;9", Due.DEAF, 2, 99, 0, 2, 99, 0);
        heard("uy;9", Due.DEAF, 2, 101, 0, 2, 101, 0);
    }

    private static void noMoreThanSnow() {
        due.says("No more WORDS are READ to one than SNOW tells (to a DEAF one all are).");
        for (int snow = 1; snow <= 9; snow++) {
            int words = Math.min(snow, 4);
            heard("....;" + snow, Due.LISTENER, words, 100, 0, words, 100, 0);
            heard("ynty;" + snow, Due.DEAF, 4, 99, 0, 4, 99, 0);
        }
        heard("nny;1", Due.LISTENER, 1, 101, 0, 1, 99, 0);
        heard("ynn;2", Due.LISTENER, 2, 98, 1, 2, 100, 0);
        heard("ynn;3", Due.HASTY, 2, 98, 1, 3, 99, 0);
        heard("d;5", Due.BRIDE, 1, 101, 1, 1, 101, 1);
        heard("..;1", Due.HASTY, 1, 100, 0, 1, 100, 0);
        heard("..;2", Due.HASTY, 2, 100, 1, 2, 100, 1);
        heard("yutn;1", Due.DEAF, 4, 100, 0, 4, 100, 0);
    }

    private static void whatSheHasHeard() {
        due.says("What she has HEARD is as many WORDS, the VALUE behind the last of them.");
        heard("yyyyyyynn;9", Due.LISTENER, 2, 98, 1, 9, 105, 0);
        heard("ynnd;9", Due.LISTENER, 4, 100, 0, 4, 100, 0);
        heard("nd.y;2", Due.WIDOW, 2, 101, 0, 2, 100, 1);
        heard("tn;1", Due.BRIDE, 1, 99, 0, 1, 100, 0);
    }

    /** What about() tells for 1 to 6. */
    private static void heard(String text, int kind, int... want) {
        ReadBackwards x = Due.heardBy(text, kind);
        for (int what = 1; what <= 6; what++) {
            due.is(text + " to " + kind + ": about(0, " + what + ")", x.about(0, what), want[what - 1]);
        }
    }

    // ---- promise 9

    private static void listenerAnswersHerNumber() {
        due.says("A LISTENER: her number.");
        ReadBackwards x = Due.taken("y;1");
        int[] kinds = {Due.BRIDE, Due.LISTENER, Due.LISTENER, Due.HASTY};
        for (int number = 0; number < 4; number++) {
            due.is("listener " + number, x.listener(kinds[number]), number);
            due.is("count(2)", x.count(2), number + 1);
        }
        for (int number = 0; number < 4; number++) due.is("kind of " + number, x.about(number, 0), kinds[number]);
    }

    private static void listenerRefusesKinds() {
        due.says("OUTSIDE: kind;");
        ReadBackwards none = new ReadBackwards();
        ReadBackwards some = Due.heardBy("y;1", Due.DEAF);
        ReadBackwards full = Due.heardBy("y;1", 0, 1, 2, 3);
        due.refusedEach(none, "listener(#) without a letter", none::listener, Due.OUTSIDE, NO_KINDS);
        due.refusedEach(some, "listener(#)", some::listener, Due.OUTSIDE, NO_KINDS);
        due.refusedEach(full, "fifth listener(#)", full::listener, Due.OUTSIDE, NO_KINDS);
        for (int kind = 0; kind <= 4; kind++) due.is("listener(" + kind + ")", Due.taken("y;1").listener(kind), 0);
    }

    private static void listenerWithoutALetter() {
        due.says("STATE: no LETTER;");
        ReadBackwards none = Due.page(new ReadBackwards(), "y;1");
        due.refusedEach(none, "listener(#) without a letter", none::listener, Due.STATE, 0, 1, 2, 3, 4);
        none.take();
        due.is("listener(4) with one", none.listener(4), 0);
    }

    private static void listenersAreFull() {
        due.says("FULL.");
        ReadBackwards x = Due.heardBy("y;1", 4, 3, 2, 1);
        due.refusedEach(x, "fifth listener(#)", x::listener, Due.FULL, 0, 1, 2, 3, 4);
        for (int number = 0; number < 4; number++) due.is("kind of " + number, x.about(number, 0), 4 - number);
        Due.page(x, "y;1").take();
        due.is("listener(0) of another letter", x.listener(0), 0);
    }

    // ---- promise 10

    private static void aboutKind() {
        due.says("Of a LISTENER: what = 0 KIND;");
        for (int kind = 0; kind <= 4; kind++) {
            ReadBackwards x = Due.heardBy("y;1", Due.DEAF, kind);
            due.is("about(1, 0) of " + kind, x.about(1, 0), kind);
            due.is("about(0, 0) ahead of " + kind, x.about(0, 0), Due.DEAF);
        }
    }

    private static void aboutFromTheEnd() {
        due.says("READ from the END: 1 how many WORDS she HEARS, 2 the VALUE, and 100, 3 whether she SHUTS (1, 0);");
        ReadBackwards x = Due.heardBy("dnty.unn;6", Due.BRIDE, Due.DEAF);
        due.is("about(0, 1)", x.about(0, 1), 2);
        due.is("about(0, 2)", x.about(0, 2), 98);
        due.is("about(0, 3)", x.about(0, 3), 1);
        due.is("about(1, 1)", x.about(1, 1), 8);
        due.is("about(1, 2)", x.about(1, 2), 99);
        due.is("about(1, 3)", x.about(1, 3), 0);
        x.change(7, 0);
        due.is("about(0, 1) behind a change", x.about(0, 1), 6);
        due.is("about(0, 2) behind a change", x.about(0, 2), 101);
        due.is("about(0, 3) behind a change", x.about(0, 3), 0);
    }

    private static void aboutFromTheTop() {
        due.says("READ from the TOP: 4 to 6 likewise.");
        ReadBackwards x = Due.heardBy("ynn.nndty;6", Due.BRIDE, Due.DEAF);
        due.is("about(0, 4)", x.about(0, 4), 5);
        due.is("about(0, 5)", x.about(0, 5), 98);
        due.is("about(0, 6)", x.about(0, 6), 1);
        due.is("about(1, 4)", x.about(1, 4), 9);
        due.is("about(1, 5)", x.about(1, 5), 97);
        due.is("about(1, 6)", x.about(1, 6), 0);
        x.snow(4);
        due.is("about(0, 4) with snow 4", x.about(0, 4), 4);
        due.is("about(0, 5) with snow 4", x.about(0, 5), 99);
        due.is("about(0, 6) with snow 4", x.about(0, 6), 0);
    }

    private static void aboutRefusesNumbers() {
        due.says("UNKNOWN;");
        ReadBackwards none = new ReadBackwards();
        ReadBackwards nobody = Due.taken("y;1");
        ReadBackwards two = Due.heardBy("y;1", 0, 1);
        ReadBackwards four = Due.heardBy("y;1", 0, 1, 2, 3);
        for (int what : new int[] {0, 6, -1, 7}) {
            String call = "about(#, " + what + ")";
            due.refusedEach(none, call + " without a letter", n -> none.about(n, what), Due.UNKNOWN, -1, 0, 1);
            due.refusedEach(nobody, call + " of nobody", n -> nobody.about(n, what), Due.UNKNOWN, -1, 0, 1);
            due.refusedEach(two, call, n -> two.about(n, what), Due.UNKNOWN, -1, 2, 3, 4, Due.LOWEST, Due.HIGHEST);
            due.refusedEach(four, call, n -> four.about(n, what), Due.UNKNOWN, -1, 4, Due.LOWEST, Due.HIGHEST);
        }
        due.is("about(3, 0)", four.about(3, 0), 3);
    }

    private static void aboutRefusesWhats() {
        due.says("OUTSIDE.");
        ReadBackwards x = Due.heardBy("y;1", 0, 1);
        due.refusedEach(x, "about(0, #)", what -> x.about(0, what), Due.OUTSIDE, -1, 7, Due.LOWEST, Due.HIGHEST);
        due.refusedEach(x, "about(1, #)", what -> x.about(1, what), Due.OUTSIDE, -1, 7);
    }

    // ---- promise 11

    private static void asAnswersHerNumber() {
        due.says("A LISTENER taken as a KIND: her number;");
        ReadBackwards x = Due.heardBy("y;1", 4, 3, 2, 1);
        int[][] such = {{0, 4}, {0, 1}, {0, 0}, {1, 3}, {1, 0}, {2, 2}, {2, 0}, {3, 1}, {3, 0}};
        for (int[] a : such) due.is("as(" + a[0] + ", " + a[1] + ")", x.as(a[0], a[1]), a[0]);
        due.is("as(0, 0) of a LISTENER", Due.heardBy("y;1", 0).as(0, 0), 0);
    }

    private static void asFails() {
        due.says("NONE: she is none such (the cast fails).");
        int[][] none = {{1, 2, 3, 4}, {2, 3, 4}, {1, 3, 4}, {1, 2, 4}, {2, 3}};
        for (int kind = 0; kind <= 4; kind++) {
            ReadBackwards x = Due.heardBy("y;1", Due.DEAF, kind);
            for (int asKind : none[kind]) due.is("as(1, " + asKind + ") of " + kind, x.as(1, asKind), Due.NONE);
            due.is("her kind stays", x.about(1, 0), kind);
        }
    }

    private static void asRefusesNumbers() {
        due.says("UNKNOWN;");
        ReadBackwards none = new ReadBackwards();
        ReadBackwards nobody = Due.taken("y;1");
        ReadBackwards two = Due.heardBy("y;1", 0, 1);
        ReadBackwards four = Due.heardBy("y;1", 0, 1, 2, 3);
        for (int kind : new int[] {0, 4, -1, 5}) {
            String call = "as(#, " + kind + ")";
            due.refusedEach(none, call + " without a letter", n -> none.as(n, kind), Due.UNKNOWN, -1, 0, 1);
            due.refusedEach(nobody, call + " of nobody", n -> nobody.as(n, kind), Due.UNKNOWN, -1, 0, 1);
            due.refusedEach(two, call, n -> two.as(n, kind), Due.UNKNOWN, -1, 2, 3, 4, Due.LOWEST, Due.HIGHEST);
            due.refusedEach(four, call, n -> four.as(n, kind), Due.UNKNOWN, -1, 4, Due.LOWEST, Due.HIGHEST);
        }
    }

    private static void asRefusesKinds() {
        due.says("OUTSIDE.");
        ReadBackwards x = Due.heardBy("y;1", 0, 1);
        due.refusedEach(x, "as(0, #)", kind -> x.as(0, kind), Due.OUTSIDE, NO_KINDS);
        due.refusedEach(x, "as(1, #)", kind -> x.as(1, kind), Due.OUTSIDE, NO_KINDS);
    }
}
