import java.math.BigInteger;

/** The terms of what is TOLD and of DAYS; promises 14 to 18: tell, forget, which, ask, days. */
public final class ToldTest {
    private static final int[] NO_WORDS = {-1, 10, Due.LOWEST, Due.HIGHEST};

    private static final Due due = new Due();

    public static void main(String[] args) {
        due.terms("TOLD (6 at most)", "An IMAGE keeps");
        sixAtMost();
        whichFitsAllTold();
        whichHoldsToTheLetterAsItWas();
        askForFewestLeft();
        askOfLikeOnes();
        askOfNobody();
        daysOfLetters();
        daysSum();
        draws();
        due.promise("int tell(int words, boolean fromTop)");
        tellAnswersHowMuch();
        tellRefusesWords();
        tellWithoutALetter();
        tellIsFull();
        due.promise("int forget()");
        forget();
        due.promise("int which()");
        which();
        due.promise("int ask()");
        ask();
        askWithoutALetter();
        due.promise("int days(int letters, int seed, int what)");
        daysByHand();
        daysRefuseLetters();
        daysRefuseSeeds();
        daysRefuseWhats();
        daysToNobody();
        due.end();
    }

    // ---- terms: TOLD, WHICH, ASK

    private static void sixAtMost() {
        due.says("TOLD (6 at most): that one, of whom it is not known of which KIND she is, HEARD so many WORDS of THE LETTER"
            + " as it is then, READ from the END, or from the TOP.");
        ReadBackwards x = Due.taken("d.yy.n;9");
        for (int much = 1; much <= 6; much++) due.is("tell(6, true)", x.tell(6, true), much);
        due.refused(x, "seventh tell(6, true)", () -> x.tell(6, true), Due.FULL);
        due.is("which() of six", x.which(), 0b00101);
        // Read from the top LISTENER and DEAF hear 6, WIDOW and BRIDE 1, HASTY 5.
        kinds("d.yy.n;9", 6, true, 0b00101);
        kinds("d.yy.n;9", 1, true, 0b10010);
        kinds("d.yy.n;9", 5, true, 0b01000);
        kinds("d.yy.n;9", 2, true, 0);
        // From the end a HASTY one shuts at the second PAUSE, the others hear all.
        kinds("d.yy.n;9", 6, false, 0b10111);
        kinds("d.yy.n;9", 5, false, 0b01000);
        // With snow 3 only a DEAF one has more.
        kinds("d.yy.n;3", 3, true, 0b01001);
        kinds("d.yy.n;3", 6, true, 0b00100);
        kinds("d.yy.n;3", 3, false, 0b11011);
        kinds("d.yy.n;3", 6, false, 0b00100);
    }

    private static void kinds(String text, int words, boolean fromTop, int want) {
        ReadBackwards x = Due.taken(text);
        x.tell(words, fromTop);
        due.is(text + " which() behind tell(" + words + ", " + fromTop + ")", x.which(), want);
    }

    private static void whichFitsAllTold() {
        due.says("WHICH: of which KINDS she can be, so that all TOLD is so");
        ReadBackwards x = Due.taken("d.yy.n;9");
        due.is("nothing is told", x.which(), 0b11111);
        x.tell(6, false);
        due.is("one is told", x.which(), 0b10111);
        x.tell(6, true);
        due.is("two are told", x.which(), 0b00101);
        x.snow(3);
        x.tell(3, true);
        due.is("three are told", x.which(), 0b00001);
        x.tell(1, true);
        due.is("they don't go together", x.which(), 0);
    }

    private static void whichHoldsToTheLetterAsItWas() {
        due.says("(of THE LETTER as it was then): as bits.");
        ReadBackwards x = Due.taken("dy;9");
        x.tell(1, true);
        x.change(0, 0);
        due.is("which() behind a change", x.which(), 0b10010);
        x.snow(1);
        due.is("which() behind snow", x.which(), 0b10010);
        x.tell(1, true);
        due.is("which() of the changed one, too", x.which(), 0b10010);
        x.tell(2, true);
        due.is("which() of a deaf widow", x.which(), 0);
    }

    private static void askForFewestLeft() {
        due.says("ASK: whether to READ THE LETTER to her as it is now, from the END (0), or from the TOP (1),"
            + " so that fewest of these are left at worst, however many WORDS she HEARS;");
        // Four hear all from the end, a HASTY one less; from the top two hear 6, two 1, one 5.
        ReadBackwards x = Due.taken("d.yy.n;9");
        due.is("top: 2 are left, not 4", x.ask(), 1);
        x.change(0, 1);
        x.change(5, 4);
        due.is("as it is now, the other way about", x.ask(), 0);
        // WIDOW and BRIDE are left; from the end of yyd both shut at d, from the top the BRIDE at the second y.
        ReadBackwards y = Due.taken("yyd;9");
        y.tell(1, false);
        due.is("widow, bride", y.which(), 0b10010);
        due.is("top parts them", y.ask(), 1);
        y.snow(1);
        due.is("snow leaves them alike", y.ask(), 0);
        ReadBackwards z = Due.taken("dyy;9");
        z.tell(1, true);
        due.is("widow, bride again", z.which(), 0b10010);
        due.is("end parts them", z.ask(), 0);
        askOfThoseLeft("d..y;9", 4, 0b00101, "nn.y");
        askOfThoseLeft("d..y;9", 1, 0b10010, "yyn.");
        askOfThoseLeft("yyd;9", 3, 0b01111, "d.n");
        askOfNineWords();
    }

    /** Some KINDS are left by what was told; then THE LETTER becomes one that parts them only from the TOP. */
    private static void askOfThoseLeft(String text, int words, int left, String becomes) {
        ReadBackwards x = Due.taken(text);
        x.tell(words, true);
        due.is("which() of " + text, x.which(), left);
        for (int place = 0; place < becomes.length(); place++) x.change(place, Model.SIGNS.indexOf(becomes.charAt(place)));
        due.is(text + " that becomes " + becomes + ": ask()", x.ask(), 1);
    }

    private static void askOfNineWords() {
        // A WIDOW and a BRIDE shut at d: from one side at once, from the other behind all nine.
        due.is("top: 3 are left, not 5", Due.taken("duuuuuuuu;9").ask(), 1);
        due.is("end: 3 are left, not 5", Due.taken("uuuuuuuud;9").ask(), 0);
        // So does a HASTY one at the second PAUSE.
        due.is("top: 4 are left, not 5", Due.taken("..uuuuuuu;9").ask(), 1);
        due.is("end: 4 are left, not 5", Due.taken("uuuuuuu..;9").ask(), 0);
    }

    private static void askOfLikeOnes() {
        due.says("of like ones 0;");
        due.is("all hear one word", Due.taken("y;1").ask(), 0);
        due.is("both ways alike", Due.taken("d.d;9").ask(), 0);
        ReadBackwards x = Due.taken("d.yy.n;9");
        x.tell(1, true);
        due.is("widows are alike both ways", x.ask(), 0);
        ReadBackwards one = Due.taken("d.yy.n;9");
        one.tell(5, true);
        due.is("only a hasty one is left", one.which(), 0b01000);
        due.is("one is left both ways", one.ask(), 0);
    }

    private static void askOfNobody() {
        due.says("none.");
        ReadBackwards x = Due.taken("d.yy.n;9");
        x.tell(0, true);
        due.is("which()", x.which(), 0);
        due.is("ask()", x.ask(), Due.NONE);
        x.forget();
        due.is("ask() behind forget()", x.ask(), 1);
    }

    // ---- terms: DAYS

    private static void daysOfLetters() {
        due.says("DAYS by a SEED, as they would be: so many LETTERS, each of 1 more than a DRAW of 9 WORDS, each of them"
            + " (from the TOP) by a DRAW of 6, are READ from the END (SNOW as told) to one of LISTENERS by a DRAW of how many"
            + " there are:");
        int[][] audiences = {{Due.LISTENER}, {Due.DEAF}, {Due.BRIDE, Due.HASTY}, {Due.WIDOW, Due.DEAF, Due.HASTY},
            {Due.WIDOW, Due.DEAF, Due.HASTY, Due.BRIDE}};
        for (int[] kinds : audiences) {
            for (int snow = 1; snow <= 9; snow += 4) daysByModel(kinds, snow);
        }
        ReadBackwards x = Due.heardBy("nnn;9", Due.LISTENER, Due.WIDOW);
        long before = x.digest();
        x.days(40, 7, 0);
        due.is("digest() behind days(): as they would be, not as they were", x.digest(), before);
    }

    private static void daysByModel(int[] kinds, int snow) {
        ReadBackwards x = Due.heardBy("y;" + snow, kinds);
        for (int seed : new int[] {0, 1, 461, 65536, Due.HIGHEST}) {
            for (int letters : new int[] {1, 2, 40}) {
                long[] want = Model.days(letters, seed, kinds, snow);
                for (int what = 0; what <= 2; what++) {
                    String call = "days(" + letters + ", " + seed + ", " + what + ") with snow " + snow;
                    due.is(call, x.days(letters, seed, what), want[what]);
                }
            }
        }
    }

    private static void daysSum() {
        due.says("how many SHUT; all VALUES together, and 1000.");
        // By seed 1 the LETTER is of several WORDS: she shuts behind -2, with snow 1 she has YES alone.
        ReadBackwards x = Due.heardBy("y;9", Due.LISTENER);
        due.is("one that shuts", x.days(1, 1, 0), 1);
        due.is("her value", x.days(1, 1, 1), 998);
        x.snow(1);
        due.is("nobody shuts with snow 1", x.days(40, 1, 0), 0);
        due.is("the value with snow 1", x.days(1, 1, 1), 1001);
        ReadBackwards deaf = Due.heardBy("y;1", Due.DEAF);
        due.is("a deaf one never shuts", deaf.days(40, 1, 0), 0);
        due.is("a deaf one has it whole", deaf.days(1, 201, 1), 1006);
    }

    private static void draws() {
        due.says("DRAWS: the next SEED each time: 1103515245 times it and 12345, its rest by 2 to the 31;"
            + " then that by 65536 (rounded down), its rest.");
        ReadBackwards x = Due.heardBy("y;9", Due.LISTENER);
        // Seed 0: 12345 (0 by 9: one WORD), 1406932606 (21468 by 6: YES), 654583775 (by 1).
        due.is("three draws from 0", x.days(1, 0, 2), 654583775);
        due.is("by 6 it is YES", x.days(1, 0, 1), 1001);
        // Seed 2 to the 31 less 1 goes round to 1043980748 (15929 by 9: 8, so nine WORDS), and ten draws follow.
        due.is("eleven draws from the highest", x.days(1, Due.HIGHEST, 2), drawn(Due.HIGHEST, 11));
        // A rest that were negative would show as a negative seed.
        for (int seed = 1; seed < 100; seed++) due.is("seed then from " + seed, x.days(40, seed * 20000003, 2) < 0 ? 1 : 0, 0);
    }

    private static long drawn(long seed, int times) {
        BigInteger s = BigInteger.valueOf(seed);
        for (int i = 0; i < times; i++) {
            s = s.multiply(BigInteger.valueOf(1103515245)).add(BigInteger.valueOf(12345)).mod(BigInteger.TWO.pow(31));
        }
        return s.longValue();
    }

    // ---- promise 14

    private static void tellAnswersHowMuch() {
        due.says("It is TOLD: how much is.");
        ReadBackwards x = Due.taken("yn;9");
        int[] words = {2, 0, 9, 2, 1, 3};
        for (int i = 0; i < 6; i++) {
            due.is("tell(" + words[i] + ")", x.tell(words[i], i % 2 == 0), i + 1);
            due.is("count(5)", x.count(5), i + 1);
        }
    }

    private static void tellRefusesWords() {
        due.says("OUTSIDE: words (0 to 9);");
        ReadBackwards none = new ReadBackwards();
        ReadBackwards x = Due.taken("yn;9");
        for (boolean fromTop : new boolean[] {false, true}) {
            due.refusedEach(none, "tell(#) without a letter", words -> none.tell(words, fromTop), Due.OUTSIDE, NO_WORDS);
            due.refusedEach(x, "tell(#)", words -> x.tell(words, fromTop), Due.OUTSIDE, NO_WORDS);
        }
        due.is("tell(0)", x.tell(0, false), 1);
        due.is("tell(9)", x.tell(9, true), 2);
        kinds("yyyyyyyyy;9", 9, true, 0b01111);
        kinds("yyyyyyyyy;9", 0, true, 0);
    }

    private static void tellWithoutALetter() {
        due.says("STATE: no LETTER;");
        ReadBackwards none = Due.page(new ReadBackwards(), "y;1");
        due.refusedEach(none, "tell(#, true) without a letter", words -> none.tell(words, true), Due.STATE, 0, 1, 9);
        due.refusedEach(none, "tell(#, false) without a letter", words -> none.tell(words, false), Due.STATE, 0, 1, 9);
        none.take();
        due.is("tell(1, true) with one", none.tell(1, true), 1);
    }

    private static void tellIsFull() {
        due.says("FULL.");
        ReadBackwards x = Due.taken("yn;9");
        for (int i = 0; i < 6; i++) x.tell(2, true);
        due.refusedEach(x, "seventh tell(#, true)", words -> x.tell(words, true), Due.FULL, 0, 2, 9);
        due.refusedEach(x, "seventh tell(#, false)", words -> x.tell(words, false), Due.FULL, 0, 2, 9);
        due.refusedEach(x, "seventh tell(#, true)", words -> x.tell(words, true), Due.OUTSIDE, NO_WORDS);
        due.is("which() of the six", x.which(), 0b11111);
        due.is("count(5)", x.count(5), 6);
    }

    // ---- promise 15

    private static void forget() {
        due.says("Nothing is TOLD any more: how much was.");
        ReadBackwards x = new ReadBackwards();
        due.is("forget() without a letter", x.forget(), 0);
        Due.page(x, "yn;9").take();
        due.is("forget() of nothing", x.forget(), 0);
        for (int i = 0; i < 6; i++) x.tell(0, true);
        due.is("which() of nobody", x.which(), 0);
        due.is("forget()", x.forget(), 6);
        due.is("count(5) behind forget()", x.count(5), 0);
        due.is("which() behind forget()", x.which(), 31);
        due.is("forget() again", x.forget(), 0);
        due.is("tell() behind forget()", x.tell(2, true), 1);
        due.is("which() of what is told since", x.which(), 31);
    }

    // ---- promise 16

    private static void which() {
        due.says("WHICH, as bits.");
        due.is("which() without a letter", new ReadBackwards().which(), 31);
        due.is("which() of nothing told", Due.taken("y;1").which(), 31);
        // Read from the top each KIND hears another number of WORDS.
        int[] bits = {0, 0, 0b10000, 0b00010, 0, 0b01000, 0b00001, 0, 0, 0b00100};
        for (int words = 0; words <= 9; words++) kinds("yyd..uyyy;9", words, true, bits[words]);
    }

    // ---- promise 17

    private static void ask() {
        due.says("ASK; NONE.");
        ReadBackwards x = Due.taken("d.yy.n;9");
        due.is("top", x.ask(), 1);
        due.is("end", Due.taken("n.yy.d;9").ask(), 0);
        x.tell(2, true);
        due.is("nobody hears two", x.ask(), Due.NONE);
        long before = x.digest();
        x.ask();
        due.is("digest() behind ask()", x.digest(), before);
    }

    private static void askWithoutALetter() {
        due.says("STATE: no LETTER.");
        ReadBackwards none = Due.page(new ReadBackwards(), "y;1");
        due.refused(none, "ask() without a letter", none::ask, Due.STATE);
        none.take();
        due.is("ask() with one", none.ask(), 0);
    }

    // ---- promise 18

    private static void daysByHand() {
        due.says("DAYS: what = 0 how many SHUT, 1 all VALUES, and 1000, 2 the SEED then.");
        ReadBackwards x = Due.heardBy("nnn;9", Due.LISTENER);
        due.is("days(1, 0, 0)", x.days(1, 0, 0), 0);
        due.is("days(1, 0, 1)", x.days(1, 0, 1), 1001);
        due.is("days(1, 0, 2)", x.days(1, 0, 2), 654583775);
        int then = x.days(39, 5, 2);
        int shut = x.days(39, 5, 0) + x.days(1, then, 0);
        int values = x.days(39, 5, 1) + x.days(1, then, 1) - 1000;
        due.is("39 days and 1: how many shut", x.days(40, 5, 0), shut);
        due.is("39 days and 1: values", x.days(40, 5, 1), values);
        due.is("39 days and 1: seed", x.days(40, 5, 2), x.days(1, then, 2));
        due.is("the letter is as it was", x.count(0), 3);
    }

    private static void daysRefuseLetters() {
        due.says("OUTSIDE: letters (1 to 40),");
        ReadBackwards none = new ReadBackwards();
        ReadBackwards x = Due.heardBy("y;1", Due.LISTENER);
        int[] outside = {0, -1, 41, Due.LOWEST, Due.HIGHEST};
        due.refusedEach(x, "days(#, 0, 0)", letters -> x.days(letters, 0, 0), Due.OUTSIDE, outside);
        due.refusedEach(none, "days(#, 0, 0) of none", letters -> none.days(letters, 0, 0), Due.OUTSIDE, outside);
        due.is("days(1, 0, 1)", x.days(1, 0, 1), 1001);
        due.is("days(40, 0, 0) with snow 1", x.days(40, 0, 0), 0);
    }

    private static void daysRefuseSeeds() {
        due.says("seed (0 at least),");
        ReadBackwards none = new ReadBackwards();
        ReadBackwards x = Due.heardBy("y;1", Due.LISTENER);
        due.refusedEach(x, "days(1, #, 0)", seed -> x.days(1, seed, 0), Due.OUTSIDE, -1, -2, Due.LOWEST);
        due.refusedEach(none, "days(1, #, 0) of none", seed -> none.days(1, seed, 0), Due.OUTSIDE, -1, Due.LOWEST);
        due.is("days(1, 0, 2)", x.days(1, 0, 2), 654583775);
        due.is("days(1, highest, 2)", x.days(1, Due.HIGHEST, 2), drawn(Due.HIGHEST, 11));
    }

    private static void daysRefuseWhats() {
        due.says("what;");
        ReadBackwards none = new ReadBackwards();
        ReadBackwards x = Due.heardBy("y;1", Due.LISTENER);
        int[] outside = {-1, 3, Due.LOWEST, Due.HIGHEST};
        due.refusedEach(x, "days(1, 0, #)", what -> x.days(1, 0, what), Due.OUTSIDE, outside);
        due.refusedEach(none, "days(1, 0, #) of none", what -> none.days(1, 0, what), Due.OUTSIDE, outside);
    }

    private static void daysToNobody() {
        due.says("STATE: there are no LISTENERS.");
        ReadBackwards none = new ReadBackwards();
        due.refusedEach(none, "days(1, 0, #) without a letter", what -> none.days(1, 0, what), Due.STATE, 0, 1, 2);
        ReadBackwards x = Due.taken("y;1");
        due.refusedEach(x, "days(40, 0, #) to nobody", what -> x.days(40, 0, what), Due.STATE, 0, 1, 2);
        x.image();
        x.listener(Due.LISTENER);
        due.is("days(1, 0, 1) to one", x.days(1, 0, 1), 1001);
        x.restore();
        due.refused(x, "days(1, 0, 1) when she is gone", () -> x.days(1, 0, 1), Due.STATE);
        x.listener(Due.LISTENER);
        Due.page(x, "y;1").take();
        due.refused(x, "days(1, 0, 1) with another letter", () -> x.days(1, 0, 1), Due.STATE);
    }
}
