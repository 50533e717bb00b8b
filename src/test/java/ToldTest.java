/** Promises 14 to 18: tell, forget, which, ask, days. */
public final class ToldTest {
    private static final Due due = new Due();

    public static void main(String[] args) {
        tell();
        forget();
        which();
        whichAsItWasThen();
        ask();
        daysByHand();
        daysRefuse();
        due.end();
    }

    private static void tell() {
        int[] outside = {-1, 10, Due.LOWEST, Due.HIGHEST};
        ReadBackwards none = new ReadBackwards();
        due.refused(none, "tell(0, true) without a letter", () -> none.tell(0, true), Due.STATE);
        for (int words : outside) due.refused(none, "tell(" + words + ")", () -> none.tell(words, false), Due.OUTSIDE);
        ReadBackwards x = Due.taken("yn;9");
        int[] words = {2, 0, 9, 2, 1, 3};
        for (int i = 0; i < 6; i++) due.is("tell(" + words[i] + ")", x.tell(words[i], i % 2 == 0), i + 1);
        due.is("count(5)", x.count(5), 6);
        due.refused(x, "seventh tell()", () -> x.tell(2, true), Due.FULL);
        for (int many : outside) due.refused(x, "seventh tell(" + many + ")", () -> x.tell(many, true), Due.OUTSIDE);
    }

    private static void forget() {
        ReadBackwards x = new ReadBackwards();
        due.is("forget() without a letter", x.forget(), 0);
        Due.page(x, "yn;9").take();
        for (int i = 0; i < 6; i++) x.tell(0, true);
        due.is("which() of nobody", x.which(), 0);
        due.is("forget()", x.forget(), 6);
        due.is("which() behind forget()", x.which(), 31);
        due.is("forget() again", x.forget(), 0);
        due.is("tell() behind forget()", x.tell(1, true), 1);
    }

    private static void which() {
        // d.yy.n from the top: LISTENER 6, WIDOW 1, DEAF 6, HASTY 5, BRIDE 1; from the end nobody shuts but:
        // WIDOW and BRIDE at d (6), HASTY at the second PAUSE (5); BRIDE is at 1 behind n, ., y, y
        kinds("d.yy.n;9", 6, true, 0b00101);
        kinds("d.yy.n;9", 1, true, 0b10010);
        kinds("d.yy.n;9", 5, true, 0b01000);
        kinds("d.yy.n;9", 2, true, 0);
        kinds("d.yy.n;9", 6, false, 0b10111);
        kinds("d.yy.n;9", 5, false, 0b01000);
        // with snow all but a deaf one have three at most
        kinds("d.yy.n;3", 3, true, 0b01001);
        kinds("d.yy.n;3", 6, true, 0b00100);
        kinds("d.yy.n;3", 3, false, 0b11011);
        kinds("d.yy.n;3", 0, false, 0);
        kinds("d.yy.n;3", 9, false, 0);
        ReadBackwards x = Due.taken("d.yy.n;9");
        x.tell(6, false);
        x.tell(6, true);
        due.is("both told", x.which(), 0b00101);
        x.snow(3);
        x.tell(3, true);
        due.is("with a third", x.which(), 0b00001);
    }

    private static void kinds(String text, int words, boolean fromTop, int want) {
        ReadBackwards x = Due.taken(text);
        x.tell(words, fromTop);
        due.is(text + " which() behind tell(" + words + ", " + fromTop + ")", x.which(), want);
    }

    private static void whichAsItWasThen() {
        ReadBackwards x = Due.taken("dy;9");
        x.tell(1, true);
        x.change(0, 0);
        due.is("which() behind a change", x.which(), 0b10010);
        x.snow(1);
        due.is("which() behind snow", x.which(), 0b10010);
        x.tell(2, true);
        due.is("which() of the changed one", x.which(), 0);
    }

    private static void ask() {
        ReadBackwards none = new ReadBackwards();
        due.refused(none, "ask() without a letter", none::ask, Due.STATE);
        due.is("like ones", Due.taken("y;1").ask(), 0);
        // from the end all hear all but a hasty one; from the top 2, 2, 1
        due.is("top tells more", Due.taken("d.yy.n;9").ask(), 1);
        due.is("end tells more", Due.taken("n.yy.d;9").ask(), 0);
        ReadBackwards x = Due.taken("d.yy.n;9");
        x.tell(1, true);
        due.is("which() of widows", x.which(), 0b10010);
        due.is("widows are alike both ways", x.ask(), 0);
        x.tell(0, true);
        due.is("ask() of nobody", x.ask(), Due.NONE);
        // only widow and bride are left: from the end dyy shuts both at d, third or earlier for the bride
        ReadBackwards y = Due.taken("d;9");
        y.tell(1, true);
        due.is("all are left", y.which(), 31);
        Due.page(y, "dyy;9").take();
        y.tell(1, true);
        due.is("widow, bride", y.which(), 0b10010);
        due.is("end parts them: 3 and 2 WORDS", y.ask(), 0);
        Due.page(y, "yyd;9").take();
        y.tell(1, false);
        due.is("widow, bride again", y.which(), 0b10010);
        due.is("top parts them: 3 and 2 WORDS", y.ask(), 1);
        y.snow(1);
        due.is("snow makes them alike", y.ask(), 0);
        y.forget();
        due.is("with snow 1 only a deaf one differs", y.ask(), 0);
    }

    private static void daysByHand() {
        // seed 0: 12345 (0 by 9: one WORD), 1406932606 (21468 by 6: 0 YES), 654583775 (9988 by 1: 0)
        ReadBackwards x = Due.heardBy("nnn;9", Due.LISTENER);
        due.is("days(1, 0, 0)", x.days(1, 0, 0), 0);
        due.is("days(1, 0, 1)", x.days(1, 0, 1), 1001);
        due.is("days(1, 0, 2)", x.days(1, 0, 2), 654583775);
        due.is("the letter is as it was", x.count(0), 3);
        int[][] audiences = {{Due.LISTENER}, {Due.DEAF}, {Due.BRIDE, Due.HASTY}, {Due.WIDOW, Due.DEAF, Due.HASTY, Due.BRIDE}};
        int[] seeds = {0, 1, 461, 65536, Due.HIGHEST};
        for (int[] kinds : audiences) {
            for (int snow = 1; snow <= 9; snow += 4) {
                ReadBackwards y = Due.heardBy("y;" + snow, kinds);
                for (int seed : seeds) {
                    long[] want = Model.days(40, seed, kinds, snow);
                    for (int what = 0; what <= 2; what++) {
                        due.is("days(40, " + seed + ", " + what + ") with snow " + snow, y.days(40, seed, what), want[what]);
                    }
                }
            }
        }
    }

    private static void daysRefuse() {
        ReadBackwards none = new ReadBackwards();
        ReadBackwards x = Due.heardBy("y;1", Due.LISTENER);
        int[][] outside = {{0, 0, 0}, {41, 0, 0}, {-1, 0, 0}, {Due.LOWEST, 0, 0}, {Due.HIGHEST, 0, 0}, {1, -1, 0},
            {1, Due.LOWEST, 0}, {1, 0, -1}, {1, 0, 3}, {1, 0, Due.LOWEST}, {1, 0, Due.HIGHEST}};
        for (int[] a : outside) {
            String call = "days(" + a[0] + ", " + a[1] + ", " + a[2] + ")";
            due.refused(x, call, () -> x.days(a[0], a[1], a[2]), Due.OUTSIDE);
            due.refused(none, call + " to nobody", () -> none.days(a[0], a[1], a[2]), Due.OUTSIDE);
        }
        due.refused(none, "days(1, 0, 0) without a letter", () -> none.days(1, 0, 0), Due.STATE);
        ReadBackwards nobody = Due.taken("y;1");
        due.refused(nobody, "days(40, 0, 2) to nobody", () -> nobody.days(40, 0, 2), Due.STATE);
    }
}
