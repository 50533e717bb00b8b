/** Promises 1 to 8: a new object, letter, blank, fault, take, word, change, snow. */
public final class LetterTest {
    private static final Due due = new Due();

    public static void main(String[] args) {
        newObject();
        letter();
        blank();
        fault();
        take();
        takeBeginsAnew();
        word();
        change();
        snow();
        due.end();
    }

    private static void newObject() {
        ReadBackwards x = new ReadBackwards();
        for (int what = 0; what <= 8; what++) due.is("new: count(" + what + ")", x.count(what), 0);
        due.is("new: word(0, 0)", x.word(0, 0), Due.UNKNOWN);
        due.is("new: snow(1)", x.snow(1), Due.STATE);
        due.is("new: fault()", x.fault(), 0);
        due.is("new: which()", x.which(), 31);
        due.is("new: image()", x.image(), Due.STATE);
    }

    private static void letter() {
        ReadBackwards x = new ReadBackwards();
        int[] outside = {0, -1, 127, 128, Due.LOWEST, Due.HIGHEST};
        for (int code : outside) due.refused(x, "letter(" + code + ")", () -> x.letter(code), Due.OUTSIDE);
        due.is("letter(1)", x.letter(1), 1);
        due.is("letter(126)", x.letter(126), 2);
        for (int size = 3; size <= 12; size++) due.is("letter to " + size, x.letter('y'), size);
        due.refused(x, "13th letter('y')", () -> x.letter('y'), Due.FULL);
        due.refused(x, "13th letter(0)", () -> x.letter(0), Due.OUTSIDE);
        due.refused(x, "13th letter(127)", () -> x.letter(127), Due.OUTSIDE);
        due.is("count(6)", x.count(6), 12);
    }

    private static void blank() {
        ReadBackwards x = new ReadBackwards();
        due.is("blank() of none", x.blank(), 0);
        Due.page(x, "y;1");
        due.is("blank() of three", x.blank(), 3);
        due.is("blank() again", x.blank(), 0);
        due.is("count(6) behind blank()", x.count(6), 0);
        due.is("take() behind blank()", x.take(), Due.STATE);
        Due.page(x, "yyyyyyyyyyyy").blank();
        due.is("letter() behind blank() of twelve", x.letter('n'), 1);
    }

    private static void fault() {
        String[] texts = {"", "y", "yntud.", ";", "y;", "y;0", "y;1", "y;9", "y;:", "y;11", "y;9;", "y;9y", "y;;",
            "1", "Y", "yx;1", "y1", "z;;;", "yyyyyyyyy", "yyyyyyyyyy", "yyyyyyyyy;", "yyyyyyyyy;9", "yyyyyyyyy;9;",
            "yyyyyyyyyyyy", ".", "y ;1", "y,;1", "ntu;y"};
        int[] places = {0, 1, 6, 0, 2, 2, 3, 3, 2, 3, 3, 3, 2,
            0, 0, 1, 1, 0, 9, 9, 10, 11, 11,
            9, 1, 1, 1, 4};
        for (int i = 0; i < texts.length; i++) {
            ReadBackwards x = Due.page(new ReadBackwards(), texts[i]);
            due.is("fault() of " + texts[i], x.fault(), places[i]);
            due.is("count(6) behind fault() of " + texts[i], x.count(6), texts[i].length());
        }
    }

    private static void take() {
        String[] none = {"", "y", "yn", ";1", "y;", "y;0", "y;11", "yyyyyyyyyy;1", "yyyyyyyyyyyy", "x;1", "y;1;1", "y1"};
        for (String text : none) {
            ReadBackwards x = Due.page(new ReadBackwards(), text);
            due.refused(x, "take() of " + text, x::take, Due.STATE);
        }
        String[] letters = {"y;1", "n;9", "yntud.;3", "yyyyyyyyy;5"};
        int[] words = {1, 1, 6, 9};
        int[] snow = {1, 9, 3, 5};
        for (int i = 0; i < letters.length; i++) {
            ReadBackwards x = Due.page(new ReadBackwards(), letters[i]);
            due.is("take() of " + letters[i], x.take(), words[i]);
            due.is("count(0) of " + letters[i], x.count(0), words[i]);
            due.is("count(1) of " + letters[i], x.count(1), snow[i]);
            due.is("count(6) of " + letters[i], x.count(6), 0);
            due.is("count(7) of " + letters[i], x.count(7), 1);
        }
    }

    private static void takeBeginsAnew() {
        ReadBackwards x = Due.heardBy("ynt;4", Due.WIDOW, Due.DEAF);
        x.tell(1, true);
        x.change(0, 1);
        Due.page(x, "yn");
        due.refused(x, "take() of yn", x::take, Due.STATE);
        due.is("listeners stay with a refused take()", x.count(2), 2);
        due.is("changes stay with a refused take()", x.count(4), 1);
        x.blank();
        Due.page(x, "du;2");
        due.is("second take()", x.take(), 2);
        due.is("word(0, 0) of the second", x.word(0, 0), 4);
        due.is("word(2, 0) of the second", x.word(2, 0), Due.UNKNOWN);
        due.is("snow of the second", x.count(1), 2);
        due.is("listeners of the second", x.count(2), 0);
        due.is("told of the second", x.count(5), 0);
        due.is("which() of the second", x.which(), 31);
        due.is("changes of the second", x.count(4), 0);
        due.is("how often taken", x.count(7), 2);
        due.is("listener() of the second", x.listener(Due.HASTY), 0);
    }

    private static void word() {
        ReadBackwards x = Due.taken("dnty.unn;1");
        int[] which = {4, 1, 2, 0, 5, 3, 1, 1};
        int[] fromEnd = {105, 104, 103, 103, 102, 102, 98, 99};
        int[] fromTop = {101, 100, 100, 99, 99, 101, 100, 99};
        for (int place = 0; place < 8; place++) {
            due.is("word(" + place + ", 0)", x.word(place, 0), which[place]);
            due.is("word(" + place + ", 1)", x.word(place, 1), fromEnd[place]);
            due.is("word(" + place + ", 2)", x.word(place, 2), fromTop[place]);
        }
        due.is("two NOTs", Due.taken("tty;1").word(2, 2), 101);
        due.is("NOT, YES, YES", Due.taken("tyy;1").word(2, 2), 100);
        due.is("NOT, NO", Due.taken("tn;1").word(1, 2), 101);
        due.is("NOT, DEAR", Due.taken("td;1").word(1, 2), 101);
        due.is("NOT, DEAR, YES", Due.taken("tdy;1").word(2, 2), 100);
        due.is("NOT, PAUSE, UNLESS, YES", Due.taken("t.uy;1").word(3, 2), 99);
        due.is("UNLESS of NO", Due.taken("nu;1").word(1, 2), 101);
        due.is("nobody shuts", Due.taken("nnnnnnnnn;1").word(0, 1), 91);
        due.is("most", Due.taken("ddddddddd;1").word(8, 2), 109);
        int[] unknown = {-1, 8, 9, Due.LOWEST, Due.HIGHEST};
        for (int place : unknown) {
            due.refused(x, "word(" + place + ", 0)", () -> x.word(place, 0), Due.UNKNOWN);
            due.refused(x, "word(" + place + ", 9)", () -> x.word(place, 9), Due.UNKNOWN);
        }
        int[] outside = {-1, 3, Due.LOWEST, Due.HIGHEST};
        for (int what : outside) due.refused(x, "word(0, " + what + ")", () -> x.word(0, what), Due.OUTSIDE);
    }

    private static void change() {
        ReadBackwards x = Due.taken("yn;9");
        due.is("change(0, 5)", x.change(0, 5), 0);
        due.is("change(1, 0)", x.change(1, 0), 1);
        due.is("change(1, 0) to the same", x.change(1, 0), 0);
        due.is("word(0, 0)", x.word(0, 0), 5);
        due.is("word(1, 0)", x.word(1, 0), 0);
        due.is("word(0, 1)", x.word(0, 1), 101);
        due.is("count(4)", x.count(4), 3);
        int[] unknown = {-1, 2, 9, Due.LOWEST, Due.HIGHEST};
        for (int place : unknown) due.refused(x, "change(" + place + ", 6)", () -> x.change(place, 6), Due.UNKNOWN);
        int[] outside = {-1, 6, Due.LOWEST, Due.HIGHEST};
        for (int word : outside) due.refused(x, "change(1, " + word + ")", () -> x.change(1, word), Due.OUTSIDE);
        due.is("change() without a letter", new ReadBackwards().change(0, 0), Due.UNKNOWN);
    }

    private static void snow() {
        ReadBackwards x = Due.heardBy("yyy;4", Due.LISTENER);
        due.is("snow(1)", x.snow(1), 4);
        due.is("heard with snow 1", x.about(0, 1), 1);
        due.is("snow(9)", x.snow(9), 1);
        due.is("heard with snow 9", x.about(0, 1), 3);
        due.is("count(1)", x.count(1), 9);
        int[] outside = {0, -1, 10, Due.LOWEST, Due.HIGHEST};
        for (int snow : outside) {
            due.refused(x, "snow(" + snow + ")", () -> x.snow(snow), Due.OUTSIDE);
            due.is("snow(" + snow + ") without a letter", new ReadBackwards().snow(snow), Due.OUTSIDE);
        }
        ReadBackwards none = new ReadBackwards();
        due.refused(none, "snow(9) without a letter", () -> none.snow(9), Due.STATE);
    }
}
