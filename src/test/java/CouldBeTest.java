/** Promises 12 and 13: write, rest. */
public final class CouldBeTest {
    private static final Due due = new Due();

    public static void main(String[] args) {
        writeByHand();
        writeAll();
        writeRefuses();
        writeEnds();
        restByHand();
        restAll();
        restRefuses();
        due.end();
    }

    private static void writeByHand() {
        // YES alone; the opposite of YES needs UNLESS behind it: from the top 1, -1; from the end 0, 1
        written(Due.LISTENER, 1, 1, 0);
        written(Due.LISTENER, 1, -1, 0, 3);
        written(Due.WIDOW, 2, 2, 0, 0);
        written(Due.BRIDE, 0, 0, 2);
        written(Due.DEAF, -3, -3, 1, 1, 1);
        written(Due.DEAF, 1, 0);
        written(Due.LISTENER, -2, 0);
        written(Due.BRIDE, 2, 1);
        written(Due.LISTENER, 0, 3);
    }

    private static void written(int kind, int end, int top, int... words) {
        ReadBackwards x = new ReadBackwards();
        String call = "write(" + kind + ", " + end + ", " + top + ", ";
        due.is(call + "0)", x.write(kind, end, top, 0), words.length == 0 ? Due.NONE : words.length);
        for (int place = 0; place < 5; place++) {
            int want = place < words.length ? words[place] : Due.NONE;
            due.is(call + (10 + place) + ")", x.write(kind, end, top, 10 + place), want);
        }
        due.is("count(8)", x.count(8), 6);
    }

    private static void writeAll() {
        for (int kind = 0; kind < 5; kind++) {
            for (int end = -3; end <= 3; end++) {
                for (int top = -3; top <= 3; top++) {
                    String text = Model.shortest(kind, end, top);
                    int[] words = new int[text.length()];
                    for (int place = 0; place < words.length; place++) words[place] = Model.SIGNS.indexOf(text.charAt(place));
                    written(kind, end, top, words);
                }
            }
        }
    }

    private static void writeRefuses() {
        ReadBackwards x = Due.taken("y;1");
        int[] kinds = {-1, 5, Due.LOWEST, Due.HIGHEST};
        for (int kind : kinds) due.refused(x, "write(" + kind + ", 0, 0, 0)", () -> x.write(kind, 0, 0, 0), Due.OUTSIDE);
        int[] values = {-4, 4, Due.LOWEST, Due.HIGHEST};
        for (int value : values) {
            due.refused(x, "write(0, " + value + ", 0, 0)", () -> x.write(0, value, 0, 0), Due.OUTSIDE);
            due.refused(x, "write(0, 0, " + value + ", 0)", () -> x.write(0, 0, value, 0), Due.OUTSIDE);
        }
        int[] whats = {-1, 1, 9, 15, Due.LOWEST, Due.HIGHEST};
        for (int what : whats) due.refused(x, "write(0, 0, 0, " + what + ")", () -> x.write(0, 0, 0, what), Due.OUTSIDE);
        due.is("count(8)", x.count(8), 0);
    }

    private static void writeEnds() {
        ReadBackwards x = Due.taken("y;1");
        for (int done = 0; done < 20; done++) {
            due.is("write() done " + done + " times", x.write(0, done % 2 == 0 ? 1 : -2, 1, 0), done % 2 == 0 ? 1 : Due.NONE);
            x.write(9, 0, 0, 0);
        }
        due.refused(x, "21st write()", () -> x.write(0, 1, 1, 0), Due.STATE);
        due.refused(x, "21st write() for no kind", () -> x.write(5, 1, 1, 0), Due.OUTSIDE);
        due.refused(x, "21st write() of no what", () -> x.write(0, 1, 1, 9), Due.OUTSIDE);
        Due.page(x, "n;1").take();
        due.refused(x, "21st write() with another letter", () -> x.write(0, 1, 1, 0), Due.STATE);
        due.is("count(8)", x.count(8), 20);
    }

    private static void restByHand() {
        ReadBackwards x = Due.taken("nyu;1");
        due.is("one word of value 1: YES, DEAR", x.rest(0, 1, 1), 2);
        due.is("one word of value -1: NO", x.rest(0, 1, -1), 1);
        due.is("one word of value 0: NOT, UNLESS, PAUSE", x.rest(0, 1, 0), 3);
        due.is("u itself", x.rest(1, 1, 0), 1);
        due.is("u itself is not 1", x.rest(1, 1, 1), 0);
        due.is("some word, u: NO becomes 1", x.rest(1, 2, 1), 1);
        due.is("some word, yu: NOT turns it", x.rest(2, 3, 1), 1);
        due.is("the whole letter", x.rest(3, 3, 0), 1);
        due.is("all of five words", sumOfRest(x, 0, 5), 7776);
        due.is("all of eight words", sumOfRest(x, 3, 8), 7776);
        due.is("more than nine words, as told", sumOfRest(Due.taken("yyyyyyyyy;1"), 9, 14), 7776);
        due.is("nine YES behind five YES or DEAR", Due.taken("yyyyyyyyy;1").rest(9, 14, 14), 32);
    }

    private static int sumOfRest(ReadBackwards x, int known, int words) {
        int sum = 0;
        for (int value = -20; value <= 20; value++) sum += x.rest(known, words, value);
        return sum;
    }

    private static void restAll() {
        String[] texts = {"n", "tyu", "dnty.unn", "yntud.tut"};
        for (String text : texts) {
            for (int known = 0; known <= text.length(); known += 2) {
                for (int words = Math.max(1, known); words <= known + 5; words++) {
                    ReadBackwards x = Due.taken(text + ";2");
                    for (int value = -20; value <= 20; value++) {
                        String call = text + ": rest(" + known + ", " + words + ", " + value + ")";
                        due.is(call, x.rest(known, words, value), Model.endings(text, known, words, value));
                    }
                }
            }
        }
    }

    private static void restRefuses() {
        ReadBackwards x = Due.taken("yn;1");
        int[][] outside = {{-1, 1, 0}, {3, 3, 0}, {Due.LOWEST, 1, 0}, {Due.HIGHEST, Due.HIGHEST, 0}, {0, 0, 0}, {0, 6, 0},
            {2, 1, 0}, {2, 8, 0}, {1, Due.LOWEST, 0}, {1, Due.HIGHEST, 0}, {0, -1, 0}, {0, 1, 21}, {0, 1, -21},
            {0, 1, Due.LOWEST}, {0, 1, Due.HIGHEST}};
        ReadBackwards none = new ReadBackwards();
        for (int[] a : outside) {
            String call = "rest(" + a[0] + ", " + a[1] + ", " + a[2] + ")";
            due.refused(x, call, () -> x.rest(a[0], a[1], a[2]), Due.OUTSIDE);
            due.refused(none, call + " without a letter", () -> none.rest(a[0], a[1], a[2]), Due.OUTSIDE);
        }
        due.refused(none, "rest(1, 1, 0) without a letter", () -> none.rest(1, 1, 0), Due.OUTSIDE);
        due.refused(none, "rest(0, 1, 0) without a letter", () -> none.rest(0, 1, 0), Due.STATE);
        due.is("rest(2, 7, 20)", x.rest(2, 7, 20), 0);
        due.is("rest(2, 7, -20)", x.rest(2, 7, -20), 0);
    }
}
