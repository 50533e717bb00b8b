/** The terms of WRITE and REST; promises 12 and 13: write, rest. */
public final class CouldBeTest {
    private static final int[] NO_KINDS = {-1, 5, Due.LOWEST, Due.HIGHEST};
    private static final int[] NO_VALUES = {-4, 4, Due.LOWEST, Due.HIGHEST};
    private static final int[] NO_WHATS = {-1, 1, 9, 15, Due.LOWEST, Due.HIGHEST};

    private static final Due due = new Due();

    public static void main(String[] args) {
        due.terms("WRITE for a KIND", "TOLD (6 at most)");
        writeByHowFewWords();
        writeWithoutSnow();
        writeBothValues();
        writeShutsAtNeither();
        writeToADeafOne();
        writeTheFirstOfLikeOnes();
        writeNone();
        restForFiveMore();
        restOfTheLastWords();
        restIsReadWhole();
        due.promise("int write(int kind, int end, int top, int what)");
        writeAnswersHowFew();
        writeAnswersWords();
        writeAnswersNoMoreWords();
        writeAnswersNone();
        writeRefuses();
        writeEnds();
        due.promise("int rest(int known, int words, int value)");
        restCountsAll();
        restRefusesKnown();
        restRefusesWords();
        restRefusesValues();
        restWithoutALetter();
        due.end();
    }

    // ---- terms: WRITE

    private static void writeByHowFewWords() {
        due.says("WRITE for a KIND: by how few WORDS (1 to 5) a LETTER");
        written(Due.LISTENER, 1, 1, 0);
        written(Due.LISTENER, 2, 2, 0, 0);
        written(Due.LISTENER, 0, 2, 0, 0, 2);
        written(Due.LISTENER, 1, 3, 0, 0, 0, 2);
        everyKindAndValue();
    }

    private static void everyKindAndValue() {
        for (int kind = 0; kind < 5; kind++) {
            for (int end = -3; end <= 3; end++) {
                for (int top = -3; top <= 3; top++) written(kind, end, top, wordsOf(Model.shortest(kind, end, top)));
            }
        }
    }

    private static int[] wordsOf(String text) {
        int[] words = new int[text.length()];
        for (int place = 0; place < words.length; place++) words[place] = Model.SIGNS.indexOf(text.charAt(place));
        return words;
    }

    private static void writeWithoutSnow() {
        due.says("(without SNOW)");
        ReadBackwards x = Due.taken("n;1");
        due.is("write(0, 3, 3, 0) with snow 1", x.write(0, 3, 3, 0), 3);
        due.is("write(0, -1, 1, 0) with snow 1", x.write(0, -1, 1, 0), 2);
    }

    private static void writeBothValues() {
        due.says("has one VALUE READ from the END, another one READ from the TOP to one of this KIND,");
        // From the top y, u are 1, -1; from the end u, y are 0, 1.
        written(Due.LISTENER, 1, -1, 0, 3);
        // From the top y, t are 1, 1; from the end t turns y.
        written(Due.LISTENER, -1, 1, 0, 2);
        written(Due.HASTY, 3, -1, 0, 1, 2, 0);
    }

    private static void writeShutsAtNeither() {
        due.says("and she SHUTS at neither");
        // Two NO, or YES YES UNLESS, are -2, but by -2 she shuts, even behind the last word.
        written(Due.LISTENER, -2, -2);
        written(Due.HASTY, 2, -2);
        written(Due.LISTENER, -2, 2);
        // Two YES are 2, but a bride shuts behind the second.
        written(Due.BRIDE, 2, 2);
        written(Due.BRIDE, 0, 2);
        written(Due.WIDOW, 2, 2, 0, 0);
    }

    private static void writeToADeafOne() {
        due.says("(a DEAF one has it from the TOP in both):");
        written(Due.DEAF, -3, -3, 1, 1, 1);
        written(Due.DEAF, -2, -2, 1, 1);
        written(Due.DEAF, 3, 3, 0, 0, 0);
        for (int end = -3; end <= 3; end++) {
            for (int top = -3; top <= 3; top++) if (end != top) written(Due.DEAF, end, top);
        }
    }

    private static void writeTheFirstOfLikeOnes() {
        due.says("which: of like ones the first by numbers, from the TOP;");
        // NOT is ahead of UNLESS and PAUSE; YES is ahead of DEAR.
        written(Due.BRIDE, 0, 0, 2);
        written(Due.LISTENER, 3, 3, 0, 0, 0);
        // ynt is ahead of dnt, ytn is something else: the top goes ahead of the end.
        written(Due.LISTENER, 2, 0, 0, 1, 2);
    }

    private static void writeNone() {
        due.says("none.");
        // By each YES, NO and DEAR one is odd when the other is: 1 and 0 never go together.
        written(Due.LISTENER, 1, 0);
        written(Due.WIDOW, 0, 3);
        written(Due.HASTY, -3, -3);
        written(Due.BRIDE, 3, 3);
    }

    /** Asks write() for all that it tells; without words there is none. */
    private static void written(int kind, int end, int top, int... words) {
        ReadBackwards x = new ReadBackwards();
        String call = "write(" + kind + ", " + end + ", " + top + ", ";
        due.is(call + "0)", x.write(kind, end, top, 0), words.length == 0 ? Due.NONE : words.length);
        for (int place = 0; place < 5; place++) {
            int want = place < words.length ? words[place] : Due.NONE;
            due.is(call + (10 + place) + ")", x.write(kind, end, top, 10 + place), want);
        }
        due.is("count(8)", x.count(8), 6);
    }

    // ---- terms: REST

    private static void restForFiveMore() {
        due.says("REST for so many WORDS: how many LETTERS of so many WORDS (up to 5 more than are known) there are,");
        ReadBackwards x = Due.taken("nyu;1");
        int all = 1;
        for (int more = 0; more <= 5; more++) {
            if (more > 0) due.is("all of " + more + " words", sumOfRest(x, 0, more), all);
            due.is("all of " + (3 + more) + " words", sumOfRest(x, 3, 3 + more), all);
            all *= 6;
        }
        ReadBackwards nine = Due.taken("yyyyyyyyy;1");
        due.is("more than nine words, as told", sumOfRest(nine, 9, 14), 7776);
        due.is("nine YES behind five YES or DEAR", nine.rest(9, 14, 14), 32);
    }

    private static int sumOfRest(ReadBackwards x, int known, int words) {
        int sum = 0;
        for (int value = -20; value <= 20; value++) sum += x.rest(known, words, value);
        return sum;
    }

    private static void restOfTheLastWords() {
        due.says("whose last WORDS are as the last ones of THE LETTER (so many as are known),");
        ReadBackwards x = Due.taken("nyu;1");
        due.is("one word of value 1: YES, DEAR", x.rest(0, 1, 1), 2);
        due.is("one word of value -1: NO", x.rest(0, 1, -1), 1);
        due.is("one word of value 0: NOT, UNLESS, PAUSE", x.rest(0, 1, 0), 3);
        due.is("u itself", x.rest(1, 1, 0), 1);
        due.is("u itself is not 1", x.rest(1, 1, 1), 0);
        due.is("yu itself", x.rest(2, 2, -1), 1);
        due.is("nyu itself", x.rest(3, 3, 0), 1);
        due.is("some word, u: NO becomes 1", x.rest(1, 2, 1), 1);
        due.is("some word, yu: NOT turns it", x.rest(2, 3, 1), 1);
        x.change(2, 4);
        due.is("some word, d, as it is now: NO becomes 0", x.rest(1, 2, 0), 1);
    }

    private static void restIsReadWhole() {
        due.says("and which have some VALUE, READ whole from the TOP.");
        // Nobody shuts at n, n or d, and snow 1 shortens nothing.
        ReadBackwards x = Due.taken("nnnnnndd.;1");
        due.is("the whole letter", x.rest(9, 9, -4), 1);
        due.is("five more NO", x.rest(9, 14, -9), 1);
        due.is("from the top tn is 1", Due.taken("tn;1").rest(2, 2, 1), 1);
        due.is("from the end tn were -1", Due.taken("tn;1").rest(2, 2, -1), 0);
    }

    // ---- promise 12

    private static void writeAnswersHowFew() {
        due.says("WRITE: what = 0 how few WORDS,");
        ReadBackwards x = new ReadBackwards();
        due.is("write(0, 0, 0, 0)", x.write(0, 0, 0, 0), 1);
        due.is("write(0, 1, -1, 0)", x.write(0, 1, -1, 0), 2);
        due.is("write(1, 3, 3, 0)", x.write(1, 3, 3, 0), 3);
        due.is("write(3, -1, 3, 0)", x.write(3, -1, 3, 0), 4);
    }

    private static void writeAnswersWords() {
        due.says("10 to 14 the so-manieth WORD");
        ReadBackwards x = new ReadBackwards();
        int[] words = {0, 2, 1, 0};
        for (int place = 0; place < 4; place++) {
            due.is("write(0, -1, 3, " + (10 + place) + ")", x.write(0, -1, 3, 10 + place), words[place]);
        }
    }

    private static void writeAnswersNoMoreWords() {
        due.says("(NONE: there is none);");
        ReadBackwards x = new ReadBackwards();
        due.is("fifth of four", x.write(0, -1, 3, 14), Due.NONE);
        due.is("fourth of three", x.write(0, 3, 3, 13), Due.NONE);
        due.is("second of one", x.write(0, 1, 1, 11), Due.NONE);
        due.is("fifth of one", x.write(0, 1, 1, 14), Due.NONE);
        due.is("these were done, too", x.count(8), 4);
    }

    private static void writeAnswersNone() {
        due.says("NONE: there is none.");
        ReadBackwards x = new ReadBackwards();
        for (int what : new int[] {0, 10, 11, 12, 13, 14}) due.is("what " + what, x.write(0, -2, 0, what), Due.NONE);
        due.is("these were done, too", x.count(8), 6);
    }

    private static void writeRefuses() {
        due.says("OUTSIDE: kind, end, top (-3 to 3), what;");
        ReadBackwards x = Due.taken("y;1");
        due.refusedEach(x, "write(#, 0, 0, 0)", kind -> x.write(kind, 0, 0, 0), Due.OUTSIDE, NO_KINDS);
        due.refusedEach(x, "write(0, #, 0, 0)", end -> x.write(0, end, 0, 0), Due.OUTSIDE, NO_VALUES);
        due.refusedEach(x, "write(0, 0, #, 0)", top -> x.write(0, 0, top, 0), Due.OUTSIDE, NO_VALUES);
        due.refusedEach(x, "write(0, 0, 0, #)", what -> x.write(0, 0, 0, what), Due.OUTSIDE, NO_WHATS);
        due.is("none of these was done", x.count(8), 0);
        due.is("write(2, -3, -3, 12)", x.write(2, -3, -3, 12), 1);
        due.is("write(4, 3, 3, 14)", x.write(4, 3, 3, 14), Due.NONE);
    }

    private static void writeEnds() {
        due.says("STATE: write() was done 20 times.");
        ReadBackwards x = Due.taken("y;1");
        for (int done = 0; done < 20; done++) {
            boolean odd = done % 2 == 1;
            due.is("write() done " + done + " times", x.write(0, odd ? -2 : 1, 1, 0), odd ? Due.NONE : 1);
            due.is("count(8)", x.count(8), done + 1);
            due.is("a refused one is not done", x.write(9, 0, 0, 0), Due.OUTSIDE);
        }
        due.refusedEach(x, "21st write(0, 1, 1, #)", what -> x.write(0, 1, 1, what), Due.STATE, 0, 10, 14);
        due.refusedEach(x, "21st write(#, 1, 1, 0)", kind -> x.write(kind, 1, 1, 0), Due.OUTSIDE, NO_KINDS);
        due.refusedEach(x, "21st write(0, #, 1, 0)", end -> x.write(0, end, 1, 0), Due.OUTSIDE, NO_VALUES);
        due.refusedEach(x, "21st write(0, 1, #, 0)", top -> x.write(0, 1, top, 0), Due.OUTSIDE, NO_VALUES);
        due.refusedEach(x, "21st write(0, 1, 1, #)", what -> x.write(0, 1, 1, what), Due.OUTSIDE, NO_WHATS);
        Due.page(x, "n;1").take();
        due.refused(x, "21st write() with another letter", () -> x.write(0, 1, 1, 0), Due.STATE);
        due.is("count(8)", x.count(8), 20);
    }

    // ---- promise 13

    private static void restCountsAll() {
        due.says("REST: how many LETTERS of so many WORDS, known WORDS being as they are.");
        String[] texts = {"n", "tyu", "dnty.unn", "yntud.tut"};
        for (String text : texts) {
            for (int known = 0; known <= text.length(); known += 2) {
                for (int words = Math.max(1, known); words <= known + 5; words++) restByModel(text, known, words);
            }
        }
    }

    private static void restByModel(String text, int known, int words) {
        ReadBackwards x = Due.taken(text + ";2");
        for (int value = -20; value <= 20; value++) {
            String call = text + ": rest(" + known + ", " + words + ", " + value + ")";
            due.is(call, x.rest(known, words, value), Model.endings(text, known, words, value));
        }
    }

    private static void restRefusesKnown() {
        due.says("OUTSIDE: known (0 to as many WORDS as THE LETTER has),");
        ReadBackwards x = Due.taken("yn;1");
        due.refusedEach(x, "rest(#, 3, 0)", known -> x.rest(known, 3, 0), Due.OUTSIDE, -1, 3, 4, Due.LOWEST, Due.HIGHEST);
        due.refusedEach(x, "rest(#, #, 0)", known -> x.rest(known, known, 0), Due.OUTSIDE, -1, 3, Due.LOWEST, Due.HIGHEST);
        due.is("rest(0, 3, 0)", x.rest(0, 3, 0) > 0 ? 1 : 0, 1);
        due.is("rest(2, 2, 0)", x.rest(2, 2, 0), 1);
        ReadBackwards nine = Due.taken("yyyyyyyyy;1");
        due.is("rest(9, 9, 9)", nine.rest(9, 9, 9), 1);
        due.refused(nine, "rest(10, 10, 9)", () -> nine.rest(10, 10, 9), Due.OUTSIDE);
        ReadBackwards none = new ReadBackwards();
        due.refusedEach(none, "rest(#, 1, 0) without a letter", known -> none.rest(known, 1, 0), Due.OUTSIDE, -1, 1);
    }

    private static void restRefusesWords() {
        due.says("words (known to known and 5, 1 at least),");
        ReadBackwards x = Due.taken("yn;1");
        ReadBackwards none = new ReadBackwards();
        due.refusedEach(x, "rest(0, #, 0)", words -> x.rest(0, words, 0), Due.OUTSIDE, 0, 6, -1, Due.LOWEST, Due.HIGHEST);
        due.refusedEach(x, "rest(1, #, 0)", words -> x.rest(1, words, 0), Due.OUTSIDE, 0, 7, Due.LOWEST, Due.HIGHEST);
        due.refusedEach(x, "rest(2, #, 0)", words -> x.rest(2, words, 0), Due.OUTSIDE, 0, 1, 8, Due.LOWEST, Due.HIGHEST);
        due.refusedEach(none, "rest(0, #, 0) of none", words -> none.rest(0, words, 0), Due.OUTSIDE, 0, 6, -1, Due.HIGHEST);
        due.is("rest(0, 1, 0)", x.rest(0, 1, 0), 3);
        due.is("rest(0, 5, 5): YES or DEAR five times", x.rest(0, 5, 5), 32);
        due.is("rest(1, 1, -1)", x.rest(1, 1, -1), 1);
        due.is("rest(2, 2, 0)", x.rest(2, 2, 0), 1);
        due.is("rest(2, 7, 5): YES or DEAR five times", x.rest(2, 7, 5), 32);
    }

    private static void restRefusesValues() {
        due.says("value (-20 to 20);");
        ReadBackwards x = Due.taken("yn;1");
        ReadBackwards none = new ReadBackwards();
        int[] outside = {-21, 21, Due.LOWEST, Due.HIGHEST};
        due.refusedEach(x, "rest(0, 1, #)", value -> x.rest(0, 1, value), Due.OUTSIDE, outside);
        due.refusedEach(none, "rest(0, 1, #) of none", value -> none.rest(0, 1, value), Due.OUTSIDE, outside);
        due.is("rest(2, 7, 20)", x.rest(2, 7, 20), 0);
        due.is("rest(2, 7, -20)", x.rest(2, 7, -20), 0);
    }

    private static void restWithoutALetter() {
        due.says("STATE: no LETTER.");
        ReadBackwards none = Due.page(new ReadBackwards(), "y;1");
        due.refusedEach(none, "rest(0, #, 0) of none", words -> none.rest(0, words, 0), Due.STATE, 1, 2, 5);
        due.refusedEach(none, "rest(0, 1, #) of none", value -> none.rest(0, 1, value), Due.STATE, -20, 20);
        none.take();
        due.is("rest(0, 1, 0) with one", none.rest(0, 1, 0), 3);
    }
}
