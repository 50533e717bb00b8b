/** The terms of a LETTER and of READING; promises 1 to 8: a new object, letter, blank, fault, take, word, change, snow. */
public final class LetterTest {
    private static final String SIGNS = "yntud.";

    private static final Due due = new Due();

    public static void main(String[] args) {
        due.terms("A LETTER is a text", "## The public face");
        oneToNineWords();
        usedFor512Calls();
        due.terms("0 YES", "LISTENERS (4 at most");
        sixWords();
        snowIsADigit();
        atFirstThereIsNone();
        placesAreFromTheTop();
        valueIsZeroAtFirst();
        yesAndNo();
        not();
        unless();
        dear();
        pause();
        promises();
        due.end();
    }

    private static void promises() {
        due.promise("ReadBackwards()");
        newObject();
        due.promise("int letter(int code)");
        letterCounts();
        letterRefusesCodes();
        letterIsFull();
        due.promise("int blank()");
        blank();
        due.promise("int fault()");
        faultFindsThePlace();
        faultFindsNone();
        due.promise("int take()");
        takeMakesTheLetter();
        takeLetsTheOtherGo();
        takeAnswersWords();
        takeRefusesWhatIsNone();
        due.promise("int word(int place, int what)");
        wordTellsEach();
        wordIsReadToNobody();
        wordAddsAHundred();
        wordRefusesPlaces();
        wordRefusesWhats();
        due.promise("int change(int place, int word)");
        changeAnswersWhatItWas();
        changeRefusesPlaces();
        changeRefusesWords();
        due.promise("int snow(int snow)");
        snowAnswersWhatItWas();
        snowRefusesNumbers();
        snowWithoutALetter();
    }

    // ---- terms

    private static void oneToNineWords() {
        due.says("A LETTER is a text: one to nine WORDS, each a sign:");
        faultAndTake(";5", 0, Due.STATE);
        for (int size = 1; size <= 9; size++) faultAndTake("u".repeat(size) + ";5", size + 2, size);
        faultAndTake("uuuuuuuuuu;5", 9, Due.STATE);
    }

    private static void usedFor512Calls() {
        due.says("An object is used for at most 512 calls after it has been made; what later calls answer is free.");
        ReadBackwards x = Due.taken("y;1");
        for (int call = 5; call <= 511; call++) due.is("call " + call + ", a change()", x.change(0, 0), 0);
        due.is("call 512, count(4)", x.count(4), 507);
    }

    private static void sixWords() {
        due.says("0 YES \"y\", 1 NO \"n\", 2 NOT \"t\", 3 UNLESS \"u\", 4 DEAR \"d\", 5 PAUSE \".\"");
        for (char code = 1; code <= 126; code++) {
            int word = SIGNS.indexOf(code);
            faultAndTake(code + ";1", word < 0 ? 0 : 3, word < 0 ? Due.STATE : 1);
            faultAndTake("y" + code + ";1", word >= 0 ? 4 : code == ';' ? 2 : 1, word < 0 ? Due.STATE : 2);
            if (word >= 0) due.is("word(0, 0) of " + code, Due.taken(code + ";1").word(0, 0), word);
        }
    }

    private static void snowIsADigit() {
        due.says("then \";\" and a digit SNOW (1 to 9).");
        for (char code = 1; code <= 126; code++) {
            boolean digit = code >= '1' && code <= '9';
            faultAndTake("y;" + code, digit ? 3 : 2, digit ? 1 : Due.STATE);
            if (digit) due.is("snow of y;" + code, Due.taken("y;" + code).count(1), code - '0');
            int behind = code == ';' ? 3 : SIGNS.indexOf(code) >= 0 ? 2 : 1;
            faultAndTake("y" + code + "1", behind, code == ';' ? 1 : Due.STATE);
            faultAndTake("y;1" + code, 3, Due.STATE);
        }
    }

    private static void atFirstThereIsNone() {
        due.says("At first there is none.");
        ReadBackwards x = new ReadBackwards();
        due.is("words at first", x.count(0), 0);
        due.is("snow at first", x.count(1), 0);
        due.is("taken at first", x.count(7), 0);
    }

    private static void placesAreFromTheTop() {
        due.says("PLACES of WORDS are from 0 (the TOP) on.");
        ReadBackwards x = Due.taken("yntud.;1");
        for (int place = 0; place <= 5; place++) due.is("word at " + place, x.word(place, 0), place);
        due.is("word ahead of the top", x.word(-1, 0), Due.UNKNOWN);
        due.is("word behind the end", x.word(6, 0), Due.UNKNOWN);
    }

    private static void valueIsZeroAtFirst() {
        due.says("READ one WORD behind the other, from the END or from the TOP, it has a VALUE, 0 at first:");
        values(".", 0, 0);
        values("t", 0, 0);
        values("u", 0, 0);
        values("yu", 1, -1);
        values("yyut", 0, -2);
    }

    private static void yesAndNo() {
        due.says("by YES 1 more, by NO 1 less (if it is TURNED the other way about; it is TURNED no more then);");
        values("y", 1, 1);
        values("n", -1, -1);
        values("yyyyyyyyy", 9, 9);
        values("nnnnnnnnn", -9, -9);
        values("yn", 0, 0);
        values("ty", 1, -1);
        values("tn", -1, 1);
        values("tyy", 2, 0);
        values("tnn", -2, 0);
        values("yyt", 0, 2);
        values("nnt", 0, -2);
    }

    private static void not() {
        due.says("by NOT it is TURNED, if it was not, else no more (at first it is not);");
        values("tty", 1, 1);
        values("ttty", 1, -1);
        values("tttty", 1, 1);
        values("ytt", 1, 1);
        values("yttt", -1, 1);
        values("tyty", 0, -2);
    }

    private static void unless() {
        due.says("by UNLESS the VALUE becomes its opposite;");
        values("uuuuuuuuu", 0, 0);
        values("yuu", 1, 1);
        values("nu", -1, 1);
        values("yyyyyyyyu", 8, -8);
        values("unnnnnnnn", 8, -8);
        values("tuy", -1, -1);
    }

    private static void dear() {
        due.says("by DEAR 1 more;");
        values("d", 1, 1);
        values("ddddddddd", 9, 9);
        values("td", 1, 1);
        values("tdy", 2, 0);
        values("ydt", 0, 2);
    }

    private static void pause() {
        due.says("by a PAUSE nothing.");
        values(".........", 0, 0);
        values("y.", 1, 1);
        values("t.y", 1, -1);
        values("n.u.", -1, 1);
    }

    /** The VALUE behind the last WORD that is READ, from the END and from the TOP. */
    private static void values(String text, int fromEnd, int fromTop) {
        ReadBackwards x = Due.taken(text + ";1");
        due.is(text + " from the end", x.word(0, 1), 100 + fromEnd);
        due.is(text + " from the top", x.word(text.length() - 1, 2), 100 + fromTop);
    }

    private static void faultAndTake(String text, int fault, int take) {
        ReadBackwards x = Due.page(new ReadBackwards(), text);
        due.is("fault() of " + text, x.fault(), fault);
        due.is("take() of " + text, x.take(), take);
    }

    // ---- promise 1

    private static void newObject() {
        due.says("No LETTER.");
        ReadBackwards x = new ReadBackwards();
        for (int what = 0; what <= 8; what++) due.is("new: count(" + what + ")", x.count(what), 0);
        due.is("new: word(0, 0)", x.word(0, 0), Due.UNKNOWN);
        due.is("new: change(0, 0)", x.change(0, 0), Due.UNKNOWN);
        due.is("new: snow(1)", x.snow(1), Due.STATE);
        due.is("new: listener(0)", x.listener(0), Due.STATE);
        due.is("new: about(0, 0)", x.about(0, 0), Due.UNKNOWN);
        due.is("new: as(0, 0)", x.as(0, 0), Due.UNKNOWN);
        due.is("new: rest(0, 1, 0)", x.rest(0, 1, 0), Due.STATE);
        due.is("new: tell(0, true)", x.tell(0, true), Due.STATE);
        due.is("new: which()", x.which(), 31);
        due.is("new: ask()", x.ask(), Due.STATE);
        due.is("new: days(1, 0, 0)", x.days(1, 0, 0), Due.STATE);
        due.is("new: image()", x.image(), Due.STATE);
        due.is("new: restore()", x.restore(), Due.STATE);
        due.is("new: take()", x.take(), Due.STATE);
        due.is("new: fault()", x.fault(), 0);
        due.is("new: blank()", x.blank(), 0);
        due.is("new: forget()", x.forget(), 0);
        due.is("new: write(0, 1, 1, 0)", x.write(0, 1, 1, 0), 1);
    }

    // ---- promise 2

    private static void letterCounts() {
        due.says("A sign comes behind THE PAGE, by its code: how many THE PAGE has.");
        ReadBackwards x = new ReadBackwards();
        String text = "ny;4";
        for (int i = 0; i < 4; i++) due.is("letter(" + text.charAt(i) + ")", x.letter(text.charAt(i)), i + 1);
        due.is("take()", x.take(), 2);
        due.is("the first sign is at the top", x.word(0, 0), 1);
        due.is("the next one is behind it", x.word(1, 0), 0);
        due.is("letter() on the page that is empty again", x.letter('y'), 1);
    }

    private static void letterRefusesCodes() {
        due.says("OUTSIDE: code (1 to 126);");
        ReadBackwards x = new ReadBackwards();
        due.refusedEach(x, "letter(#)", x::letter, Due.OUTSIDE, 0, -1, 127, 128, 121 + 256, Due.LOWEST, Due.HIGHEST);
        for (int code = 1; code <= 126; code++) {
            due.is("letter(" + code + ")", x.letter(code), 1);
            due.is("blank() of letter(" + code + ")", x.blank(), 1);
        }
    }

    private static void letterIsFull() {
        due.says("FULL: above 12.");
        ReadBackwards x = new ReadBackwards();
        for (int size = 1; size <= 12; size++) due.is("letter to " + size, x.letter(size % 2 == 0 ? 1 : 126), size);
        due.refusedEach(x, "13th letter(#)", x::letter, Due.FULL, 1, 'y', 126);
        due.refusedEach(x, "13th letter(#)", x::letter, Due.OUTSIDE, 0, 127, Due.LOWEST, Due.HIGHEST);
        due.is("count(6)", x.count(6), 12);
        x.blank();
        due.is("letter() when it is full no more", x.letter('y'), 1);
    }

    // ---- promise 3

    private static void blank() {
        due.says("THE PAGE is empty: how many signs it had.");
        ReadBackwards x = new ReadBackwards();
        due.is("blank() of none", x.blank(), 0);
        Due.page(x, "y;1");
        due.is("blank() of three", x.blank(), 3);
        due.is("blank() again", x.blank(), 0);
        due.is("count(6) behind blank()", x.count(6), 0);
        due.is("fault() behind blank()", x.fault(), 0);
        due.is("take() behind blank()", x.take(), Due.STATE);
        Due.page(x, "yyyyyyyyyyyy");
        due.is("blank() of twelve", x.blank(), 12);
        due.is("letter() behind blank() of twelve", x.letter('n'), 1);
        ReadBackwards y = Due.heardBy("yn;1", Due.WIDOW);
        long before = y.digest();
        Due.page(y, "yy").blank();
        due.is("digest() behind blank(): the letter stays", y.digest(), before);
    }

    // ---- promise 4

    private static void faultFindsThePlace() {
        due.says("The place (from 0) of the first sign of THE PAGE that no LETTER has there, behind those ahead of it;");
        faults(0, ";", "1", "Y", " ", "z;;;", ";1", ";;", "9y;1", "\u0001", "~");
        faults(1, "yx;1", "y1", "y ;1", "y,;1", "yY;1", "t:1");
        faults(2, "y;0", "y;:", "y;;", "y;y", "y;/", "nn0;1", "y;0;1");
        faults(3, "y;11", "y;9;", "y;9y", "y;10", "y;1;1");
        faults(9, "yyyyyyyyyy", "yyyyyyyyyyyy", "yyyyyyyyyy;1", "yyyyyyyyy1");
        faults(10, "yyyyyyyyy;0", "yyyyyyyyy;;", "yyyyyyyyy;y");
        faults(11, "yyyyyyyyy;9;", "yyyyyyyyy;99", "yyyyyyyyy;9y");
    }

    private static void faultFindsNone() {
        due.says("how many signs it has, if there is none.");
        faults(0, "");
        faults(1, "y", "n", "t", "u", "d", ".");
        faults(2, "y;", "tt");
        faults(3, "y;1", "y;9");
        faults(6, "yntud.");
        faults(9, "yyyyyyyyy");
        faults(10, "yyyyyyyyy;");
        faults(11, "yyyyyyyyy;9", ".dutnyyyy;1");
    }

    private static void faults(int place, String... texts) {
        for (String text : texts) {
            ReadBackwards x = Due.page(new ReadBackwards(), text);
            long before = x.digest();
            due.is("fault() of " + text, x.fault(), place);
            due.is("digest() behind fault() of " + text, x.digest(), before);
        }
    }

    // ---- promise 5

    private static void takeMakesTheLetter() {
        due.says("THE PAGE is taken as THE LETTER");
        ReadBackwards x = Due.taken("yntud.yny;3");
        int[] words = {0, 1, 2, 3, 4, 5, 0, 1, 0};
        for (int place = 0; place < 9; place++) due.is("word(" + place + ", 0)", x.word(place, 0), words[place]);
        due.is("count(1)", x.count(1), 3);
        due.is("count(7)", x.count(7), 1);
    }

    private static void takeLetsTheOtherGo() {
        due.says("(another one is gone, with LISTENERS, TOLD)");
        ReadBackwards x = Due.heardBy("ynt;4", Due.WIDOW, Due.DEAF);
        x.tell(1, true);
        x.change(0, 1);
        Due.page(x, "du;2");
        due.is("second take()", x.take(), 2);
        due.is("word(0, 0) of the second", x.word(0, 0), 4);
        due.is("word(2, 0) of the second", x.word(2, 0), Due.UNKNOWN);
        due.is("snow of the second", x.count(1), 2);
        due.is("listeners of the second", x.count(2), 0);
        due.is("about(0, 0) of the second", x.about(0, 0), Due.UNKNOWN);
        due.is("told of the second", x.count(5), 0);
        due.is("which() of the second", x.which(), 31);
        due.is("changes of the second", x.count(4), 0);
        due.is("how often taken", x.count(7), 2);
        due.is("listener() of the second", x.listener(Due.HASTY), 0);
    }

    private static void takeAnswersWords() {
        due.says(": how many WORDS; THE PAGE is empty then.");
        for (int size = 1; size <= 9; size++) {
            ReadBackwards x = Due.page(new ReadBackwards(), "t".repeat(size) + ";9");
            due.is("take() of " + size, x.take(), size);
            due.is("count(0) of " + size, x.count(0), size);
            due.is("count(6) of " + size, x.count(6), 0);
            due.refused(x, "take() of the page that is empty then", x::take, Due.STATE);
            due.is("letter() then", x.letter('y'), 1);
        }
    }

    private static void takeRefusesWhatIsNone() {
        due.says("STATE: it is none.");
        String[] none = {"", "y", "yn", ";", ";1", "y;", "y;0", "y;:", "y;11", "y;1y", "yyyyyyyyy", "yyyyyyyyy;",
            "yyyyyyyyyy;1", "yyyyyyyyyyyy", "yyyyyyyyy;9;", "x;1", "yx;1", "y;1;1", "y1", "1"};
        for (String text : none) {
            ReadBackwards x = Due.page(new ReadBackwards(), text);
            due.refused(x, "take() of " + text, x::take, Due.STATE);
            ReadBackwards y = Due.heardBy("ynt;4", Due.WIDOW, Due.DEAF);
            y.tell(1, true);
            y.change(0, 1);
            Due.page(y, text);
            due.refused(y, "second take() of " + text, y::take, Due.STATE);
            due.is("the page stays", y.count(6), text.length());
            due.is("how often taken", y.count(7), 1);
        }
    }

    // ---- promise 6

    private static void wordTellsEach() {
        due.says("Of a WORD: what = 0 which it is, 1 the VALUE behind it, READ from the END, 2 READ from the TOP");
        ReadBackwards x = Due.taken("dnty.unn;1");
        int[] which = {4, 1, 2, 0, 5, 3, 1, 1};
        int[] fromEnd = {105, 104, 103, 103, 102, 102, 98, 99};
        int[] fromTop = {101, 100, 100, 99, 99, 101, 100, 99};
        for (int place = 0; place < 8; place++) {
            due.is("word(" + place + ", 0)", x.word(place, 0), which[place]);
            due.is("word(" + place + ", 1)", x.word(place, 1), fromEnd[place]);
            due.is("word(" + place + ", 2)", x.word(place, 2), fromTop[place]);
        }
    }

    private static void wordIsReadToNobody() {
        due.says("(nobody SHUTS, no SNOW)");
        ReadBackwards x = Due.heardBy("d..nnnn..;1", Due.LISTENER, Due.WIDOW, Due.HASTY, Due.BRIDE);
        int[] fromEnd = {97, 96, 96, 96, 97, 98, 99, 100, 100};
        int[] fromTop = {101, 101, 101, 100, 99, 98, 97, 97, 97};
        for (int place = 0; place < 9; place++) {
            due.is("word(" + place + ", 1)", x.word(place, 1), fromEnd[place]);
            due.is("word(" + place + ", 2)", x.word(place, 2), fromTop[place]);
        }
    }

    private static void wordAddsAHundred() {
        due.says(", each and 100.");
        due.is("least from the end", Due.taken("nnnnnnnnn;1").word(0, 1), 91);
        due.is("least from the top", Due.taken("nnnnnnnnn;1").word(8, 2), 91);
        due.is("most from the end", Due.taken("ddddddddd;1").word(0, 1), 109);
        due.is("most from the top", Due.taken("ddddddddd;1").word(8, 2), 109);
        due.is("nothing", Due.taken(".;1").word(0, 1), 100);
    }

    private static void wordRefusesPlaces() {
        due.says("UNKNOWN: place;");
        ReadBackwards x = Due.taken("yn;1");
        ReadBackwards none = new ReadBackwards();
        for (int what : new int[] {0, 1, 2, -1, 3}) {
            due.refusedEach(x, "word(#, " + what + ")", p -> x.word(p, what), Due.UNKNOWN, -1, 2, 8, 9, Due.LOWEST, Due.HIGHEST);
            due.refusedEach(none, "word(#, " + what + ") of none", p -> none.word(p, what), Due.UNKNOWN, -1, 0, 1);
        }
        ReadBackwards nine = Due.taken("yyyyyyyyn;1");
        due.is("word(8, 0) of nine", nine.word(8, 0), 1);
        due.refused(nine, "word(9, 0) of nine", () -> nine.word(9, 0), Due.UNKNOWN);
    }

    private static void wordRefusesWhats() {
        due.says("OUTSIDE.");
        ReadBackwards x = Due.taken("yn;1");
        due.refusedEach(x, "word(0, #)", what -> x.word(0, what), Due.OUTSIDE, -1, 3, Due.LOWEST, Due.HIGHEST);
        due.refusedEach(x, "word(1, #)", what -> x.word(1, what), Due.OUTSIDE, -1, 3);
    }

    // ---- promise 7

    private static void changeAnswersWhatItWas() {
        due.says("A WORD is changed: which it was.");
        ReadBackwards x = Due.taken("yn;9");
        due.is("change(0, 5)", x.change(0, 5), 0);
        due.is("change(1, 0)", x.change(1, 0), 1);
        due.is("change(1, 0) to the same", x.change(1, 0), 0);
        due.is("word(0, 0)", x.word(0, 0), 5);
        due.is("word(1, 0)", x.word(1, 0), 0);
        due.is("word(0, 1)", x.word(0, 1), 101);
        due.is("count(4)", x.count(4), 3);
        due.is("count(0)", x.count(0), 2);
        ReadBackwards nine = Due.taken("yyyyyyyyy;1");
        due.is("change(8, 1) of nine", nine.change(8, 1), 0);
        due.is("word(8, 0) of nine", nine.word(8, 0), 1);
        due.is("word(7, 0) of nine", nine.word(7, 0), 0);
    }

    private static void changeRefusesPlaces() {
        due.says("UNKNOWN: place;");
        ReadBackwards x = Due.taken("yn;9");
        ReadBackwards none = new ReadBackwards();
        for (int word : new int[] {0, 5, -1, 6}) {
            due.refusedEach(x, "change(#, " + word + ")", p -> x.change(p, word), Due.UNKNOWN, -1, 2, 9, Due.LOWEST, Due.HIGHEST);
            due.refusedEach(none, "change(#, " + word + ") of none", p -> none.change(p, word), Due.UNKNOWN, -1, 0, 1);
        }
        ReadBackwards nine = Due.taken("yyyyyyyyy;1");
        due.refused(nine, "change(9, 1) of nine", () -> nine.change(9, 1), Due.UNKNOWN);
    }

    private static void changeRefusesWords() {
        due.says("OUTSIDE: word (0 to 5).");
        ReadBackwards x = Due.taken("yn;9");
        due.refusedEach(x, "change(1, #)", word -> x.change(1, word), Due.OUTSIDE, -1, 6, Due.LOWEST, Due.HIGHEST);
        int was = 1;
        for (int word = 0; word <= 5; word++) {
            due.is("change(1, " + word + ")", x.change(1, word), was);
            was = word;
        }
        due.is("word(1, 0)", x.word(1, 0), 5);
    }

    // ---- promise 8

    private static void snowAnswersWhatItWas() {
        due.says("SNOW is so much: how much it was.");
        ReadBackwards x = Due.heardBy("yyy;4", Due.LISTENER);
        due.is("snow(1)", x.snow(1), 4);
        due.is("heard with snow 1", x.about(0, 1), 1);
        due.is("snow(9)", x.snow(9), 1);
        due.is("heard with snow 9", x.about(0, 1), 3);
        due.is("snow(9) again", x.snow(9), 9);
        due.is("count(1)", x.count(1), 9);
        due.is("count(4): no word is changed", x.count(4), 0);
    }

    private static void snowRefusesNumbers() {
        due.says("OUTSIDE: snow (1 to 9);");
        ReadBackwards x = Due.taken("yyy;4");
        ReadBackwards none = new ReadBackwards();
        int[] outside = {0, -1, 10, Due.LOWEST, Due.HIGHEST};
        due.refusedEach(x, "snow(#)", x::snow, Due.OUTSIDE, outside);
        due.refusedEach(none, "snow(#) without a letter", none::snow, Due.OUTSIDE, outside);
        int was = 4;
        for (int snow = 1; snow <= 9; snow++) {
            due.is("snow(" + snow + ")", x.snow(snow), was);
            was = snow;
        }
    }

    private static void snowWithoutALetter() {
        due.says("STATE: no LETTER.");
        ReadBackwards none = Due.page(new ReadBackwards(), "y;1");
        due.refusedEach(none, "snow(#) without a letter", none::snow, Due.STATE, 1, 5, 9);
        none.take();
        due.is("snow(9) with one", none.snow(9), 1);
    }
}
