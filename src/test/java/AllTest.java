import java.math.BigInteger;
import java.util.function.IntSupplier;

/** The terms of an IMAGE and of refusals; promises 19 to 22: image, restore, count, digest. */
public final class AllTest {
    private static final Due due = new Due();

    public static void main(String[] args) {
        due.terms("An IMAGE keeps", "## Promise 1:");
        imageKeeps();
        firstRefusalAsTold();
        refusalsChangeNothing();
        due.promise("int image()");
        imageIsTheLatest();
        imageAnswersWords();
        imageWithoutALetter();
        due.promise("int restore()");
        restoreGoesOn();
        restoreWithoutAnImage();
        restoreWithAnotherLetter();
        due.promise("int count(int what)");
        countWords();
        countSnow();
        countListeners();
        countShut();
        countChanges();
        countTold();
        countSigns();
        countTaken();
        countWritten();
        countRefuses();
        due.promise("long digest()");
        digestWraps();
        digestOfWords();
        digestOfListeners();
        digestOfWhich();
        digestWithALetter();
        digestOfThePage();
        digestOfCounts();
        due.end();
    }

    // ---- terms

    private static void imageKeeps() {
        due.says("An IMAGE keeps the WORDS, SNOW, how many LISTENERS there are (those that come since are gone by restore()),"
            + " how often WORDS were changed, TOLD.");
        ReadBackwards x = Due.heardBy("ynt;5", Due.WIDOW, Due.DEAF);
        x.tell(3, false);
        x.change(2, 4);
        x.image();
        x.change(0, 5);
        x.change(1, 5);
        x.snow(1);
        x.listener(Due.BRIDE);
        x.listener(Due.BRIDE);
        x.tell(0, true);
        x.restore();
        due.is("words", x.word(0, 0) * 100 + x.word(1, 0) * 10 + x.word(2, 0), 14);
        due.is("snow", x.count(1), 5);
        due.is("listeners", x.count(2), 2);
        due.is("the first stays", x.about(0, 0), Due.WIDOW);
        due.is("the second stays", x.about(1, 0), Due.DEAF);
        due.is("the third is gone", x.about(2, 0), Due.UNKNOWN);
        due.is("changes", x.count(4), 1);
        due.is("told", x.count(5), 1);
        due.is("which()", x.which(), 0b11111);
        due.is("a new third", x.listener(Due.HASTY), 2);
        due.is("her kind", x.about(2, 0), Due.HASTY);
        imageKeepsNoMore();
        imageKeepsWhatWasForgotten();
    }

    private static void imageKeepsNoMore() {
        ReadBackwards x = Due.taken("y;5");
        x.image();
        x.write(0, 0, 0, 0);
        Due.page(x, "zz");
        x.restore();
        due.is("signs of the page stay", x.count(6), 2);
        due.is("write() was done", x.count(8), 1);
        due.is("taken", x.count(7), 1);
    }

    private static void imageKeepsWhatWasForgotten() {
        ReadBackwards x = Due.taken("d.yy.n;9");
        for (int i = 0; i < 6; i++) x.tell(6, true);
        x.image();
        x.forget();
        x.tell(1, true);
        x.restore();
        due.is("told", x.count(5), 6);
        due.is("which()", x.which(), 0b00101);
        due.refused(x, "seventh tell()", () -> x.tell(6, true), Due.FULL);
    }

    private static void firstRefusalAsTold() {
        due.says("Refusals, of several the first as told by each call: UNKNOWN (a number names nothing),"
            + " OUTSIDE (it is not as told), STATE (as told), FULL;");
        ReadBackwards none = new ReadBackwards();
        due.is("word: UNKNOWN, OUTSIDE", none.word(0, 3), Due.UNKNOWN);
        due.is("change: UNKNOWN, OUTSIDE", none.change(0, 6), Due.UNKNOWN);
        due.is("about: UNKNOWN, OUTSIDE", none.about(0, 7), Due.UNKNOWN);
        due.is("as: UNKNOWN, OUTSIDE", none.as(0, 5), Due.UNKNOWN);
        due.is("snow: OUTSIDE, STATE", none.snow(0), Due.OUTSIDE);
        due.is("listener: OUTSIDE, STATE", none.listener(5), Due.OUTSIDE);
        due.is("rest: OUTSIDE, STATE", none.rest(0, 0, 0), Due.OUTSIDE);
        due.is("tell: OUTSIDE, STATE", none.tell(10, true), Due.OUTSIDE);
        due.is("days: OUTSIDE, STATE", none.days(0, 0, 0), Due.OUTSIDE);
        ReadBackwards full = fullOfAll();
        due.is("letter: OUTSIDE, FULL", full.letter(0), Due.OUTSIDE);
        due.is("listener: OUTSIDE, FULL", full.listener(5), Due.OUTSIDE);
        due.is("tell: OUTSIDE, FULL", full.tell(10, true), Due.OUTSIDE);
        due.is("write: OUTSIDE, STATE", full.write(0, 0, 0, 9), Due.OUTSIDE);
    }

    /** Twelve signs on THE PAGE, four LISTENERS, six TOLD, twenty times write(). */
    private static ReadBackwards fullOfAll() {
        ReadBackwards x = Due.heardBy("yntud.ynt;5", 0, 1, 3, 4);
        for (int i = 0; i < 6; i++) x.tell(5, true);
        for (int i = 0; i < 20; i++) x.write(0, 1, 1, 0);
        return Due.page(x, "yyyyyyyyyyyy");
    }

    private static void refusalsChangeNothing() {
        due.says("they change nothing.");
        ReadBackwards none = new ReadBackwards();
        due.refused(none, "snow(1) of none", () -> none.snow(1), Due.STATE);
        due.refused(none, "listener(0) of none", () -> none.listener(0), Due.STATE);
        due.refused(none, "tell(0, true) of none", () -> none.tell(0, true), Due.STATE);
        due.refused(none, "image() of none", none::image, Due.STATE);
        Due.page(none, "y;1").take();
        due.refused(none, "restore() of what was refused", none::restore, Due.STATE);
        ReadBackwards x = fullOfAll();
        x.image();
        long kept = x.digest();
        x.change(0, 5);
        x.snow(2);
        refusedOne(x, Due.FULL, () -> x.letter('y'), () -> x.listener(0), () -> x.tell(0, false));
        refusedOne(x, Due.STATE, x::take, () -> x.write(0, 0, 0, 0));
        refusedOne(x, Due.UNKNOWN, () -> x.word(9, 0), () -> x.change(9, 0), () -> x.about(4, 0), () -> x.as(4, 0));
        refusedOne(x, Due.OUTSIDE, () -> x.letter(0), () -> x.word(0, 3), () -> x.change(0, 6), () -> x.snow(10),
            () -> x.listener(5), () -> x.about(0, 7), () -> x.as(0, 5), () -> x.write(5, 0, 0, 0), () -> x.rest(10, 10, 0),
            () -> x.tell(10, true), () -> x.days(41, 0, 0), () -> x.count(9));
        x.restore();
        due.is("the image is as it was kept", x.digest(), kept);
    }

    private static void refusedOne(ReadBackwards x, int want, IntSupplier... calls) {
        for (int i = 0; i < calls.length; i++) due.refused(x, want + ", call " + i, calls[i], want);
    }

    // ---- promise 19

    private static void imageIsTheLatest() {
        due.says("An IMAGE is kept (one; the latest):");
        ReadBackwards x = Due.heardBy("yn;5", Due.WIDOW);
        long before = x.digest();
        x.image();
        due.is("image() changes nothing that is told", x.digest(), before);
        x.change(0, 3);
        x.listener(Due.HASTY);
        x.image();
        x.change(0, 4);
        x.restore();
        due.is("the latest is gone on from", x.word(0, 0), 3);
        due.is("with its listeners", x.count(2), 2);
        x.change(0, 5);
        x.restore();
        due.is("again: the first is no more", x.word(0, 0), 3);
    }

    private static void imageAnswersWords() {
        due.says("how many WORDS.");
        for (int size = 1; size <= 9; size++) {
            due.is("image() of " + size, Due.taken("u".repeat(size) + ";5").image(), size);
        }
    }

    private static void imageWithoutALetter() {
        due.says("STATE: no LETTER.");
        ReadBackwards none = Due.page(new ReadBackwards(), "y;1");
        due.refused(none, "image() without a letter", none::image, Due.STATE);
        due.refused(none, "restore() behind it", none::restore, Due.STATE);
        none.take();
        due.is("image() with one", none.image(), 1);
    }

    // ---- promise 20

    private static void restoreGoesOn() {
        due.says("It goes on from the IMAGE: how many WORDS.");
        for (int size = 1; size <= 9; size++) {
            ReadBackwards x = Due.heardBy("u".repeat(size) + ";5", Due.BRIDE);
            x.image();
            long before = x.digest();
            for (int place = 0; place < size; place++) x.change(place, 0);
            x.tell(1, true);
            due.is("restore() of " + size, x.restore(), size);
            due.is("digest() behind it", x.digest(), before);
            x.listener(Due.WIDOW);
            x.snow(1);
            due.is("restore() of " + size + " again", x.restore(), size);
            due.is("digest() behind it", x.digest(), before);
        }
    }

    private static void restoreWithoutAnImage() {
        due.says("STATE: none was kept,");
        ReadBackwards x = new ReadBackwards();
        due.refused(x, "restore() without a letter", x::restore, Due.STATE);
        Due.page(x, "yn;1").take();
        due.refused(x, "restore() without an image", x::restore, Due.STATE);
        x.image();
        due.is("restore() with one", x.restore(), 2);
    }

    private static void restoreWithAnotherLetter() {
        due.says("or there is another LETTER since.");
        ReadBackwards x = Due.taken("yn;1");
        x.change(0, 0);
        x.image();
        Due.page(x, "yn");
        x.take();
        due.is("restore() behind a refused take()", x.restore(), 2);
        Due.page(x, ";1").take();
        due.refused(x, "restore() with another letter, though like it", x::restore, Due.STATE);
        due.is("count(4) behind the refused restore()", x.count(4), 0);
        x.image();
        due.is("restore() behind a new image()", x.restore(), 2);
        Due.page(x, "y;1").take();
        due.refused(x, "restore() with a third", x::restore, Due.STATE);
    }

    // ---- promise 21

    private static void counts(String of, ReadBackwards x, int what, int want) {
        due.is("count(" + what + ") " + of, x.count(what), want);
    }

    private static void countWords() {
        due.says("How many: 0 WORDS,");
        counts("at first", new ReadBackwards(), 0, 0);
        counts("of a page", Due.page(new ReadBackwards(), "y;1"), 0, 0);
        for (int size = 1; size <= 9; size++) counts("of " + size, Due.taken("t".repeat(size) + ";1"), 0, size);
    }

    private static void countSnow() {
        due.says("1 SNOW (0: no LETTER),");
        counts("at first", new ReadBackwards(), 1, 0);
        counts("of a page", Due.page(new ReadBackwards(), "y;9"), 1, 0);
        for (int snow = 1; snow <= 9; snow++) counts("of " + snow, Due.taken("t;" + snow), 1, snow);
    }

    private static void countListeners() {
        due.says("2 LISTENERS,");
        ReadBackwards x = Due.taken("y;1");
        for (int many = 0; many <= 4; many++) {
            counts("of " + many, x, 2, many);
            x.listener(many);
        }
        counts("behind a fifth", x, 2, 4);
    }

    private static void countShut() {
        due.says("3 that SHUT, READ from the END,");
        counts("of nobody", Due.taken("nn;9"), 3, 0);
        counts("of four", Due.heardBy("nn;9", 0, 1, 3, 4), 3, 4);
        counts("and a deaf one", Due.heardBy("nn;9", 0, 2, 3, 4), 3, 3);
        counts("from the end, not from the top", Due.heardBy("nny;9", 0, 1, 3, 4), 3, 0);
        counts("from the end", Due.heardBy("ynn;9", 0, 1, 3, 4), 3, 4);
        ReadBackwards x = Due.heardBy("ynn;1", 0, 1, 3, 4);
        counts("with snow 1", x, 3, 0);
        x.snow(2);
        counts("with snow 2", x, 3, 4);
        counts("with DEAR", Due.heardBy("d;1", 0, 1, 3, 4), 3, 2);
    }

    private static void countChanges() {
        due.says("4 how often WORDS were changed,");
        ReadBackwards x = Due.taken("y;1");
        counts("at first", x, 4, 0);
        x.change(0, 0);
        counts("of a change to the same", x, 4, 1);
        x.change(0, 1);
        x.change(1, 1);
        x.change(0, 6);
        x.snow(2);
        counts("with refused ones, and snow", x, 4, 2);
        changesAreOfTheLetter(x);
    }

    private static void changesAreOfTheLetter(ReadBackwards x) {
        Due.page(x, "y;1").take();
        counts("of a second letter", x, 4, 0);
        ReadBackwards unchanged = Due.page(Due.taken("y;1"), "y;1");
        unchanged.take();
        due.is("digest() of a second letter", x.digest(), unchanged.digest());
        x.change(0, 2);
        x.image();
        x.change(0, 3);
        x.restore();
        counts("of the second, restored", x, 4, 1);
    }

    private static void countTold() {
        due.says("5 what is TOLD,");
        ReadBackwards x = Due.taken("y;1");
        for (int much = 0; much <= 6; much++) {
            counts("of " + much, x, 5, much);
            x.tell(much, true);
        }
        counts("behind a seventh", x, 5, 6);
        x.forget();
        counts("behind forget()", x, 5, 0);
    }

    private static void countSigns() {
        due.says("6 signs of THE PAGE,");
        ReadBackwards x = new ReadBackwards();
        for (int size = 0; size <= 12; size++) {
            counts("of " + size, x, 6, size);
            x.letter('z');
        }
        counts("behind a thirteenth", x, 6, 12);
        x.blank();
        counts("behind blank()", x, 6, 0);
    }

    private static void countTaken() {
        due.says("7 how often a LETTER was taken,");
        ReadBackwards x = new ReadBackwards();
        for (int times = 0; times <= 30; times++) {
            counts("of " + times, x, 7, times);
            x.take();
            Due.page(x, "y;1").take();
        }
    }

    private static void countWritten() {
        due.says("8 how often write() was done.");
        ReadBackwards x = new ReadBackwards();
        for (int times = 0; times <= 20; times++) {
            counts("of " + times, x, 8, times);
            x.write(0, 0, 0, 9);
            x.write(times % 5, times % 3, 0, 10);
        }
        counts("behind a twenty-first", x, 8, 20);
    }

    private static void countRefuses() {
        due.says("OUTSIDE.");
        ReadBackwards none = new ReadBackwards();
        ReadBackwards x = fullOfAll();
        due.refusedEach(none, "count(#) of none", none::count, Due.OUTSIDE, -1, 9, Due.LOWEST, Due.HIGHEST);
        due.refusedEach(x, "count(#)", x::count, Due.OUTSIDE, -1, 9, 10, Due.LOWEST, Due.HIGHEST);
        int[] want = {9, 5, 4, 2, 0, 6, 12, 1, 20};
        for (int what = 0; what <= 8; what++) counts("of all", x, what, want[what]);
    }

    // ---- promise 22

    private static void digestWraps() {
        due.says("h is 953, then for each of these numbers, in order, 31 times h, and it (as longs, wrapping):");
        due.is("digest() of a new one", new ReadBackwards().digest(), folded(31, 0, 0, 0, 0, 0, 0, 0, 0, 0));
        // Ten numbers fit into a long; by the eleventh it wraps around.
        ReadBackwards one = Due.page(new ReadBackwards(), "~");
        due.is("digest() of one sign", one.digest(), folded(31, 126, 0, 0, 0, 0, 0, 0, 1, 0, 0));
        ReadBackwards two = Due.page(new ReadBackwards(), "~~");
        due.is("digest() of two signs", two.digest(), folded(31, 126, 126, 0, 0, 0, 0, 0, 0, 2, 0, 0));
        ReadBackwards many = Due.page(new ReadBackwards(), "~~~~~~~~~~~~");
        due.is("digest() of twelve signs", many.digest(), folded(31, 126, 126, 126, 126, 126, 126, 126, 126, 126, 126, 126,
            126, 0, 0, 0, 0, 0, 0, 12, 0, 0));
    }

    private static void digestOfWords() {
        due.says("of each WORD what word() tells for 0 to 2;");
        due.is("digest() of one word", Due.taken("n;4").digest(), folded(1, 99, 99, 31, 0, 59, 1, 4, 0, 0, 0, 0, 0, 1, 0));
        due.is("digest() of yu;4", Due.taken("yu;4").digest(),
            folded(0, 101, 101, 3, 100, 99, 31, 0, 59, 2, 4, 0, 0, 0, 0, 0, 1, 0));
    }

    private static void digestOfListeners() {
        due.says("of each LISTENER what about() tells for 0 to 6;");
        due.is("digest() of two", Due.heardBy("ynn;4", Due.HASTY, Due.DEAF).digest(), folded(
            0, 99, 101, 1, 98, 100, 1, 99, 99,
            3, 2, 98, 1, 3, 99, 0,
            2, 3, 99, 0, 3, 99, 0,
            31, 0, 59, 3, 4, 2, 1, 0, 0, 0, 1, 0));
    }

    private static void digestOfWhich() {
        due.says("WHICH;");
        ReadBackwards x = Due.taken("dn;9");
        x.tell(1, true);
        due.is("digest() of widows", x.digest(), folded(4, 100, 101, 1, 99, 100, 18, 0, 59, 2, 9, 0, 0, 0, 1, 0, 1, 0));
        x.tell(0, false);
        due.is("digest() of nobody", x.digest(), folded(4, 100, 101, 1, 99, 100, 0, -1, 59, 2, 9, 0, 0, 0, 2, 0, 1, 0));
    }

    private static void digestWithALetter() {
        due.says("with a LETTER ASK, REST of 0 known, 3 WORDS, VALUE 1;");
        due.is("digest() without one", Due.page(new ReadBackwards(), "y").digest(), folded(31, 'y', 0, 0, 0, 0, 0, 0, 1, 0, 0));
        // From the top a WIDOW and a BRIDE hear one word, the others three; from the end all three.
        due.is("digest() where the top tells more", Due.taken("d.y;9").digest(),
            folded(4, 102, 101, 5, 101, 101, 0, 101, 102, 31, 1, 59, 3, 9, 0, 0, 0, 0, 0, 1, 0));
    }

    private static void digestOfThePage() {
        due.says("signs of THE PAGE;");
        due.is("digest() of a page", Due.page(new ReadBackwards(), "y;").digest(),
            folded(31, 'y', ';', 0, 0, 0, 0, 0, 0, 2, 0, 0));
        due.is("digest() of signs that are none of a letter", Due.page(Due.taken(".;1"), "\u0001~").digest(),
            folded(5, 100, 100, 31, 0, 59, 1, 126, 1, 1, 0, 0, 0, 0, 2, 1, 0));
    }

    private static void digestOfCounts() {
        due.says("what count() tells for 0 to 8.");
        ReadBackwards x = Due.heardBy("dn;9", Due.WIDOW);
        x.tell(1, true);
        x.change(1, 1);
        x.write(0, 0, 0, 0);
        Due.page(x, "~");
        due.is("digest() of dn;9", x.digest(), folded(4, 100, 101, 1, 99, 100, 1, 2, 100, 1, 1, 101, 1,
            18, 0, 59, '~', 2, 9, 1, 1, 1, 1, 1, 1, 1));
        long before = x.digest();
        due.is("digest() changes nothing", x.digest(), before);
    }

    /** Without wrapping, and cut to a long at last. */
    private static long folded(long... numbers) {
        BigInteger h = BigInteger.valueOf(953);
        for (long number : numbers) h = h.multiply(BigInteger.valueOf(31)).add(BigInteger.valueOf(number));
        return h.longValue();
    }
}
