/** Promises 19 to 22: image, restore, count, digest. */
public final class AllTest {
    private static final Due due = new Due();

    public static void main(String[] args) {
        image();
        restore();
        restoreRefuses();
        count();
        changesAreOfTheLetter();
        digest();
        due.end();
    }

    private static void image() {
        ReadBackwards none = new ReadBackwards();
        due.refused(none, "image() without a letter", none::image, Due.STATE);
        ReadBackwards x = Due.heardBy("yn;5", Due.WIDOW);
        long before = x.digest();
        due.is("image()", x.image(), 2);
        due.is("image() changes nothing that is told", x.digest(), before);
        x.change(0, 3);
        due.is("the latest image()", x.image(), 2);
        x.change(0, 4);
        x.restore();
        due.is("the latest is gone on from", x.word(0, 0), 3);
    }

    private static void restore() {
        ReadBackwards x = Due.heardBy("ynt;5", Due.WIDOW, Due.DEAF);
        x.tell(3, false);
        x.change(2, 4);
        long before = x.digest();
        x.image();
        x.change(0, 5);
        x.change(1, 5);
        x.snow(1);
        x.listener(Due.BRIDE);
        x.tell(0, true);
        due.is("restore()", x.restore(), 3);
        due.is("digest() behind restore()", x.digest(), before);
        due.is("words", x.word(0, 0) * 100 + x.word(1, 0) * 10 + x.word(2, 0), 14);
        due.is("snow", x.count(1), 5);
        due.is("listeners", x.count(2), 2);
        due.is("the one that came since", x.about(2, 0), Due.UNKNOWN);
        due.is("changes", x.count(4), 1);
        due.is("told", x.count(5), 1);
        x.forget();
        x.change(0, 1);
        due.is("restore() again", x.restore(), 3);
        due.is("digest() behind restore() again", x.digest(), before);
        due.is("a new listener", x.listener(Due.HASTY), 2);
        due.is("her kind", x.about(2, 0), Due.HASTY);
        restoreKeepsTheRest();
    }

    private static void restoreKeepsTheRest() {
        ReadBackwards x = Due.taken("y;5");
        x.image();
        x.write(0, 0, 0, 0);
        Due.page(x, "zz");
        x.restore();
        due.is("signs of the page stay", x.count(6), 2);
        due.is("write() was done", x.count(8), 1);
        due.is("taken", x.count(7), 1);
    }

    private static void restoreRefuses() {
        ReadBackwards x = new ReadBackwards();
        due.refused(x, "restore() without a letter", x::restore, Due.STATE);
        Due.page(x, "yn;1").take();
        due.refused(x, "restore() without an image", x::restore, Due.STATE);
        x.image();
        due.is("restore()", x.restore(), 2);
        Due.page(x, "yn");
        x.take();
        due.is("restore() behind a refused take()", x.restore(), 2);
        Due.page(x, ";1").take();
        due.refused(x, "restore() with another letter", x::restore, Due.STATE);
        x.image();
        due.is("restore() behind a new image()", x.restore(), 2);
    }

    private static void count() {
        ReadBackwards x = Due.heardBy("ynn;7", Due.LISTENER, Due.DEAF, Due.BRIDE);
        x.change(0, 4);
        x.tell(1, true);
        x.tell(2, true);
        x.write(0, 0, 0, 10);
        Due.page(x, "abcd");
        int[] want = {3, 7, 3, 2, 1, 2, 4, 1, 1};
        for (int what = 0; what <= 8; what++) due.is("count(" + what + ")", x.count(what), want[what]);
        x.snow(1);
        due.is("count(3) with snow 1", x.count(3), 0);
        int[] outside = {-1, 9, Due.LOWEST, Due.HIGHEST};
        for (int what : outside) due.refused(x, "count(" + what + ")", () -> x.count(what), Due.OUTSIDE);
    }

    private static void changesAreOfTheLetter() {
        ReadBackwards x = Due.taken("y;1");
        x.change(0, 0);
        x.change(0, 1);
        x.image();
        Due.page(x, "y;1").take();
        due.is("count(4) of a second letter", x.count(4), 0);
        due.refused(x, "restore() of the first one's changes", x::restore, Due.STATE);
        due.is("count(4) behind the refused restore()", x.count(4), 0);
        ReadBackwards unchanged = Due.page(Due.taken("y;1"), "y;1");
        unchanged.take();
        due.is("digest() of a second letter", x.digest(), unchanged.digest());
        x.change(0, 2);
        x.image();
        x.change(0, 3);
        x.restore();
        due.is("count(4) of the second, restored", x.count(4), 1);
    }

    private static void digest() {
        due.is("digest() of a new one", new ReadBackwards().digest(), folded(31, 0, 0, 0, 0, 0, 0, 0, 0, 0));
        ReadBackwards page = Due.page(new ReadBackwards(), "y;");
        due.is("digest() of a page", page.digest(), folded(31, 'y', ';', 0, 0, 0, 0, 0, 0, 2, 0, 0));
        ReadBackwards x = Due.heardBy("dn;9", Due.WIDOW);
        x.tell(1, true);
        Due.page(x, "~");
        // words; the widow shuts at d both ways; widow and bride are left, alike both ways; 59 of rest(0, 3, 1)
        due.is("digest() of dn;9", x.digest(), folded(4, 100, 101, 1, 99, 100, 1, 2, 100, 1, 1, 101, 1,
            18, 0, 59, '~', 2, 9, 1, 1, 0, 1, 1, 1, 0));
        x.tell(0, false);
        due.is("digest() of nobody", x.digest(), folded(4, 100, 101, 1, 99, 100, 1, 2, 100, 1, 1, 101, 1,
            0, -1, 59, '~', 2, 9, 1, 1, 0, 2, 1, 1, 0));
        long before = x.digest();
        due.is("digest() changes nothing", x.digest(), before);
    }

    private static long folded(long... numbers) {
        long h = 953;
        for (long number : numbers) h = 31 * h + number;
        return h;
    }
}
