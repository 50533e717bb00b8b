/** Compares answers with those that are due, and ends a test by its exit code. */
final class Due {
    static final int NONE = -1, UNKNOWN = -101, OUTSIDE = -102, STATE = -103, FULL = -104;
    static final int LISTENER = 0, WIDOW = 1, DEAF = 2, HASTY = 3, BRIDE = 4;
    static final int LOWEST = Integer.MIN_VALUE, HIGHEST = Integer.MAX_VALUE;

    private int wrong;
    private int asked;

    void is(String call, long got, long want) {
        asked++;
        if (got == want) return;
        wrong++;
        System.out.println(call + " answered " + got + ", due is " + want);
    }

    /** A refused call must change nothing: the digest tells of all but the image. */
    void refused(ReadBackwards x, String call, java.util.function.IntSupplier made, int want) {
        long before = x.digest();
        is(call, made.getAsInt(), want);
        is("digest() behind the refused " + call, x.digest(), before);
    }

    void end() {
        System.out.println(wrong == 0 ? asked + " answers are as due" : wrong + " answers are not as due");
        if (wrong != 0) System.exit(1);
    }

    static ReadBackwards page(ReadBackwards x, String text) {
        for (char sign : text.toCharArray()) x.letter(sign);
        return x;
    }

    static ReadBackwards taken(String text) {
        ReadBackwards x = page(new ReadBackwards(), text);
        x.take();
        return x;
    }

    static ReadBackwards heardBy(String text, int... kinds) {
        ReadBackwards x = taken(text);
        for (int kind : kinds) x.listener(kind);
        return x;
    }
}
