import java.io.IOException;
import java.nio.file.Files;
import java.nio.file.Path;
import java.util.function.IntSupplier;
import java.util.function.IntUnaryOperator;

/**
 * Compares answers with those that are due, and ends a test by its exit code.
 *
 * A test quotes the document sentence by sentence, each ahead of what holds to it. A quote that the
 * document has not, and a sentence of a part that nobody quotes, are wrong too: so none goes untested.
 */
final class Due {
    static final int NONE = -1, UNKNOWN = -101, OUTSIDE = -102, STATE = -103, FULL = -104;
    static final int LISTENER = 0, WIDOW = 1, DEAF = 2, HASTY = 3, BRIDE = 4;
    static final int LOWEST = Integer.MIN_VALUE, HIGHEST = Integer.MAX_VALUE;

    private int wrong;
    private int asked;
    private String document = "";
    private int unquoted, partEnd;
    private String sentence = "";

    void is(String call, long got, long want) {
        asked++;
        if (got == want) return;
        wrong++;
        String where = sentence.isEmpty() ? "" : " [" + sentence + "]";
        System.out.println(call + " answered " + got + ", due is " + want + where);
    }

    /** A refused call must change nothing: the digest tells of all but the image. */
    void refused(ReadBackwards x, String call, IntSupplier made, int want) {
        long before = x.digest();
        is(call, made.getAsInt(), want);
        is("digest() behind the refused " + call, x.digest(), before);
    }

    /** The call, with each of these numbers for its #, is refused. */
    void refusedEach(ReadBackwards x, String call, IntUnaryOperator made, int want, int... numbers) {
        for (int number : numbers) {
            refused(x, call.replace("#", "" + number), () -> made.applyAsInt(number), want);
        }
    }

    /** The part of the document that goes from this text on to the next one is quoted now. */
    void terms(String first, String next) {
        openPart(first, next);
    }

    /** A promise is quoted now, behind its head, as `int blank()`. */
    void promise(String head) {
        openPart("`" + head + "`:", "\n## ");
        unquoted += head.length() + 3;
    }

    void says(String quote) {
        int at = document.indexOf(quote, unquoted);
        boolean there = at >= 0 && at + quote.length() <= partEnd;
        sentence = quote;
        is("how often the document says it here", there ? 1 : 0, 1);
        if (!there) return;
        leftOut(at);
        unquoted = at + quote.length();
    }

    void end() {
        closePart();
        System.out.println(wrong == 0 ? asked + " answers are as due" : wrong + " answers are not as due");
        if (wrong != 0) System.exit(1);
    }

    private void openPart(String first, String next) {
        closePart();
        if (document.isEmpty()) document = read();
        int from = document.indexOf(first);
        int to = from < 0 ? -1 : document.indexOf(next, from + first.length());
        is("the document has " + first, to < 0 ? 0 : 1, 1);
        unquoted = Math.max(from, 0);
        partEnd = Math.max(to, 0);
    }

    private void closePart() {
        if (partEnd > 0) leftOut(partEnd);
        partEnd = 0;
        sentence = "";
    }

    private void leftOut(int until) {
        String left = until > unquoted ? document.substring(unquoted, until).strip() : "";
        boolean saysNothing = left.chars().noneMatch(Character::isLetterOrDigit);
        is("sentences here that no test quotes, as <" + left + ">", saysNothing ? 0 : 1, 0);
    }

    /** Without the signs of its setting, and without the lines that only tell how calls are grouped. */
    private static String read() {
        try {
            String text = Files.readString(Path.of("../shared/DOC.md"));
            return text.replaceAll("(?m)^(```.*|Ahead of the calls.*)$", "").replaceAll("======== \\d ", "");
        } catch (IOException e) {
            throw new IllegalStateException("../shared/DOC.md can't be read", e);
        }
    }

    static ReadBackwards page(ReadBackwards x, String text) {
        for (char sign : text.toCharArray()) x.letter(sign);
        return x;
    }

    static ReadBackwards taken(String text) {
        ReadBackwards x = page(new ReadBackwards(), text);
        x.take();
        return x;
    }

    static ReadBackwards heardBy(String text, int... kinds) {
        ReadBackwards x = taken(text);
        for (int kind : kinds) x.listener(kind);
        return x;
    }
}
