import java.io.IOException;
import java.nio.file.Files;
import java.nio.file.Path;
import java.util.regex.Matcher;
import java.util.regex.Pattern;

/** What LANGUAGE.md rules out and a look at the text can find, and that calls make no objects. */
public final class LanguageTest {
    private static final String[] RULED_OUT = {"\\bthrow\\b", "\\bthrows\\b", "\\btry\\b", "\\bcatch\\b",
        "\\bfinally\\b", "\\bsynchronized\\b", "\\bassert\\b", "->", "::", "\\bstatic\\s*\\{", "\\bpackage\\b",
        "\\bprotected\\b", "\\bequals\\b", "\\bhashCode\\b", "\\btoString\\b", "Exact\\b", "\\bSystem\\.(?!arraycopy)",
        "\\bRandom\\b", "\\bThread\\b", "\\bhash\\b", "@", "import (?!java\\.util\\.(Arrays|ArrayList|List|Iterator);)"};

    private static final Due due = new Due();

    public static void main(String[] args) throws IOException {
        String source = Files.readString(Path.of("src/main/java/ReadBackwards.java"));
        String code = source.replaceAll("(?s)/\\*.*?\\*/", " ").replaceAll("//[^\n]*", " ").replaceAll("'.'", "0");
        for (String rule : RULED_OUT) {
            Matcher found = Pattern.compile(rule).matcher(code);
            due.is("uses of " + rule, found.results().count(), 0);
        }
        room();
        due.end();
    }

    /** All calls of a run share one room: behind the constructor nothing may be made. */
    private static void room() {
        for (int warm = 0; warm < 20; warm++) calls(new ReadBackwards());
        ReadBackwards x = new ReadBackwards();
        com.sun.management.ThreadMXBean threads =
            (com.sun.management.ThreadMXBean) java.lang.management.ManagementFactory.getThreadMXBean();
        threads.getCurrentThreadAllocatedBytes();
        long before = threads.getCurrentThreadAllocatedBytes();
        calls(x);
        long made = threads.getCurrentThreadAllocatedBytes() - before;
        due.is("bytes made by some 500 calls are few (" + made + ")", made < 10_000 ? 1 : 0, 1);
    }

    private static void calls(ReadBackwards x) {
        for (int round = 0; round < 16; round++) {
            x.letter('y'); x.letter('n'); x.letter('.'); x.letter(';'); x.letter('3');
            x.fault(); x.take(); x.word(0, 1); x.change(0, 2); x.snow(2);
            for (int kind = 0; kind < 4; kind++) x.listener(kind);
            x.about(0, 1); x.as(0, 1); x.write(2, 1, 0, 0); x.write(0, 1, -1, 10);
            x.rest(2, 7, 1); x.tell(2, true); x.which(); x.ask(); x.days(40, round, 1);
            x.image(); x.forget(); x.restore(); x.count(3); x.digest(); x.blank();
        }
    }
}
