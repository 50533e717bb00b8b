/** Promises 9 to 11: listener, about, as. */
public final class ListenerTest {
    private static final Due due = new Due();

    public static void main(String[] args) {
        listener();
        aboutEachKind();
        aboutSnow();
        aboutRefuses();
        as();
        due.end();
    }

    private static void listener() {
        int[] outside = {-1, 5, Due.LOWEST, Due.HIGHEST};
        ReadBackwards none = new ReadBackwards();
        due.refused(none, "listener(0) without a letter", () -> none.listener(0), Due.STATE);
        for (int kind : outside) due.refused(none, "listener(" + kind + ")", () -> none.listener(kind), Due.OUTSIDE);
        ReadBackwards x = Due.taken("y;1");
        int[] kinds = {Due.BRIDE, Due.LISTENER, Due.LISTENER, Due.HASTY};
        for (int number = 0; number < 4; number++) {
            due.is("listener " + number, x.listener(kinds[number]), number);
            due.is("count(2)", x.count(2), number + 1);
        }
        for (int number = 0; number < 4; number++) due.is("kind of " + number, x.about(number, 0), kinds[number]);
        due.refused(x, "fifth listener", () -> x.listener(Due.DEAF), Due.FULL);
        for (int kind : outside) due.refused(x, "fifth listener(" + kind + ")", () -> x.listener(kind), Due.OUTSIDE);
    }

    private static void aboutEachKind() {
        // below -1: everybody but a deaf one shuts, at the word by which it is
        told("ynn;9", Due.LISTENER, 2, 98, 1, 3, 99, 0);
        told("nny;9", Due.LISTENER, 3, 99, 0, 2, 98, 1);
        told("yyu;9", Due.WIDOW, 3, 102, 0, 3, 98, 1);
        told("tyty;9", Due.HASTY, 4, 100, 0, 4, 98, 1);
        told("nnn;9", Due.BRIDE, 2, 98, 1, 2, 98, 1);
        told("nnn;9", Due.DEAF, 3, 97, 0, 3, 97, 0);
        // -1 is not below -1
        told("n.n;1", Due.LISTENER, 1, 99, 0, 1, 99, 0);
        // behind DEAR
        told("ydn;9", Due.WIDOW, 2, 100, 1, 2, 102, 1);
        told("ydn;9", Due.BRIDE, 2, 100, 1, 2, 102, 1);
        told("ydn;9", Due.LISTENER, 3, 101, 0, 3, 101, 0);
        told("ydn;9", Due.HASTY, 3, 101, 0, 3, 101, 0);
        told("ydn;9", Due.DEAF, 3, 101, 0, 3, 101, 0);
        // behind the second PAUSE
        told(".y.n;9", Due.HASTY, 4, 100, 1, 3, 101, 1);
        told(".y.n;9", Due.LISTENER, 4, 100, 0, 4, 100, 0);
        told(".y.n;9", Due.WIDOW, 4, 100, 0, 4, 100, 0);
        told(".y.n;9", Due.DEAF, 4, 100, 0, 4, 100, 0);
        told(".yn;9", Due.HASTY, 3, 100, 0, 3, 100, 0);
        // above 1
        told("yyn;9", Due.BRIDE, 3, 101, 0, 2, 102, 1);
        told("yyn;9", Due.WIDOW, 3, 101, 0, 3, 101, 0);
        told("yuu;9", Due.BRIDE, 3, 101, 0, 3, 101, 0);
        // a deaf one has it from the top in both, and whole
        told("yutn;1", Due.DEAF, 4, 100, 0, 4, 100, 0);
        told("tyn;1", Due.DEAF, 3, 98, 0, 3, 98, 0);
    }

    private static void told(String text, int kind, int... want) {
        ReadBackwards x = Due.heardBy(text, kind);
        due.is(text + " about(0, 0)", x.about(0, 0), kind);
        for (int what = 1; what <= 6; what++) {
            due.is(text + " to " + kind + ": about(0, " + what + ")", x.about(0, what), want[what - 1]);
        }
    }

    private static void aboutSnow() {
        told("nny;1", Due.LISTENER, 1, 101, 0, 1, 99, 0);
        told("ynn;2", Due.LISTENER, 2, 98, 1, 2, 100, 0);
        told("ynn;3", Due.HASTY, 2, 98, 1, 3, 99, 0);
        told("d;5", Due.BRIDE, 1, 101, 1, 1, 101, 1);
        told("..;1", Due.HASTY, 1, 100, 0, 1, 100, 0);
    }

    private static void aboutRefuses() {
        ReadBackwards x = Due.heardBy("y;1", Due.LISTENER, Due.WIDOW);
        int[] unknown = {-1, 2, 3, 4, Due.LOWEST, Due.HIGHEST};
        for (int number : unknown) {
            due.refused(x, "about(" + number + ", 0)", () -> x.about(number, 0), Due.UNKNOWN);
            due.refused(x, "about(" + number + ", 7)", () -> x.about(number, 7), Due.UNKNOWN);
            due.refused(x, "as(" + number + ", 0)", () -> x.as(number, 0), Due.UNKNOWN);
            due.refused(x, "as(" + number + ", 5)", () -> x.as(number, 5), Due.UNKNOWN);
        }
        int[] outside = {-1, 7, Due.LOWEST, Due.HIGHEST};
        for (int what : outside) {
            due.refused(x, "about(1, " + what + ")", () -> x.about(1, what), Due.OUTSIDE);
            due.refused(x, "as(1, " + what + ")", () -> x.as(1, what), Due.OUTSIDE);
        }
        due.refused(x, "as(1, 5)", () -> x.as(1, 5), Due.OUTSIDE);
    }

    private static void as() {
        for (int kind = 0; kind < 5; kind++) {
            ReadBackwards x = Due.heardBy("y;1", Due.DEAF, kind);
            for (int asKind = 0; asKind < 5; asKind++) {
                boolean such = asKind == kind || asKind == Due.LISTENER || kind == Due.BRIDE && asKind == Due.WIDOW;
                due.is("as(1, " + asKind + ") of " + kind, x.as(1, asKind), such ? 1 : Due.NONE);
            }
        }
    }
}
