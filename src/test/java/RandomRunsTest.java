import java.util.Random;

/** All promises: long runs of calls by a fixed seed, each answer compared with the model's. */
public final class RandomRunsTest {
    private static final int RUNS = 400, CALLS = 512;
    private static final int[] EDGES = {Integer.MIN_VALUE, -1000, -21, -20, -5, -4, -3, -2, -1, 5, 6, 7, 8, 9, 10, 11, 14,
        15, 20, 21, 40, 41, 126, 127, Integer.MAX_VALUE - 1, Integer.MAX_VALUE};

    private static final Due due = new Due();

    public static void main(String[] args) {
        for (int run = 0; run < RUNS; run++) oneRun(run, new Random(run));
        due.end();
    }

    private static void oneRun(int run, Random random) {
        ReadBackwards x = new ReadBackwards();
        Model m = new Model();
        for (int call = 0; call < CALLS; call++) {
            if (random.nextInt(40) == 0) call += newLetter(run, random, x, m);
            else oneCall(run, random, x, m);
        }
        due.is("run " + run + ": digest()", x.digest(), m.digest());
    }

    private static int newLetter(int run, Random random, ReadBackwards x, Model m) {
        due.is("run " + run + ": blank()", x.blank(), m.blank());
        int size = 1 + random.nextInt(random.nextInt(5) == 0 ? 10 : 9);
        for (int i = 0; i < size; i++) {
            int code = Model.SIGNS.charAt(random.nextInt(6));
            due.is("run " + run + ": letter(" + code + ")", x.letter(code), m.letter(code));
        }
        int snow = '1' + random.nextInt(random.nextInt(9) == 0 ? 10 : 9);
        due.is("run " + run + ": letter(';')", x.letter(';'), m.letter(';'));
        due.is("run " + run + ": letter(" + snow + ")", x.letter(snow), m.letter(snow));
        due.is("run " + run + ": fault()", x.fault(), m.fault());
        due.is("run " + run + ": take()", x.take(), m.take());
        return size + 4;
    }

    private static void oneCall(int run, Random random, ReadBackwards x, Model m) {
        int which = random.nextInt(21);
        int a = number(random, 4), b = number(random, 6), c = number(random, 3), d = number(random, 15);
        boolean fromTop = random.nextBoolean();
        String call = "run " + run + ": call " + which + " with " + a + " " + b + " " + c + " " + d + " " + fromTop;
        switch (which) {
            case 0: {
                int code = random.nextInt(4) == 0 ? number(random, 127) : "yntud.;123".charAt(random.nextInt(10));
                due.is(call + " letter " + code, x.letter(code), m.letter(code));
                break;
            }
            case 1: if (random.nextInt(6) == 0) due.is(call, x.blank(), m.blank()); break;
            case 2: due.is(call, x.fault(), m.fault()); break;
            case 3: due.is(call, x.take(), m.take()); break;
            case 4: due.is(call, x.word(b, c), m.word(b, c)); break;
            case 5: due.is(call, x.change(b, c * 2), m.change(b, c * 2)); break;
            case 6: due.is(call, x.snow(d), m.snow(d)); break;
            case 7: due.is(call, x.listener(a), m.listener(a)); break;
            case 8: due.is(call, x.about(a, b), m.about(a, b)); break;
            case 9: due.is(call, x.as(a, b), m.as(a, b)); break;
            case 10: {
                int end = c - 1, top = number(random, 3) - 1, what = random.nextBoolean() ? 0 : d;
                due.is(call + " write " + end + " " + top, x.write(a, end, top, what), m.write(a, end, top, what));
                break;
            }
            case 11: due.is(call, x.rest(a, a + c, b - 2), m.rest(a, a + c, b - 2)); break;
            case 12: due.is(call, x.rest(a, b, c), m.rest(a, b, c)); break;
            case 13: due.is(call, x.tell(b, fromTop), m.tell(b, fromTop)); break;
            case 14: if (random.nextInt(3) == 0) due.is(call, x.forget(), m.forget()); break;
            case 15: due.is(call, x.which(), m.which()); break;
            case 16: due.is(call, x.ask(), m.ask()); break;
            case 17: {
                int seed = random.nextBoolean() ? random.nextInt() : b;
                due.is(call + " seed " + seed, x.days(d, seed, c), m.days(d, seed, c));
                break;
            }
            case 18: if (random.nextInt(3) == 0) due.is(call, x.image(), m.image()); break;
            case 19: due.is(call, x.restore(), m.restore()); break;
            default:
                due.is(call, x.count(b + c), m.count(b + c));
                due.is(call, x.digest(), m.digest());
        }
    }

    private static int number(Random random, int bound) {
        return random.nextInt(12) == 0 ? EDGES[random.nextInt(EDGES.length)] : random.nextInt(bound);
    }
}
