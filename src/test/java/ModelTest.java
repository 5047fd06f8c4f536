/** All promises together: long runs of calls, each answered as the model answers it. */
public final class ModelTest {
    private static final Check CHECK = new Check("ModelTest");
    private static final int RUNS = 600;
    private static final int CALLS = 500;

    private long x;

    private ModelTest(long seed) {
        x = seed;
    }

    public static void main(String[] args) {
        for (int run = 0; run < RUNS; run++) {
            new ModelTest(run * 7919L + 17).run(run);
        }
        CHECK.end();
    }

    /** A number of 0 to below, by a fixed sequence: the same run each time. */
    private int some(int below) {
        x = x * 6364136223846793005L + 1442695040888963407L;
        return (int) ((x >>> 33) % below);
    }

    /** Mostly in the range, now and then just outside of it. */
    private int about(int least, int most) {
        int chance = some(40);
        if (chance == 0) {
            return least - 1;
        }
        return chance == 1 ? most + 1 : least + some(most - least + 1);
    }

    private void run(int run) {
        SignReforms program = new SignReforms();
        Model model = new Model();
        for (int call = 0; call < CALLS; call++) {
            int[] c = chosen(run);
            long script = script(c.length > 1 ? c[1] : 0);
            long got = answer(() -> program(program, c, script));
            long due = answer(() -> model(model, c, script));
            CHECK.same("run " + run + ", call " + call + ": " + java.util.Arrays.toString(c) + " " + script, due, got);
        }
    }

    private interface Call {
        int answer();
    }

    private static final long INDEX = 1L << 40;
    private static final long ARGUMENT = 2L << 40;
    private static final long STATE = 3L << 40;

    private static long answer(Call call) {
        try {
            return call.answer();
        } catch (IndexOutOfBoundsException e) {
            return e.getClass() == IndexOutOfBoundsException.class ? INDEX : INDEX + 1;
        } catch (IllegalArgumentException e) {
            return e.getClass() == IllegalArgumentException.class ? ARGUMENT : ARGUMENT + 1;
        } catch (IllegalStateException e) {
            return STATE;
        }
    }

    private static final String TEXTS = "Rs0112233.s112121212.s1345.o1j125d3m02p1y3r0";

    /** A call: its number, and its arguments. Every third run has few letters, so that more is refused. */
    private int[] chosen(int run) {
        int letters = run % 3 == 0 ? 3 : 6;
        int kind = about(0, 2);
        boolean joins = kind == 1;
        switch (some(34)) {
            case 0:
                return new int[] {0, some(30) == 0 ? about(0, 255) : TEXTS.charAt(some(TEXTS.length()))};
            case 1:
                return new int[] {some(12) == 0 ? 1 : 30};
            case 2:
                return new int[] {2};
            case 3:
                return new int[] {some(6) == 0 ? 3 : 2};
            case 4:
                return new int[] {4, about(0, 11)};
            case 5:
                return new int[] {5, about(0, 7), about(0, 7)};
            case 6:
                return new int[] {6, about(0, 9), about(0, 4)};
            case 7:
                return new int[] {7, about(0, 3), about(0, 3)};
            case 8:
                return new int[] {8, about(0, 7), about(0, 1)};
            case 9:
                return new int[] {9, about(0, 1)};
            case 10:
            case 11:
            case 12:
                return new int[] {10, about(0, 3), word(letters)};
            case 13:
            case 14:
            case 15:
                return new int[] {11, kind, about(1, letters), joins ? about(1, letters) : about(0, 0),
                    joins ? about(1, letters) : about(0, 0)};
            case 16:
            case 17:
                return new int[] {12, about(0, 9)};
            case 18:
                return new int[] {13, about(0, 7)};
            case 19:
                return new int[] {14, some(3) == 0 ? about(1, 60) : about(1, 4)};
            case 20:
                return new int[] {15, about(1, 9)};
            case 21:
                return new int[] {16, about(0, 1), about(0, 20)};
            case 22:
                return new int[] {some(3) == 0 ? 17 : 30};
            case 23:
                return new int[] {18, kind, about(1, letters), joins ? about(1, letters) : about(0, 0),
                    joins ? about(1, letters) : about(0, 0)};
            case 24:
                return new int[] {19};
            case 25:
                return new int[] {20, about(0, 7), about(0, 7)};
            case 26:
                return new int[] {21, some(2) == 0 ? about(0, 999) : some(100)};
            case 27:
                return new int[] {22, about(0, 7)};
            case 28:
            case 29:
                return new int[] {23, about(1, 4)};
            case 30:
                return new int[] {24, about(1, 60)};
            case 31:
                return new int[] {25, about(0, 1)};
            case 32:
                return new int[] {some(8) == 0 ? 26 : 30, about(0, 1)};
            default:
                return new int[] {some(9) == 0 ? 27 : 30};
        }
    }

    private int word(int letters) {
        int length = about(1, 8);
        int word = 0;
        for (int i = 0; i < length; i++) {
            word = word * 10 + (some(100) == 0 ? some(10) : 1 + some(letters));
        }
        return word;
    }

    /** A script of mostly good commands; also the seed of simulations. */
    private long script(int n) {
        if (some(20) == 0) {
            return some(2) == 0 ? -1 : x;
        }
        long script = 0;
        for (int i = 0; i < n; i++) {
            int d = some(10);
            int group;
            if (d == 1) {
                group = 1000 + 200 * some(2) + 10 * (1 + some(6));
            } else if (d == 3 || d == 4) {
                group = 1000 * d + 100 * some(7);
            } else if (d == 5) {
                group = 5000 + some(62);
            } else if (d == 6 || d == 8) {
                group = 1000 * d + some(10);
            } else if (d == 7) {
                group = 7000 + 100 * some(8) + some(10);
            } else {
                group = 1000 * d + (d == 2 ? 111 + 100 * some(6) + 10 * some(6) + some(6) : some(1000));
            }
            script = script * 10000 + (some(30) == 0 ? some(10000) : group);
        }
        return script;
    }

    private static int program(SignReforms x, int[] c, long script) {
        switch (c[0]) {
            case 0: return x.append(c[1]);
            case 1: return x.clearText();
            case 2: return x.errorPosition();
            case 3: return x.load();
            case 4: return x.about(c[1]);
            case 5: return x.signOf(c[1], c[2]);
            case 6: return x.decreeOf(c[1], c[2]);
            case 7: return x.guildOf(c[1], c[2]);
            case 8: return x.right(c[1], c[2]);
            case 9: return x.setting(c[1]);
            case 10: return x.sign(c[1], c[2]);
            case 11: return x.decree(c[1], c[2], c[3], c[4]);
            case 12: return x.revoke(c[1]);
            case 13: return x.paint(c[1]);
            case 14: return x.months(c[1]);
            case 15: return x.amnesty(c[1]);
            case 16: return x.set(c[1], c[2]);
            case 17: return x.undo();
            case 18: return x.why(c[1], c[2], c[3], c[4]);
            case 19: return x.droppable();
            case 20: return x.apart(c[1], c[2]);
            case 21: return x.payable(c[1]);
            case 22: return x.worthIn(c[1]);
            case 23: return x.runScript(c[1], script);
            case 24: return x.simulate(script, c[1]);
            case 25: return x.save(c[1]);
            case 26: return x.restore(c[1]);
            default: return x.about(10);
        }
    }

    private static int model(Model x, int[] c, long script) {
        switch (c[0]) {
            case 0: return x.append(c[1]);
            case 1: return x.clearText();
            case 2: return x.errorPosition();
            case 3: return x.load();
            case 4: return x.about(c[1]);
            case 5: return x.signOf(c[1], c[2]);
            case 6: return x.decreeOf(c[1], c[2]);
            case 7: return x.guildOf(c[1], c[2]);
            case 8: return x.right(c[1], c[2]);
            case 9: return x.setting(c[1]);
            case 10: return x.sign(c[1], c[2]);
            case 11: return x.decree(c[1], c[2], c[3], c[4]);
            case 12: return x.revoke(c[1]);
            case 13: return x.paint(c[1]);
            case 14: return x.months(c[1]);
            case 15: return x.amnesty(c[1]);
            case 16: return x.set(c[1], c[2]);
            case 17: return x.undo();
            case 18: return x.why(c[1], c[2], c[3], c[4]);
            case 19: return x.droppable();
            case 20: return x.apart(c[1], c[2]);
            case 21: return x.payable(c[1]);
            case 22: return x.worthIn(c[1]);
            case 23: return x.runScript(c[1], script);
            case 24: return x.simulate(script, c[1]);
            case 25: return x.save(c[1]);
            case 26: return x.restore(c[1]);
            default: return x.about(10);
        }
    }
}
