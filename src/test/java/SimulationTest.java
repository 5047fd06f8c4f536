import java.util.function.Consumer;
import java.util.function.Supplier;

/** Promise 26: simulations. */
public final class SimulationTest {
    private static final Check CHECK = new Check("SimulationTest");
    private static final String TEXT = "Rs0112233.s112121212.s1345.s26655.o1j125d3m02";

    public static void main(String[] args) {
        promise26Signs();
        promise26Decrees();
        promise26OtherTurns();
        promise26WhatIsLeftOut();
        promise26ManyTurns();
        promise26FinesModulo10000();
        promise26ChangesNothing();
        promise26Throws();
        CHECK.end();
    }

    private static void turn(String text, int q, int kind, Consumer<SignReforms> action) {
        SignReforms x = Towns.of(text);
        SignReforms done = Towns.of(text);
        int before = done.about(6);
        action.accept(done);
        int due = 10000 * (done.about(6) - before) + 100 * done.about(10) + 10 * done.about(2) + done.about(0);
        String told = "simulate of a turn with q " + q + " and " + kind + " behind " + text;
        CHECK.same(told, due, x.simulate(Seeds.of(8 * q + kind), 1));
        CHECK.same(told + " again", due, x.simulate(Seeds.of(8 * q + kind, 0x7fffffff), 1));
    }

    private static void promise26Signs() {
        CHECK.same("a sign of a letter", 101, new SignReforms().simulate(Seeds.of(0), 1));
        CHECK.same("a sign of eight letters", 801, new SignReforms().simulate(Seeds.of(8 * 93), 1));
        CHECK.same("without its letter 5", 601, Towns.of("Rd5").simulate(Seeds.of(8 * 93), 1));
        CHECK.same("without its letter 3", 501, Towns.of("Rd3").simulate(Seeds.of(8 * 93 + 1), 1));
        CHECK.same("its guild has it", 801, Towns.of("Rs131531531.").simulate(Seeds.of(8 * 93), 1));
        CHECK.same("another guild has it", 1602, Towns.of("Rs231531531.").simulate(Seeds.of(8 * 93), 1));
        turn("Rd2", 93, 0, x -> x.sign(1, 31531531));
        turn("Rj315", 93, 1, x -> x.sign(1, 31531531));
        turn("Rj545", 174, 0, x -> x.sign(2, 6543));
        turn("Rs212.d3", 215, 1, x -> x.sign(3, 123456));
        turn("Rj124d6", 215, 0, x -> x.sign(3, 123456));
    }

    private static void promise26Decrees() {
        turn(TEXT, 0, 2, x -> x.decree(0, 1, 0, 0));
        turn(TEXT, 4, 2, x -> x.decree(0, 5, 0, 0));
        turn(TEXT, 5, 2, x -> x.decree(0, 6, 0, 0));
        turn(TEXT, 18 + 3, 2, x -> x.decree(0, 4, 0, 0));
        turn(TEXT, 6 + 5, 2, x -> x.decree(2, 6, 0, 0));
        turn(TEXT, 12 + 4, 2, x -> x.decree(2, 5, 0, 0));
        turn(TEXT, 34, 3, x -> x.decree(1, 5, 5, 1));
        turn(TEXT, 82, 3, x -> x.decree(1, 5, 5, 2));
        turn("Rs0112.s1223.", 96, 3, x -> x.decree(1, 1, 1, 2));
        turn("Rs0112.s1223.", 13, 3, x -> x.decree(1, 2, 2, 1));
        turn("Rs0112.s02.", 102, 3, x -> x.decree(1, 1, 1, 2));
        turn("Rs012.s01.", 9, 3, x -> x.decree(1, 4, 2, 1));
    }

    private static void promise26OtherTurns() {
        turn(TEXT, 0, 4, x -> x.revoke(0));
        turn(TEXT, 21, 4, x -> x.revoke(1));
        turn(TEXT, 32, 4, x -> x.revoke(2));
        turn(TEXT, 0, 5, x -> x.paint(0));
        turn(TEXT, 17, 5, x -> x.paint(1));
        turn(TEXT, 11, 5, x -> x.paint(3));
        turn(TEXT, 0, 7, x -> x.months(1));
        turn(TEXT, 11, 7, x -> x.months(12));
        turn(TEXT, 12, 7, x -> x.months(1));
        turn(TEXT, 0, 6, x -> x.amnesty(1));
        turn(TEXT + "y3", 5, 7, x -> x.months(6));
    }

    private static void promise26WhatIsLeftOut() {
        turn(TEXT, 3, 4, x -> { });
        turn(TEXT, 9, 4, x -> { });
        turn(TEXT, 4, 5, x -> { });
        turn(TEXT, 7, 5, x -> { });
        turn(TEXT + "y1", 3, 6, x -> { });
        turn("Rs01.s02.s03.s04.s05.s06.s11.s12.", 0, 0, x -> { });
        turn("Rs01.d6d6d6d6d6d6d6d6d6d6", 8, 3, x -> { });
        turn("Rs01.d6d6d6d6d6d6d6d6d6d6", 2, 2, x -> { });
    }

    /** An amnesty keeps off the fines of the turns behind it; all turns are of one copy. */
    private static void promise26ManyTurns() {
        for (long seed : new long[] {0, 1, -1, 42, Long.MIN_VALUE, Long.MAX_VALUE, 123456789012345L}) {
            for (int m : new int[] {1, 2, 3, 7, 25, 60}) {
                for (String text : new String[] {"R", TEXT, TEXT + "y9", "Rs0123.s1234.d2"}) {
                    SignReforms x = Towns.of(text);
                    Model model = Model.of(text);
                    CHECK.same("simulate(" + seed + ", " + m + ") behind " + text, model.simulate(seed, m),
                            x.simulate(seed, m));
                }
            }
        }
    }

    /** Eight wrong signs and the dearest fine: 15260 and 20300 coins in these turns. */
    private static void promise26FinesModulo10000() {
        String text = "Rs0112.s1112.s2112.s3112.s0122.s1122.s2122.s3122.d1m01";
        SignReforms x = Towns.of(text);
        Model model = Model.of(text);
        x.set(1, 20);
        model.set(1, 20);
        CHECK.same("simulate(129, 60)", 52601268, x.simulate(129, 60));
        CHECK.same("simulate(129, 60) of the model", 52601268, model.simulate(129, 60));
        CHECK.same("simulate(1944365, 60)", 3001248, x.simulate(1944365, 60));
        CHECK.same("simulate(1944365, 60) of the model", 3001248, model.simulate(1944365, 60));
    }

    private static void promise26ChangesNothing() {
        SignReforms x = Towns.of(TEXT);
        x.simulate(5, 60);
        x.simulate(99, 60);
        CHECK.same("behind simulate", View.ofAll(Towns.of(TEXT)), View.ofAll(x));
    }

    private static void promise26Throws() {
        Supplier<SignReforms> maker = () -> Towns.of(TEXT);
        CHECK.argument("simulate(1, 0)", maker, x -> x.simulate(1, 0));
        CHECK.argument("simulate(1, 61)", maker, x -> x.simulate(1, 61));
        CHECK.argument("simulate(1, -1)", maker, x -> x.simulate(1, -1));
    }
}
