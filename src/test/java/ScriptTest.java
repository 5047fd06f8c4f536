import java.util.function.Supplier;

/** Promise 25: scripts. */
public final class ScriptTest {
    private static final Check CHECK = new Check("ScriptTest");
    /**
     * The right spellings are 52, 5555, 45 and 6655; the first three signs are wrong by 5, 8 and 1 letters,
     * and each of the three was fined for two months.
     */
    private static final String TEXT = "Rs0112233.s112121212.s1345.s26655.o1j125d3m02";

    public static void main(String[] args) {
        promise25Decrees();
        promise25Revoking();
        promise25PaintMonthsAmnesty();
        promise25Questions();
        promise25OtherGroups();
        promise25ManyCommands();
        promise25ChangesNothing();
        promise25Throws();
        CHECK.end();
    }

    private static void one(int group, boolean succeeds) {
        script(TEXT, 1, group, succeeds ? -1 : 0);
    }

    private static void script(String text, int n, long script, int due) {
        SignReforms x = Towns.of(text);
        CHECK.same("runScript(" + n + ", " + script + ") behind " + text, due, x.runScript(n, script));
    }

    private static void promise25Decrees() {
        one(1010, true);
        one(1020, true);
        one(1050, false);
        one(1060, true);
        one(1250, true);
        one(1110, false);
        one(1310, false);
        one(1000, false);
        one(1070, false);
        one(1270, false);
        one(1011, false);
        one(1251, false);
        one(2523, true);
        one(2555, true);
        one(2023, false);
        one(2503, false);
        one(2520, false);
        one(2723, false);
        one(2573, false);
        one(2529, false);
        script("Rs012.s02.", 1, 2122, 0);
        script("Rd6d6d6d6d6d6d6d6d6d6", 1, 1010, 0);
        script("Rd6d6d6d6d6d6d6d6d6d6", 1, 2123, 0);
        script("Rd6d6d6d6d6d6d6d6d6", 1, 2123, -1);
        script("Rd6d6d6d6d6d6d6d6d6", 2, 21231010, 1);
    }

    private static void promise25Revoking() {
        one(3000, true);
        one(3200, true);
        one(3300, false);
        one(3900, false);
        one(3010, false);
        one(3001, false);
        script("Rs011.j112d1", 1, 3000, 0);
        script("Rs011.j112d1", 2, 31003000, -1);
    }

    private static void promise25PaintMonthsAmnesty() {
        one(4000, true);
        one(4300, true);
        one(4400, false);
        one(4900, false);
        one(4010, false);
        one(4001, false);
        one(5001, true);
        one(5060, true);
        one(5000, false);
        one(5061, false);
        one(5099, false);
        one(5101, false);
        one(6001, true);
        one(6009, true);
        one(6000, false);
        one(6011, false);
        one(6101, false);
        script("Ry1", 1, 6001, 0);
        script("Ry1m11", 1, 6001, 0);
        script("Ry1m12", 1, 6001, -1);
    }

    private static void promise25Questions() {
        one(7005, true);
        one(7004, false);
        one(7108, true);
        one(7107, false);
        one(7300, true);
        one(7400, false);
        one(7015, false);
        one(8003, true);
        one(8002, false);
        one(8009, true);
        one(8013, false);
        one(8103, false);
        one(9000, true);
        one(9006, true);
        one(9007, false);
        one(9112, true);
        one(9113, false);
        one(9300, true);
        one(9301, false);
        one(9400, false);
        one(9900, false);
        script(TEXT + "m05", 1, 9021, -1);
        script(TEXT + "m05", 1, 9022, 0);
        script(TEXT + "m60", 1, 9199, -1);
    }

    private static void promise25OtherGroups() {
        one(0, false);
        one(1, false);
        one(10, false);
        one(123, false);
        one(999, false);
    }

    private static void promise25ManyCommands() {
        script(TEXT, 2, 40008002, -1);
        script(TEXT, 2, 40008001, 1);
        script(TEXT, 3, 400041008001L, -1);
        script(TEXT, 4, 4000410042008000L, -1);
        script(TEXT, 4, 5001900990109009L, 2);
        script(TEXT, 4, 5001900990100000L, 2);
        script(TEXT, 4, 9999999999999999L, 0);
        script(TEXT, 4, 6003500390063000L, -1);
        script(TEXT, 4, 6003500390073000L, 2);
        script(TEXT, 4, 6003500490099010L, 3);
        script(TEXT, 4, 0, 0);
        script(TEXT, 2, 4000, 0);
        script(TEXT, 4, 3200700370023000L, 2);
        script(TEXT, 2, 10107005, -1);
    }

    private static void promise25ChangesNothing() {
        SignReforms x = Towns.of(TEXT);
        x.runScript(4, 3200400050126009L);
        x.runScript(4, 1020252350601250L);
        CHECK.same("behind runScript", View.ofAll(Towns.of(TEXT)), View.ofAll(x));
    }

    private static void promise25Throws() {
        Supplier<SignReforms> maker = () -> Towns.of(TEXT);
        CHECK.argument("runScript(0, 0)", maker, x -> x.runScript(0, 0));
        CHECK.argument("runScript(5, 0)", maker, x -> x.runScript(5, 0));
        CHECK.argument("runScript(-1, 0)", maker, x -> x.runScript(-1, 0));
        CHECK.argument("runScript(1, -1)", maker, x -> x.runScript(1, -1));
        CHECK.argument("runScript(4, least)", maker, x -> x.runScript(4, Long.MIN_VALUE));
        CHECK.argument("runScript(4, most)", maker, x -> x.runScript(4, Long.MAX_VALUE));
        long unit = 1;
        for (int n = 1; n <= 4; n++) {
            unit *= 10000;
            int commands = n;
            long tooLong = unit;
            CHECK.argument("runScript of a digit too many", maker, x -> x.runScript(commands, tooLong));
            CHECK.same("runScript of the most digits", 0, maker.get().runScript(n, unit - 1));
        }
    }
}
