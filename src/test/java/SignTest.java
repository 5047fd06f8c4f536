import java.util.function.Supplier;

/** Promises 6, 7, 9 and 12: the sums, signs and guilds. */
public final class SignTest {
    private static final Check CHECK = new Check("SignTest");
    private static final String TEXT = "Rs0112233.s112121212.s1345.s26655.o1j125d3m02p1p3";

    public static void main(String[] args) {
        promise6About();
        promise6AboutAmnestiesAndRefusals();
        promise7SignOf();
        promise9GuildOf();
        promise12SignComes();
        promise12SignIsRefused();
        promise12SignThrows();
        CHECK.end();
    }

    private static void promise6About() {
        SignReforms x = Towns.of(TEXT);
        int[] due = {4, 3, 2, 2, 0, -1, 18, 32, 0, 21, 12, 24};
        for (int what = 0; what <= 11; what++) {
            CHECK.same("about(" + what + ")", due[what], x.about(what));
        }
        CHECK.argument("about(-1)", () -> Towns.of(TEXT), y -> y.about(-1));
        CHECK.argument("about(12)", () -> Towns.of(TEXT), y -> y.about(12));
    }

    private static void promise6AboutAmnestiesAndRefusals() {
        SignReforms x = Towns.of("Rs012.s013.m05");
        x.sign(0, 12);
        x.sign(1, 12);
        x.decree(0, 1, 0, 0);
        x.decree(0, 2, 0, 0);
        x.amnesty(7);
        x.months(2);
        int[] due = {3, 1, 3, 7, 5, 5, 0, 0, 2, 6, 3, 12};
        for (int what = 0; what <= 11; what++) {
            CHECK.same("about(" + what + ") in an amnesty", due[what], x.about(what));
        }
        x.revoke(0);
        x.months(60);
        int[] later = {3, 0, 0, 67, 0, 5, 0, 0, 2, 6, 6, 0};
        for (int what = 0; what <= 11; what++) {
            CHECK.same("about(" + what + ") behind the amnesty", later[what], x.about(what));
        }
    }

    private static void promise7SignOf() {
        SignReforms x = Towns.of(TEXT);
        int[][] due = {
            {0, 112233, 112233, 1, 5, 20, 0, 6},
            {1, 12121212, 5555, 0, 0, 0, 1, 6},
            {1, 345, 345, 1, 1, 4, 0, 6},
            {2, 6655, 6655, 0, 0, 0, 1, 0},
        };
        for (int s = 0; s < 4; s++) {
            for (int what = 0; what <= 7; what++) {
                CHECK.same("signOf(" + s + ", " + what + ")", due[s][what], x.signOf(s, what));
            }
        }
        Supplier<SignReforms> maker = () -> Towns.of(TEXT);
        CHECK.index("signOf(-1, 0)", maker, y -> y.signOf(-1, 0));
        CHECK.index("signOf(4, 0)", maker, y -> y.signOf(4, 0));
        CHECK.index("signOf(4, 8)", maker, y -> y.signOf(4, 8));
        CHECK.argument("signOf(0, -1)", maker, y -> y.signOf(0, -1));
        CHECK.argument("signOf(3, 8)", maker, y -> y.signOf(3, 8));
        CHECK.index("signOf(0, 0) without signs", SignReforms::new, y -> y.signOf(0, 0));
    }

    private static void promise9GuildOf() {
        SignReforms x = Towns.of(TEXT);
        int[][] due = {{1, 1, 6, 0}, {2, 1, 12, 32}, {1, 0, 0, 0}, {0, 0, 0, 0}};
        for (int g = 0; g < 4; g++) {
            for (int what = 0; what <= 3; what++) {
                CHECK.same("guildOf(" + g + ", " + what + ")", due[g][what], x.guildOf(g, what));
            }
        }
        Supplier<SignReforms> maker = () -> Towns.of(TEXT);
        CHECK.index("guildOf(-1, 0)", maker, y -> y.guildOf(-1, 0));
        CHECK.index("guildOf(4, 0)", maker, y -> y.guildOf(4, 0));
        CHECK.index("guildOf(4, 4)", maker, y -> y.guildOf(4, 4));
        CHECK.argument("guildOf(0, -1)", maker, y -> y.guildOf(0, -1));
        CHECK.argument("guildOf(3, 4)", maker, y -> y.guildOf(3, 4));
    }

    private static void promise12SignComes() {
        SignReforms x = new SignReforms();
        CHECK.same("sign of one letter", 0, x.sign(0, 1));
        CHECK.same("sign of eight letters", 0, x.sign(3, 66666666));
        x.decree(2, 6, 0, 0);
        CHECK.same("sign under a decree", 0, x.sign(1, 6612));
        CHECK.same("its word", 6612, x.signOf(2, 1));
        CHECK.same("what is painted on it at first", 612, x.signOf(2, 2));
        CHECK.same("it is not wrong", 0, x.signOf(2, 3));
        CHECK.same("it was not painted anew", 0, x.signOf(2, 6));
        CHECK.same("no fines for it", 0, x.signOf(2, 7));
        x.revoke(0);
        CHECK.same("it is wrong when the decree is revoked", 1, x.signOf(2, 3));
        for (int s = 3; s < 8; s++) {
            CHECK.same("sign " + s, 0, x.sign(2, 11 * s - 22));
        }
        CHECK.same("signs", 8, x.about(0));
    }

    private static void promise12SignIsRefused() {
        SignReforms x = Towns.of("Rd1o2s023.s12.");
        CHECK.same("without letters", 1, x.sign(0, 111));
        CHECK.same("the same spelling in one guild", 2, x.sign(0, 12123));
        CHECK.same("the same spelling in another guild", 0, x.sign(1, 12123));
        CHECK.same("the same word in one guild", 2, x.sign(0, 23));
        CHECK.same("refusals", 3, x.about(8));
        CHECK.same("signs", 3, x.about(0));
        CHECK.same("a refused sign is an action", 3, x.undo());
        CHECK.same("refusals behind undo", 2, x.about(8));
    }

    private static void promise12SignThrows() {
        Supplier<SignReforms> maker = () -> Towns.of("Rs012.");
        Supplier<SignReforms> full = () -> Towns.of("Rs01.s02.s03.s04.s05.s06.s11.s12.");
        CHECK.index("sign(-1, 1)", maker, x -> x.sign(-1, 1));
        CHECK.index("sign(4, 1)", maker, x -> x.sign(4, 1));
        CHECK.index("sign(4, 0)", maker, x -> x.sign(4, 0));
        CHECK.index("sign(4, 1) of 8", full, x -> x.sign(4, 1));
        int[] noWords = {0, -1, -12, 7, 8, 10, 17, 71, 101, 1203, 66666670, 66666667, 111111111, 123456789,
            Integer.MAX_VALUE, Integer.MIN_VALUE, 1111111111};
        for (int word : noWords) {
            CHECK.argument("sign(1, " + word + ")", maker, x -> x.sign(1, word));
        }
        CHECK.argument("sign(3, 0) of 8", full, x -> x.sign(3, 0));
        CHECK.state("sign(3, 1) of 8", full, x -> x.sign(3, 1));
        CHECK.state("a sign of 8 that would be refused", full, x -> x.sign(0, 1));
    }
}
