import java.util.function.Supplier;

/** Promises 8, 10, 13, 14, 20 and 21: decrees and the right spelling. */
public final class DecreeTest {
    private static final Check CHECK = new Check("DecreeTest");

    public static void main(String[] args) {
        promise8DecreeOf();
        promise10OneDecree();
        promise10ManyDecrees();
        promise10AllShortWords();
        promise10Throws();
        promise13Decree();
        promise13Throws();
        promise14Revoke();
        promise14RevokeIsRefused();
        promise20Why();
        promise21Droppable();
        CHECK.end();
    }

    private static void promise8DecreeOf() {
        SignReforms x = new SignReforms();
        x.decree(0, 6, 0, 0);
        x.months(7);
        x.decree(1, 1, 2, 3);
        x.months(60);
        x.decree(2, 5, 0, 0);
        int[][] due = {{0, 6, 0, 0, 0}, {1, 1, 2, 3, 7}, {2, 5, 0, 0, 67}};
        for (int k = 0; k < 3; k++) {
            for (int what = 0; what <= 4; what++) {
                CHECK.same("decreeOf(" + k + ", " + what + ")", due[k][what], x.decreeOf(k, what));
            }
        }
        Supplier<SignReforms> maker = () -> Towns.of("Rd1o2");
        CHECK.index("decreeOf(-1, 0)", maker, y -> y.decreeOf(-1, 0));
        CHECK.index("decreeOf(2, 0)", maker, y -> y.decreeOf(2, 0));
        CHECK.index("decreeOf(2, 5)", maker, y -> y.decreeOf(2, 5));
        CHECK.argument("decreeOf(0, -1)", maker, y -> y.decreeOf(0, -1));
        CHECK.argument("decreeOf(1, 5)", maker, y -> y.decreeOf(1, 5));
        CHECK.index("decreeOf(0, 0) without decrees", SignReforms::new, y -> y.decreeOf(0, 0));
    }

    private static void promise10OneDecree() {
        spelled("s012121212.d1", 2222);
        spelled("s012121212.d2", 1111);
        spelled("s0123456.d4", 12356);
        spelled("s0123.d4", 123);
        spelled("s0111.j112", 21);
        spelled("s01111.j112", 22);
        spelled("s011111111.j116", 6666);
        spelled("s0122.j121", 12);
        spelled("s0112.j122", 12);
        spelled("s021.j121", 21);
        spelled("s01212.j123", 33);
        spelled("s01112.j123", 113);
        spelled("s061.j161", 61);
        spelled("s01.j123", 1);
        spelled("s0111.j111", 11);
        spelled("s01112211.o1", 1221);
        spelled("s01112211.o2", 111211);
        spelled("s011111111.o1", 1);
        spelled("s01212.o1", 1212);
    }

    private static void promise10ManyDecrees() {
        spelled("s0112233.o1j125d3", 52);
        spelled("s011.o1j112", 1);
        spelled("s011.j112o1", 2);
        spelled("s01213.d2j134", 14);
        spelled("s01213.d2o1j134", 4);
        spelled("s01213.j134d2", 14);
        spelled("s01112.j123j133j134", 4);
        spelled("s01112.j123j133j114", 13);
        spelled("s012345612.j123j334j445j556j661", 13);
        spelled("s011111111.j112j223j334", 4);
        spelled("s011111111.j111j111j111", 1);
        spelled("s01212121.j123j313j333o3", 3);
        spelled("s0121.o1o2d3j215d4o5", 15);
        spelled("s0123.d4d4d4d4d4d4d4d4d4d4", 123);
    }

    /** The sign is brought ahead of the decrees, and behind them: its right spelling is the same. */
    private static void spelled(String commands, int due) {
        SignReforms x = Towns.of("R" + commands);
        CHECK.same("right(0, 0) of " + commands, due, x.right(0, 0));
        CHECK.same("right(0, 1) of " + commands, due, x.right(0, 1));
        int word = commands.indexOf('.') + 1;
        SignReforms y = Towns.of("R" + commands.substring(word) + commands.substring(0, word));
        CHECK.same("what is painted on a sign that comes behind " + commands, due, y.signOf(0, 2));
    }

    /** Both ways agree for all words of up to four of three letters, whatever the decrees. */
    private static void promise10AllShortWords() {
        String[] decrees = {"j112j121", "j121o1j211", "o1j123d2o3", "j221j112o2j112", "o2o1j121d2", "j211j122j111o2",
            "d3o1j112j221", "j113o3j331o1", "j111j222j333", "j123j231j312j123j231j312"};
        for (String all : decrees) {
            for (int word = 1; word <= 3333; word++) {
                if (!String.valueOf(word).matches("[123]+")) {
                    continue;
                }
                SignReforms x = Towns.of("R" + all + "s0" + word + ".");
                if (x.about(0) == 1) {
                    int right = spelledByText(all, String.valueOf(word));
                    CHECK.same("right(0, 0) of " + word + " by " + all, right, x.right(0, 0));
                    CHECK.same("right(0, 1) of " + word + " by " + all, right, x.right(0, 1));
                } else {
                    CHECK.same("letters of " + word + " by " + all, 0, spelledByText(all, String.valueOf(word)));
                }
            }
        }
    }

    private static int spelledByText(String decrees, String word) {
        String spelling = word;
        for (int at = 0; at < decrees.length(); at += decrees.charAt(at) == 'j' ? 4 : 2) {
            String a = decrees.substring(at + 1, at + 2);
            if (decrees.charAt(at) == 'd') {
                spelling = spelling.replace(a, "");
            } else if (decrees.charAt(at) == 'o') {
                spelling = spelling.replaceAll(a + "+", a);
            } else {
                spelling = spelling.replace(decrees.substring(at + 1, at + 3), decrees.substring(at + 3, at + 4));
            }
        }
        return spelling.isEmpty() ? 0 : Integer.parseInt(spelling);
    }

    private static void promise10Throws() {
        Supplier<SignReforms> maker = () -> Towns.of("Rs012.s03.d1");
        CHECK.index("right(-1, 0)", maker, x -> x.right(-1, 0));
        CHECK.index("right(2, 0)", maker, x -> x.right(2, 0));
        CHECK.index("right(2, 2)", maker, x -> x.right(2, 2));
        CHECK.argument("right(0, -1)", maker, x -> x.right(0, -1));
        CHECK.argument("right(1, 2)", maker, x -> x.right(1, 2));
    }

    private static void promise13Decree() {
        given("Rs012.s02.", 1, 1, 2, 2, 2);
        given("Rs012.s02.", 0, 1, 0, 0, 2);
        given("Rs012.s12.", 0, 1, 0, 0, 0);
        given("Rs022.s02.", 2, 2, 0, 0, 2);
        given("Rs012.s03.s21.", 0, 1, 0, 0, 1);
        given("Rs012.s02.s21.", 0, 1, 0, 0, 1);
        given("Rs21.s012.s02.", 0, 1, 0, 0, 1);
        given("Rs012.s02.j123", 0, 3, 0, 0, 1);
        SignReforms y = Towns.of("Rs012.s21.");
        CHECK.same("decree that leaves no letters", 1, y.decree(0, 1, 0, 0));
        CHECK.same("refusals", 1, y.about(8));
        CHECK.same("decrees behind a refusal", 0, y.about(1));
        CHECK.same("right behind a refusal", 12, y.right(0, 0));
        CHECK.same("decree of doubled letters", 0, y.decree(2, 1, 0, 0));
        CHECK.same("decree of two letters", 0, y.decree(1, 6, 6, 6));
        CHECK.same("decree is behind all others", 6, y.decreeOf(1, 1));
        CHECK.same("what is painted stays", 12, y.signOf(0, 2));
        for (int k = 2; k < 10; k++) {
            CHECK.same("decree " + k, 0, y.decree(0, 6, 0, 0));
        }
        CHECK.same("decrees", 10, y.about(1));
    }

    private static void given(String text, int kind, int a, int b, int c, int due) {
        SignReforms x = Towns.of(text);
        String told = "decree(" + kind + ", " + a + ", " + b + ", " + c + ") behind " + text;
        int before = x.about(1);
        CHECK.same("why of " + told, due, x.why(kind, a, b, c));
        CHECK.same(told, due, x.decree(kind, a, b, c));
        CHECK.same("the decrees behind " + told, before + (due == 0 ? 1 : 0), x.about(1));
        CHECK.same("the refusals behind " + told, due == 0 ? 0 : 1, x.about(8));
        CHECK.same("the states behind " + told, 0, x.undo());
    }

    private static void promise13Throws() {
        Supplier<SignReforms> maker = () -> Towns.of("Rs012.s02.");
        Supplier<SignReforms> full = () -> Towns.of("Rs01.d6d6d6d6d6d6d6d6d6d6");
        for (int[] d : wrongDecrees()) {
            String told = "decree(" + d[0] + ", " + d[1] + ", " + d[2] + ", " + d[3] + ")";
            CHECK.argument(told, maker, x -> x.decree(d[0], d[1], d[2], d[3]));
            CHECK.argument(told + " with 10", full, x -> x.decree(d[0], d[1], d[2], d[3]));
        }
        CHECK.state("decree with 10", full, x -> x.decree(0, 6, 0, 0));
        CHECK.state("decree with 10 that would be refused", full, x -> x.decree(0, 1, 0, 0));
    }

    private static int[][] wrongDecrees() {
        return new int[][] {{-1, 1, 0, 0}, {3, 1, 0, 0}, {0, 0, 0, 0}, {0, 7, 0, 0}, {0, -1, 0, 0}, {0, 1, 1, 0},
            {0, 1, 0, 1}, {0, 1, -1, 0}, {0, 1, 0, -1}, {1, 0, 1, 1}, {1, 7, 1, 1}, {1, 1, 0, 1}, {1, 1, 7, 1},
            {1, 1, 1, 0}, {1, 1, 1, 7}, {1, 1, -1, 1}, {1, 1, 1, -1}, {2, 0, 0, 0}, {2, 7, 0, 0}, {2, 1, 2, 0},
            {2, 1, 0, 2}, {Integer.MIN_VALUE, 1, 0, 0}, {0, Integer.MAX_VALUE, 0, 0}};
    }

    private static void promise14Revoke() {
        SignReforms x = Towns.of("Rs0123.m01d1m01o2m01j233");
        CHECK.same("right with three decrees", 3, x.right(0, 0));
        CHECK.same("revoke(1)", 0, x.revoke(1));
        CHECK.same("decrees", 2, x.about(1));
        int[][] due = {{0, 1, 0, 0, 1}, {1, 2, 3, 3, 3}};
        for (int k = 0; k < 2; k++) {
            for (int what = 0; what <= 4; what++) {
                CHECK.same("decreeOf(" + k + ", " + what + ")", due[k][what], x.decreeOf(k, what));
            }
        }
        CHECK.same("revoke(0)", 0, x.revoke(0));
        CHECK.same("right with the last one", 13, x.right(0, 0));
        CHECK.same("right with the last one, by letters", 13, x.right(0, 1));
        CHECK.same("the last one's month", 3, x.decreeOf(0, 4));
        CHECK.same("revoke(0)", 0, x.revoke(0));
        CHECK.same("right without decrees", 123, x.right(0, 1));
        CHECK.same("decrees", 0, x.about(1));
        CHECK.index("revoke(0) without decrees", SignReforms::new, y -> y.revoke(0));
        CHECK.index("revoke(-1)", () -> Towns.of("Rd1d2"), y -> y.revoke(-1));
        CHECK.index("revoke(2)", () -> Towns.of("Rd1d2"), y -> y.revoke(2));
        SignReforms full = Towns.of("Rs0123.d4d5d4d5d4d5d4d5d6d1");
        CHECK.same("revoke(9)", 0, full.revoke(9));
        CHECK.same("revoke(0)", 0, full.revoke(0));
        CHECK.same("decreeOf(7, 1)", 6, full.decreeOf(7, 1));
        CHECK.same("right", 123, full.right(0, 0));
    }

    private static void promise14RevokeIsRefused() {
        SignReforms x = Towns.of("Rs011.j112d1");
        CHECK.same("revoke that leaves no letters", 1, x.revoke(0));
        CHECK.same("refusals", 1, x.about(8));
        CHECK.same("decrees", 2, x.about(1));
        CHECK.same("right", 2, x.right(0, 0));
        CHECK.same("right", 2, x.right(0, 1));
        CHECK.same("a decree behind it can be", 0, x.revoke(1));
        SignReforms y = Towns.of("Rs012.s02.j123d1");
        CHECK.same("revoke that leaves two the same", 2, y.revoke(0));
        CHECK.same("right", 3, y.right(0, 0));
        CHECK.same("both reasons", 1, Towns.of("Rs0113.s03.s311.j112d1").revoke(0));
        CHECK.same("two guilds", 0, Towns.of("Rs012.s12.j123d1").revoke(0));
        CHECK.same("a refused revoke is an action", 0, y.undo());
        CHECK.same("refusals behind undo", 0, y.about(8));
    }

    private static void promise20Why() {
        Supplier<SignReforms> maker = () -> Towns.of("Rs012.s02.s13.d6d6d6d6d6d6d6d6d6d6");
        SignReforms x = maker.get();
        CHECK.same("why of the first reason", 1, x.why(0, 3, 0, 0));
        CHECK.same("why of the first reason", 1, x.why(0, 2, 0, 0));
        CHECK.same("why of the second reason", 2, x.why(0, 1, 0, 0));
        CHECK.same("why of the second reason", 2, x.why(1, 1, 2, 2));
        CHECK.same("why of none", 0, x.why(1, 1, 2, 3));
        CHECK.same("why of none", 0, x.why(2, 2, 0, 0));
        CHECK.same("why of none", 0, x.why(0, 6, 0, 0));
        CHECK.same("why of doubled letters", 2, Towns.of("Rs022.s02.").why(2, 2, 0, 0));
        CHECK.same("why changes nothing", View.ofAll(maker.get()), View.ofAll(x));
        for (int[] d : wrongDecrees()) {
            String told = "why(" + d[0] + ", " + d[1] + ", " + d[2] + ", " + d[3] + ")";
            CHECK.argument(told, maker, y -> y.why(d[0], d[1], d[2], d[3]));
        }
    }

    private static void promise21Droppable() {
        droppable("", 63);
        droppable("s01.", 62);
        droppable("s06.", 31);
        droppable("s01.s02.s03.s14.s15.s16.", 0);
        droppable("s023.s0243.", 63 - 8);
        droppable("s023.s1243.", 63);
        droppable("s01.s023.s0243.d5d5d5d5d5d5d5d5d5d5", 63 - 8 - 1);
        droppable("s0123.j124", 63);
        droppable("s012.j124", 63 - 8);
    }

    private static void droppable(String commands, int due) {
        SignReforms x = Towns.of("R" + commands);
        CHECK.same("droppable of " + commands, due, x.droppable());
        CHECK.same("droppable changes nothing", View.ofAll(Towns.of("R" + commands)), View.ofAll(x));
    }
}
