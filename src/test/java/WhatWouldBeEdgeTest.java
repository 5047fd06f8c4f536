import java.util.function.Supplier;

/** The edges in the sentences of promises 20 to 24. Each method quotes the sentence that it holds to. */
public final class WhatWouldBeEdgeTest {
    private static final Check CHECK = new Check("WhatWouldBeEdgeTest");
    private static final Supplier<SignReforms> NEW = SignReforms::new;
    private static final String TEN = "d6d6d6d6d6d6d6d6d6d6";
    private static final String EIGHT = "Rs012.s013.s014.s015.s112.s113.s114.s115.";

    public static void main(String[] args) {
        promise20Reasons();
        promise20TenDecrees();
        promise20WithoutSigns();
        promise20IsNotCounted();
        promise20OutOfRange();
        promise21AsASet();
        promise21NoneAndAll();
        promise21TenDecrees();
        promise22Letters();
        promise22RightSpellings();
        promise22NoSuchSign();
        promise23NoWrongSign();
        promise23AtMostSoManyCoins();
        promise23TheMostSigns();
        promise23ForNothing();
        promise23OutOfRange();
        promise24MoreThan();
        promise24NoneByThen();
        promise24Amnesty();
        promise24TheLatest();
        promise24NoSuchSign();
        CHECK.end();
    }

    private static void why(String text, int kind, int a, int b, int c, int due) {
        SignReforms x = Towns.of(text);
        String told = "(" + kind + ", " + a + ", " + b + ", " + c + ") behind " + text;
        CHECK.same("why" + told, due, x.why(kind, a, b, c));
        CHECK.same("why" + told + " once more", due, x.why(kind, a, b, c));
        CHECK.same("decree" + told, due, x.decree(kind, a, b, c));
    }

    /** "Returns the reason; 0 if it can be" */
    private static void promise20Reasons() {
        why("Rs01.", 0, 1, 0, 0, 1);
        why("Rs01.", 0, 2, 0, 0, 0);
        why("Rs01.", 2, 1, 0, 0, 0);
        why("Rs01.", 1, 1, 1, 1, 0);
        why("Rs012.s02.", 0, 1, 0, 0, 2);
        why("Rs012.s12.", 0, 1, 0, 0, 0);
        why("Rs012.s02.", 1, 1, 2, 2, 2);
        why("Rs012.s02.", 1, 1, 2, 3, 0);
        why("Rs022.s02.", 2, 2, 0, 0, 2);
        why("Rs022.s12.", 2, 2, 0, 0, 0);
        why("Rs012.s02.s21.", 0, 1, 0, 0, 1);
        why("Rs012.j123", 0, 3, 0, 0, 1);
        why("Rs012.j123", 0, 1, 0, 0, 0);
    }

    /** "(that there are 10 decrees does not matter)" */
    private static void promise20TenDecrees() {
        SignReforms x = Towns.of("Rs012.s02.s13." + TEN);
        CHECK.same("decrees", 10, x.about(1));
        CHECK.same("reason 1", 1, x.why(0, 3, 0, 0));
        CHECK.same("reason 2", 2, x.why(0, 1, 0, 0));
        CHECK.same("reason 2 of the kind 1", 2, x.why(1, 1, 2, 2));
        CHECK.same("no reason", 0, x.why(0, 6, 0, 0));
        CHECK.same("no reason of the kind 1", 0, x.why(1, 1, 2, 3));
        CHECK.same("no reason of the kind 2", 0, x.why(2, 1, 0, 0));
        CHECK.same("the tenth of them matters", 1, Towns.of("Rs012.d6d6d6d6d6d6d6d6d6j123").why(0, 3, 0, 0));
    }

    /** "0 if it can be": without signs there is no reason. */
    private static void promise20WithoutSigns() {
        for (int letter = 1; letter <= 6; letter++) {
            CHECK.same("why(0, " + letter + ")", 0, new SignReforms().why(0, letter, 0, 0));
            CHECK.same("why(1, " + letter + ")", 0, new SignReforms().why(1, letter, letter, letter));
            CHECK.same("why(2, " + letter + ")", 0, new SignReforms().why(2, letter, 0, 0));
        }
    }

    /** "change nothing": what would be refused is not counted, and no state is remembered. */
    private static void promise20IsNotCounted() {
        Supplier<SignReforms> maker = () -> Towns.of("Rs012.s02.s13.d5");
        SignReforms x = maker.get();
        x.why(0, 1, 0, 0);
        x.why(0, 3, 0, 0);
        x.why(1, 1, 2, 4);
        CHECK.same("all there is behind why", View.ofAll(maker.get()), View.ofAll(x));
    }

    /** "Throws IllegalArgumentException if an argument is out of range" */
    private static void promise20OutOfRange() {
        for (int kind = 0; kind <= 2; kind++) {
            int k = kind;
            int least = k == 1 ? 1 : 0;
            int most = k == 1 ? 6 : 0;
            CHECK.argumentRange("a of why, kind " + k, NEW, 1, 6, (x, a) -> x.why(k, a, least, least));
            CHECK.argumentRange("b of why, kind " + k, NEW, least, most, (x, b) -> x.why(k, 6, b, least));
            CHECK.argumentRange("c of why, kind " + k, NEW, least, most, (x, c) -> x.why(k, 6, least, c));
        }
        CHECK.argumentRange("kind of why", NEW, 0, 0, (x, kind) -> x.why(kind, 1, 0, 0));
        CHECK.accepted("why of the kind 2", NEW, x -> x.why(2, 1, 0, 0));
        CHECK.argument("why of the kind 3", NEW, x -> x.why(3, 1, 0, 0));
        CHECK.argument("why of the kind 3 with letters", NEW, x -> x.why(3, 1, 1, 1));
        CHECK.argument("why with 10 decrees", () -> Towns.of("R" + TEN), x -> x.why(0, 7, 0, 0));
    }

    private static void droppable(String text, int due) {
        CHECK.same("droppable behind " + text, due, Towns.of(text).droppable());
    }

    /** "as a set (bit 0 for the letter 1, and so on)" */
    private static void promise21AsASet() {
        for (int letter = 1; letter <= 6; letter++) {
            droppable("Rs0" + letter + ".", 63 - (1 << (letter - 1)));
            droppable("Rs0" + "" + letter + letter + letter + ".", 63 - (1 << (letter - 1)));
            int other = letter % 6 + 1;
            droppable("Rs0" + letter + other + ".s0" + other + ".", 63 - (1 << (letter - 1)) - (1 << (other - 1)));
            droppable("Rs0" + letter + other + ".s1" + other + ".", 63 - (1 << (other - 1)));
        }
    }

    /** "those for which why() with the kind 0 is 0": all of them, and none. */
    private static void promise21NoneAndAll() {
        CHECK.same("droppable in a new object", 63, new SignReforms().droppable());
        droppable("Rs0123456.", 63);
        droppable("Rs01.s02.s13.s14.s25.s36.", 0);
        droppable("Rs01.s02.s13.s14.s25.s36.s066.s312.", 0);
        droppable("Rs011.s122.s233.s344.o1o2o3o4", 63 - 15);
        droppable("Rs012.j123", 63 - 4);
    }

    /** As for why(): that there are 10 decrees does not matter; and nothing is changed. */
    private static void promise21TenDecrees() {
        droppable("Rs01." + TEN, 62);
        droppable("R" + TEN, 63);
        Supplier<SignReforms> maker = () -> Towns.of("Rs01.s021.s02.d5");
        SignReforms x = maker.get();
        x.droppable();
        CHECK.same("all there is behind droppable", View.ofAll(maker.get()), View.ofAll(x));
    }

    /** "Returns the letters by which their right spellings are apart." */
    private static void promise22Letters() {
        SignReforms x = Towns.of("Rs01.s111111111.s222222222.s012.s1112.");
        int[][] due = {{0, 7, 8, 1, 2}, {7, 0, 8, 7, 6}, {8, 8, 0, 7, 7}, {1, 7, 7, 0, 1}, {2, 6, 7, 1, 0}};
        for (int s = 0; s < 5; s++) {
            for (int other = 0; other < 5; other++) {
                CHECK.same("apart(" + s + ", " + other + ")", due[s][other], x.apart(s, other));
            }
        }
    }

    /** "their right spellings", not their words and not what is painted on them */
    private static void promise22RightSpellings() {
        CHECK.same("other words", 0, Towns.of("Rs0112.s112.o1").apart(0, 1));
        CHECK.same("other words, painted", 0, Towns.of("Rs0112.s112.o1p0p1").apart(0, 1));
        CHECK.same("the same word in two guilds", 0, Towns.of("Rs012.d1s112.").apart(0, 1));
    }

    /** "Throws IndexOutOfBoundsException if there is no such sign" */
    private static void promise22NoSuchSign() {
        CHECK.indexRange("s of 8", () -> Towns.of(EIGHT), 0, 7, (x, s) -> x.apart(s, 0));
        CHECK.indexRange("other of 8", () -> Towns.of(EIGHT), 0, 7, (x, other) -> x.apart(0, other));
        CHECK.indexRange("both of 1", () -> Towns.of("Rs01."), 0, 0, (x, s) -> x.apart(s, s));
        CHECK.index("apart without signs", NEW, x -> x.apart(0, 0));
    }

    private static void payable(SignReforms x, int coins, int due) {
        CHECK.same("payable(" + coins + ")", due, x.payable(coins));
    }

    /** "the most wrong signs": those that are right are none, whatever the purse. */
    private static void promise23NoWrongSign() {
        payable(new SignReforms(), 0, 0);
        payable(new SignReforms(), 999, 0);
        payable(Towns.of(EIGHT), 999, 0);
        payable(Towns.of(EIGHT + "d1p0p1p2p3p4p5p6p7"), 999, 0);
        payable(Towns.of(EIGHT + "d1p0p1p2p3p4p5p6"), 999, 1);
        payable(Towns.of(EIGHT + "d1r0"), 999, 0);
        payable(Towns.of(EIGHT + "d1"), 999, 8);
        SignReforms x = Towns.of(EIGHT + "d1");
        x.clearText();
        Towns.write(x, "Rs012.d1").load();
        payable(x, 999, 1);
    }

    /** "for at most so many coins together" */
    private static void promise23AtMostSoManyCoins() {
        SignReforms x = Towns.of(EIGHT + "d1");
        for (int coins = 0; coins <= 40; coins++) {
            payable(x, coins, Math.min(8, coins / 4));
        }
        x.set(0, 20);
        payable(x, 19, 0);
        payable(x, 20, 1);
        payable(x, 159, 7);
        payable(x, 160, 8);
        SignReforms dear = Towns.of("Rs012121212.s112121212.s212121212.s312121212.s016161616.s116161616."
                + "s216161616.d1j226j662d5");
        // 12121212 becomes 66, then 2; 16161616 becomes 6666, then 22: both are wrong
        dear.set(0, 20);
        int cost = dear.about(11);
        CHECK.same("cost of all: four times 7 letters, three times 8", 20 * (4 * 7 + 3 * 8), cost);
        payable(dear, 999, 6);
        payable(dear, 4 * 140 + 2 * 160, 6);
        payable(dear, 4 * 140 + 2 * 160 - 1, 5);
    }

    /** "the most wrong signs that could be painted anew": the cheap ones, wherever they are. */
    private static void promise23TheMostSigns() {
        for (String signs : new String[] {"s0111222.s1126.s2116.", "s2116.s0111222.s1126.", "s1126.s2116.s0111222."}) {
            SignReforms x = Towns.of("R" + signs + "d1");
            int[] due = {0, 4, 12, 24};
            for (int coins = 0; coins <= 40; coins++) {
                int paid = coins < due[1] ? 0 : coins < due[2] ? 1 : coins < due[3] ? 2 : 3;
                payable(x, coins, paid);
            }
        }
    }

    /** "coins: 0 to 999": with paint for nothing, no coins pay all wrong signs. */
    private static void promise23ForNothing() {
        SignReforms x = Towns.of(EIGHT + "d1p3");
        x.set(0, 0);
        payable(x, 0, 7);
        payable(x, 999, 7);
        x.set(0, 1);
        payable(x, 0, 0);
        payable(x, 6, 6);
        payable(x, 7, 7);
    }

    /** "Throws IllegalArgumentException if coins is out of range" */
    private static void promise23OutOfRange() {
        CHECK.argumentRange("payable", NEW, 0, 999, (x, coins) -> x.payable(coins));
        CHECK.argumentRange("payable of wrong signs", () -> Towns.of(EIGHT + "d1"), 0, 999,
                (x, coins) -> x.payable(coins));
    }

    private static void worth(int coins, int fine, int due) {
        SignReforms x = Towns.of("Rs012.d1");
        x.set(0, coins);
        x.set(1, fine);
        CHECK.same("worthIn(0) for " + coins + " by " + fine, due, x.worthIn(0));
    }

    /** "the fines for it in them are more than what it costs now": as much is not more. */
    private static void promise24MoreThan() {
        worth(20, 20, 2);
        worth(19, 20, 1);
        worth(0, 20, 1);
        worth(0, 1, 1);
        worth(20, 1, 21);
        worth(20, 19, 2);
        worth(20, 10, 3);
        worth(20, 11, 2);
        worth(20, 9, 3);
        worth(20, 7, 3);
        worth(20, 6, 4);
        SignReforms x = Towns.of("Rs012.d1m60");
        CHECK.same("fines that are there already do not matter", 2, x.worthIn(0));
    }

    /** "NONE if they are not by then" */
    private static void promise24NoneByThen() {
        worth(4, 0, -1);
        worth(20, 0, -1);
        worth(0, 0, -1);
        CHECK.same("a sign that is right", -1, Towns.of("Rs012.").worthIn(0));
        CHECK.same("a sign that is right again", -1, Towns.of("Rs012.d1p0").worthIn(0));
        SignReforms x = Towns.of("Rs012.");
        x.set(0, 0);
        x.set(1, 20);
        CHECK.same("a right sign for nothing, by the highest fine", -1, x.worthIn(0));
    }

    /** "if nothing else is done": an amnesty lasts as long as it does. */
    private static void promise24Amnesty() {
        for (int n = 1; n <= 9; n++) {
            SignReforms x = Towns.of("Rs012.d1y" + n);
            for (int left = n; left >= 0; left--) {
                CHECK.same("months left", left, x.about(4));
                CHECK.same("4 coins by 3 behind " + left + " months of amnesty", left + 2, x.worthIn(0));
                x.months(1);
            }
        }
    }

    /** "1 to 200": the dearest paint by the least fine behind the longest amnesty. */
    private static void promise24TheLatest() {
        SignReforms x = Towns.of("Rs012121212.s13.d1j226j226j665");
        x.set(0, 20);
        x.set(1, 1);
        CHECK.same("160 coins by 1", 161, x.worthIn(0));
        x.amnesty(9);
        CHECK.same("160 coins by 1 behind 9 months", 170, x.worthIn(0));
        CHECK.same("the right sign", -1, x.worthIn(1));
        x.set(1, 0);
        CHECK.same("160 coins by 0", -1, x.worthIn(0));
    }

    /** "Throws IndexOutOfBoundsException if there is no such sign" */
    private static void promise24NoSuchSign() {
        CHECK.indexRange("worthIn of 8", () -> Towns.of(EIGHT + "d1"), 0, 7, (x, s) -> x.worthIn(s));
        CHECK.indexRange("worthIn of 1", () -> Towns.of("Rs01."), 0, 0, (x, s) -> x.worthIn(s));
        CHECK.index("worthIn without signs", NEW, x -> x.worthIn(0));
    }
}
