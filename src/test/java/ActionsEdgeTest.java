import java.util.function.Supplier;

/** The edges in the sentences of promises 12 to 18. Each method quotes the sentence that it holds to. */
public final class ActionsEdgeTest {
    private static final Check CHECK = new Check("ActionsEdgeTest");
    private static final Supplier<SignReforms> NEW = SignReforms::new;
    private static final Supplier<SignReforms> EIGHT_SIGNS =
            () -> Towns.of("Rs012.s013.s014.s015.s112.s113.s114.s115.d1");
    private static final Supplier<SignReforms> TEN_DECREES = () -> Towns.of("Rs01.s021.s02.d6d6d6d6d6d6d6d6d6d6");

    public static void main(String[] args) {
        promise12NoSuchGuild();
        promise12Word();
        promise12NoWord();
        promise12Reasons();
        promise12EightSigns();
        promise13BehindAllOthers();
        promise13Kind();
        promise13Letters();
        promise13Reasons();
        promise13TenDecrees();
        promise14Revoked();
        promise14Reasons();
        promise14NoSuchDecree();
        promise15Coins();
        promise15ItsGuildPays();
        promise15NoSuchSign();
        promise16HowMany();
        promise16Fines();
        promise16OutOfRange();
        promise17HowMany();
        promise17WrongSigns();
        promise17OutOfRange();
        promise17CannotBeGiven();
        promise18Previous();
        promise18OutOfRange();
        CHECK.end();
    }

    /** "Throws IndexOutOfBoundsException if there is no such guild" */
    private static void promise12NoSuchGuild() {
        CHECK.indexRange("sign", NEW, 0, 3, (x, g) -> x.sign(g, 12));
        CHECK.index("sign, the word is wrong too", NEW, x -> x.sign(4, 0));
        CHECK.index("sign, there are 8 too", EIGHT_SIGNS, x -> x.sign(-1, 1));
        CHECK.index("sign, all is wrong", EIGHT_SIGNS, x -> x.sign(4, 7));
    }

    /** "word: 1 to 8 letters 1 to 6, as a number" */
    private static void promise12Word() {
        for (int word : new int[] {1, 6, 11, 16, 61, 66, 111111, 123456, 1111111, 6666666, 11111111, 66666666}) {
            SignReforms x = new SignReforms();
            CHECK.same("sign(3, " + word + ")", 0, x.sign(3, word));
            CHECK.same("word", word, x.signOf(0, 1));
            CHECK.same("painted", word, x.signOf(0, 2));
            CHECK.same("right", word, x.right(0, 1));
            CHECK.same("letters", String.valueOf(word).length(), x.about(9));
        }
    }

    /** "Throws IllegalArgumentException if word is no word" */
    private static void promise12NoWord() {
        for (int place = 0; place < 8; place++) {
            for (String digit : new String[] {"0", "7", "8", "9"}) {
                int word = Integer.parseInt("1".repeat(place) + digit + "6".repeat(7 - place));
                if (place > 0 || !digit.equals("0")) {
                    CHECK.argument("sign(0, " + word + ")", NEW, x -> x.sign(0, word));
                }
            }
        }
        for (int word : new int[] {0, -1, -11111111, 66666667, 100000000, 111111111, 1111111111,
            Integer.MIN_VALUE, Integer.MAX_VALUE}) {
            CHECK.argument("sign(0, " + word + ")", NEW, x -> x.sign(0, word));
            CHECK.argument("sign(3, " + word + ") of 8", EIGHT_SIGNS, x -> x.sign(3, word));
        }
    }

    /** "Returns 0 if it comes, otherwise the reason why it cannot." */
    private static void promise12Reasons() {
        SignReforms x = Towns.of("Rd1s012.");
        CHECK.same("it comes", 0, x.sign(1, 12));
        CHECK.same("signs", 2, x.about(0));
        CHECK.same("it would have no letters", 1, x.sign(0, 1));
        CHECK.same("the same in its guild", 2, x.sign(0, 2));
        CHECK.same("the same in its guild", 2, x.sign(1, 21));
        CHECK.same("the refused ones did not come", 2, x.about(0));
        CHECK.same("they are counted", 3, x.about(8));
        CHECK.same("letters of the words", 4, x.about(9));
        CHECK.same("another of the guild", 0, x.sign(0, 13));
        CHECK.same("its number", 3, x.signOf(2, 2));
    }

    /** "Throws IllegalStateException if there are 8 signs" */
    private static void promise12EightSigns() {
        CHECK.accepted("sign of 7", () -> Towns.of("Rs01.s02.s03.s04.s05.s06.s11."), x -> x.sign(1, 2));
        CHECK.state("sign of 8", EIGHT_SIGNS, x -> x.sign(2, 6));
        CHECK.state("sign of 8 that would have no letters", EIGHT_SIGNS, x -> x.sign(2, 1));
        CHECK.state("sign of 8 with the spelling of one", EIGHT_SIGNS, x -> x.sign(0, 2));
        SignReforms x = Towns.of("Rs01.s02.s03.s04.s05.s06.s11.");
        x.sign(1, 2);
        x.undo();
        CHECK.same("sign of 7 again behind undo", 0, x.sign(1, 3));
    }

    /** "A decree is given, behind all others, if it can." */
    private static void promise13BehindAllOthers() {
        SignReforms x = new SignReforms();
        for (int k = 0; k < 10; k++) {
            CHECK.same("decree " + k, 0, x.decree(1, 1 + k % 6, 6 - k % 6, 1 + k / 2));
            CHECK.same("its letter a", 1 + k % 6, x.decreeOf(k, 1));
            CHECK.same("its letter b", 6 - k % 6, x.decreeOf(k, 2));
            CHECK.same("its letter c", 1 + k / 2, x.decreeOf(k, 3));
        }
        SignReforms y = Towns.of("Rs012.j123");
        CHECK.same("a decree on what those ahead of it left", 0, y.decree(0, 1, 0, 0));
        CHECK.same("there is no 1", 3, y.right(0, 0));
        CHECK.same("what would have no letters", 1, y.decree(0, 3, 0, 0));
    }

    /** "kind: 0 to 2"; "Throws IllegalArgumentException if an argument is out of range" */
    private static void promise13Kind() {
        CHECK.argumentRange("kind, as if of no 1", NEW, 0, 0, (x, kind) -> x.decree(kind, 1, 0, 0));
        CHECK.argumentRange("kind of three letters", NEW, 1, 1, (x, kind) -> x.decree(kind, 1, 1, 1));
        CHECK.accepted("kind 2", NEW, x -> x.decree(2, 1, 0, 0));
        CHECK.argument("kind 3", NEW, x -> x.decree(3, 1, 0, 0));
        CHECK.argument("kind 3 of three letters", NEW, x -> x.decree(3, 1, 1, 1));
        CHECK.argument("kind -1 of three letters", NEW, x -> x.decree(-1, 1, 1, 1));
    }

    /** "a: letter, 1 to 6"; "b: letter, 1 to 6, with the kind 1, otherwise 0"; "c: [the same]" */
    private static void promise13Letters() {
        for (int kind = 0; kind <= 2; kind++) {
            int k = kind;
            int most = k == 1 ? 6 : 0;
            int least = k == 1 ? 1 : 0;
            CHECK.argumentRange("a of the kind " + k, NEW, 1, 6, (x, a) -> x.decree(k, a, least, least));
            CHECK.argumentRange("b of the kind " + k, NEW, least, most, (x, b) -> x.decree(k, 6, b, least));
            CHECK.argumentRange("c of the kind " + k, NEW, least, most, (x, c) -> x.decree(k, 6, least, c));
        }
        CHECK.argument("an argument out of range with 10 decrees", TEN_DECREES, x -> x.decree(0, 7, 0, 0));
        CHECK.argument("a letter that is not needed with 10 decrees", TEN_DECREES, x -> x.decree(2, 1, 1, 0));
    }

    /** "Returns 0 if it is given, otherwise the reason why it cannot be." */
    private static void promise13Reasons() {
        SignReforms x = Towns.of("Rs012.s02.s13.m02");
        CHECK.same("no letters", 1, x.decree(0, 3, 0, 0));
        CHECK.same("the same in a guild", 2, x.decree(0, 1, 0, 0));
        CHECK.same("decrees behind them", 0, x.about(1));
        CHECK.same("wrong signs behind them", 0, x.about(2));
        CHECK.same("they are counted", 2, x.about(8));
        CHECK.same("it is given", 0, x.decree(1, 1, 2, 3));
        CHECK.same("decrees", 1, x.about(1));
        CHECK.same("its month", 2, x.decreeOf(0, 4));
        CHECK.same("wrong signs", 1, x.about(2));
        CHECK.same("a decree without signs", 0, new SignReforms().decree(0, 1, 0, 0));
    }

    /** "Throws IllegalStateException if 10 decrees are in force" */
    private static void promise13TenDecrees() {
        CHECK.accepted("decree behind 9", () -> Towns.of("Rd6d6d6d6d6d6d6d6d6"), x -> x.decree(0, 6, 0, 0));
        CHECK.state("decree behind 10", TEN_DECREES, x -> x.decree(0, 6, 0, 0));
        CHECK.state("decree of the kind 1 behind 10", TEN_DECREES, x -> x.decree(1, 6, 6, 6));
        CHECK.state("decree of the kind 2 behind 10", TEN_DECREES, x -> x.decree(2, 6, 0, 0));
        CHECK.state("decree behind 10 that would leave no letters", TEN_DECREES, x -> x.decree(0, 1, 0, 0));
        CHECK.state("decree behind 10 that would make two the same", TEN_DECREES, x -> x.decree(1, 2, 1, 1));
        SignReforms x = TEN_DECREES.get();
        x.revoke(9);
        CHECK.same("decree when one is revoked", 0, x.decree(0, 5, 0, 0));
    }

    /** "Returns 0 if it is revoked": the first, the last, the only one. */
    private static void promise14Revoked() {
        SignReforms x = Towns.of("Rs0123456.d1d2d3");
        CHECK.same("the last one", 0, x.revoke(2));
        CHECK.same("right", 3456, x.right(0, 0));
        CHECK.same("the first one", 0, x.revoke(0));
        CHECK.same("right", 13456, x.right(0, 0));
        CHECK.same("the only one", 0, x.revoke(0));
        CHECK.same("right", 123456, x.right(0, 1));
        CHECK.same("decrees", 0, x.about(1));
        CHECK.same("refused", 0, x.about(8));
        CHECK.same("without signs", 0, Towns.of("Rd1").revoke(0));
    }

    /** "otherwise the reason why it cannot be" */
    private static void promise14Reasons() {
        SignReforms x = Towns.of("Rs011.j112d1m02");
        CHECK.same("no letters", 1, x.revoke(0));
        CHECK.same("decrees stay", 2, x.about(1));
        CHECK.same("the first one stays", 1, x.decreeOf(0, 0));
        CHECK.same("the second one stays", 0, x.decreeOf(1, 0));
        CHECK.same("right stays", 2, x.right(0, 0));
        CHECK.same("it is counted", 1, x.about(8));
        SignReforms y = Towns.of("Rs012.s02.s112.j126d1");
        CHECK.same("the same in a guild", 2, y.revoke(0));
        CHECK.same("decrees stay", 2, y.about(1));
        CHECK.same("right stays", 6, y.right(0, 1));
        CHECK.same("right stays", 6, y.right(2, 1));
        CHECK.same("the one behind it can be", 0, y.revoke(1));
        CHECK.same("and then it can be, too", 0, y.revoke(0));
    }

    /** "Throws IndexOutOfBoundsException if there is no such decree" */
    private static void promise14NoSuchDecree() {
        CHECK.indexRange("revoke of 10", TEN_DECREES, 0, 9, (x, k) -> x.revoke(k));
        CHECK.indexRange("revoke of 9", () -> Towns.of("Rd1d2d3d4d5d6d1d2d3"), 0, 8, (x, k) -> x.revoke(k));
        CHECK.indexRange("revoke of 1", () -> Towns.of("Rd1"), 0, 0, (x, k) -> x.revoke(k));
        CHECK.index("revoke of none", NEW, x -> x.revoke(0));
        CHECK.index("revoke of none that are left", () -> Towns.of("Rd1r0"), x -> x.revoke(0));
    }

    private static void coins(String text, int setting, int due) {
        SignReforms x = Towns.of(text);
        x.set(0, setting);
        CHECK.same("paint(0) for " + setting + " behind " + text, due, x.paint(0));
        CHECK.same("painted", x.right(0, 0), x.signOf(0, 2));
        CHECK.same("wrong", 0, x.signOf(0, 3));
        CHECK.same("times", 1, x.signOf(0, 6));
        CHECK.same("paid", due, x.about(7));
    }

    /** "Returns the coins." */
    private static void promise15Coins() {
        coins("Rs012.", 20, 0);
        coins("Rs012.d1", 0, 0);
        coins("Rs012.d1", 1, 1);
        coins("Rs012.d1", 20, 20);
        coins("Rs012121212.d1j226j226j665", 20, 160);
        coins("Rs012121212.d1j226j226j665", 0, 0);
        coins("Rd1s012.r0", 4, 4);
    }

    /** "A sign is painted anew; its guild pays." */
    private static void promise15ItsGuildPays() {
        for (int g = 0; g <= 3; g++) {
            SignReforms x = Towns.of("Rs012.s112.s212.s312.d1");
            CHECK.same("paint", 4, x.paint(g));
            for (int other = 0; other <= 3; other++) {
                CHECK.same("paid by guild " + other, other == g ? 4 : 0, x.guildOf(other, 3));
                CHECK.same("painted for guild " + other, other == g ? 2 : 12, x.signOf(other, 2));
            }
            CHECK.same("paint once more", 0, x.paint(g));
            CHECK.same("paid in all", 4, x.about(7));
        }
    }

    /** "Throws IndexOutOfBoundsException if there is no such sign" */
    private static void promise15NoSuchSign() {
        CHECK.indexRange("paint of 8", EIGHT_SIGNS, 0, 7, (x, s) -> x.paint(s));
        CHECK.indexRange("paint of 1", () -> Towns.of("Rs012.d1"), 0, 0, (x, s) -> x.paint(s));
        CHECK.index("paint of none", NEW, x -> x.paint(0));
    }

    /** "n: 1 to 60" */
    private static void promise16HowMany() {
        for (int n : new int[] {1, 2, 59, 60}) {
            SignReforms x = Towns.of("Rs012.d1");
            CHECK.same("fines of " + n + " months", 3 * n, x.months(n));
            CHECK.same("the month", n, x.about(3));
        }
    }

    /** "Returns the fines in them, in coins." */
    private static void promise16Fines() {
        CHECK.same("without signs", 0, new SignReforms().months(60));
        CHECK.same("without a wrong sign", 0, Towns.of("Rs012.d3").months(60));
        SignReforms x = EIGHT_SIGNS.get();
        CHECK.same("of eight signs", 24, x.months(1));
        CHECK.same("not those ahead of them", 24, x.months(1));
        x.set(1, 20);
        CHECK.same("of the highest fine", 9600, x.months(60));
        x.set(1, 0);
        CHECK.same("of no fine", 0, x.months(60));
        x.set(1, 1);
        x.amnesty(9);
        CHECK.same("all in an amnesty", 0, x.months(9));
        CHECK.same("behind it", 8, x.months(1));
        CHECK.same("fines so far", 24 + 24 + 9600 + 8, x.about(6));
        SignReforms y = Towns.of("Rs012.d1y9");
        CHECK.same("the last one is behind an amnesty", 3, y.months(10));
        for (int g = 0; g <= 3; g++) {
            SignReforms z = Towns.of("Rs" + g + "12.d1m07");
            CHECK.same("the guild " + g + " is fined", 21, z.guildOf(g, 2));
            CHECK.same("no other guild is", 0, z.guildOf((g + 1) % 4, 2));
        }
    }

    /** "Throws IllegalArgumentException if n is out of range" */
    private static void promise16OutOfRange() {
        CHECK.argumentRange("months", NEW, 1, 60, (x, n) -> x.months(n));
        CHECK.argumentRange("months of wrong signs", EIGHT_SIGNS, 1, 60, (x, n) -> x.months(n));
    }

    /** "n: 1 to 9: for how many months" */
    private static void promise17HowMany() {
        for (int n = 1; n <= 9; n++) {
            SignReforms x = Towns.of("Rs012.d1m02");
            CHECK.same("amnesty", 1, x.amnesty(n));
            CHECK.same("months that are left", n, x.about(4));
            CHECK.same("the month in which it was given", 2, x.about(5));
            CHECK.same("the month", 2, x.about(3));
            CHECK.same("fines in it", 0, x.months(n));
            CHECK.same("fines behind it", 3, x.months(1));
        }
    }

    /** "Returns the wrong signs." */
    private static void promise17WrongSigns() {
        CHECK.same("without signs", 0, new SignReforms().amnesty(9));
        CHECK.same("no wrong sign", 0, Towns.of("Rs012.d3").amnesty(9));
        CHECK.same("one of two", 1, Towns.of("Rs012.s13.d1").amnesty(9));
        CHECK.same("eight", 8, EIGHT_SIGNS.get().amnesty(1));
        SignReforms x = EIGHT_SIGNS.get();
        x.paint(7);
        CHECK.same("seven", 7, x.amnesty(1));
        CHECK.same("they stay wrong", 7, x.about(2));
    }

    /** "Throws IllegalArgumentException if n is out of range" */
    private static void promise17OutOfRange() {
        CHECK.argumentRange("amnesty", NEW, 1, 9, (x, n) -> x.amnesty(n));
        Supplier<SignReforms> running = () -> Towns.of("Ry3");
        for (int n : new int[] {0, 10, -1, Integer.MIN_VALUE, Integer.MAX_VALUE}) {
            CHECK.argument("amnesty(" + n + ") in another", running, x -> x.amnesty(n));
        }
    }

    /** "Throws IllegalStateException if it cannot be given" */
    private static void promise17CannotBeGiven() {
        for (int n = 1; n <= 9; n++) {
            int months = n;
            for (int later = 0; later <= 11; later++) {
                String text = "Rs012.d1y" + n + (later == 0 ? "" : "m" + later / 10 + later % 10);
                CHECK.state("amnesty behind " + text, () -> Towns.of(text), x -> x.amnesty(months));
            }
            CHECK.accepted("amnesty behind 12 months", () -> Towns.of("Ry" + months + "m12"), x -> x.amnesty(months));
        }
    }

    /** "Returns the previous one." */
    private static void promise18Previous() {
        SignReforms x = new SignReforms();
        CHECK.same("coins at first", 4, x.set(0, 4));
        CHECK.same("the same", 4, x.set(0, 20));
        CHECK.same("the most", 20, x.set(0, 0));
        CHECK.same("the least", 0, x.set(0, 0));
        CHECK.same("the fine at first", 3, x.set(1, 20));
        CHECK.same("the most", 20, x.set(1, 0));
        CHECK.same("the least", 0, x.set(1, 1));
        CHECK.same("setting(0)", 0, x.setting(0));
        CHECK.same("setting(1)", 1, x.setting(1));
    }

    /** "what: 0 or 1"; "v: the new value, 0 to 20"; "IllegalArgumentException if what or v is out of range" */
    private static void promise18OutOfRange() {
        CHECK.argumentRange("what", NEW, 0, 1, (x, what) -> x.set(what, 7));
        CHECK.argumentRange("v of 0", NEW, 0, 20, (x, v) -> x.set(0, v));
        CHECK.argumentRange("v of 1", NEW, 0, 20, (x, v) -> x.set(1, v));
        CHECK.argument("both", NEW, x -> x.set(2, 21));
        CHECK.argument("both", NEW, x -> x.set(-1, -1));
    }
}
