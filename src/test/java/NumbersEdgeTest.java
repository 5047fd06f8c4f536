import java.util.function.Supplier;

/** The edges in the sentences of promises 6 to 11. Each method quotes the sentence that it holds to. */
public final class NumbersEdgeTest {
    private static final Check CHECK = new Check("NumbersEdgeTest");
    private static final Supplier<SignReforms> NEW = SignReforms::new;
    /** Eight signs of two guilds, all without a decree. */
    private static final String EIGHT = "Rs012.s013.s014.s015.s112.s113.s114.s115.";
    private static final String EIGHT_LETTERS = "Rs011111111.s022222222.s033333333.s044444444.s055555555."
            + "s066666666.s111111111.s122222222.";
    private static final String TEN_DECREES = "Rd1d2d3d4d5d6o1o2o3j123";

    public static void main(String[] args) {
        promise6Signs();
        promise6Decrees();
        promise6WrongSigns();
        promise6Month();
        promise6AmnestyLeft();
        promise6LatestAmnesty();
        promise6Fines();
        promise6Paint();
        promise6Refusals();
        promise6NoRefusals();
        promise6LettersOfWords();
        promise6LettersOfRights();
        promise6CostOfAll();
        promise6What();
        promise7GuildWordPainted();
        promise7Wrong();
        promise7LettersAndCoins();
        promise7PaintedAnew();
        promise7Fines();
        promise7NoSuchSign();
        promise7What();
        promise8Letters();
        promise8Month();
        promise8NoSuchDecree();
        promise8What();
        promise9Signs();
        promise9FinesAndPaint();
        promise9NoSuchGuild();
        promise9What();
        promise10HeldBack();
        promise10SameForBothWays();
        promise10NoSuchSign();
        promise10Way();
        promise11What();
        CHECK.end();
    }

    private static void about(String text, int what, int due) {
        CHECK.same("about(" + what + ") behind " + text, due, Towns.of(text).about(what));
    }

    /** "0: the signs" */
    private static void promise6Signs() {
        about("R", 0, 0);
        about("Rs01.", 0, 1);
        about(EIGHT, 0, 8);
        about(EIGHT + "s116.", 0, 8);
        about("Rd1s01.", 0, 0);
    }

    /** "1: the decrees in force" */
    private static void promise6Decrees() {
        about("R", 1, 0);
        about(TEN_DECREES, 1, 10);
        about(TEN_DECREES + "o6", 1, 10);
        about(TEN_DECREES + "r9", 1, 9);
        about("Rd1r0", 1, 0);
        about("Rs01.d1", 1, 0);
    }

    /** "2: the wrong signs" */
    private static void promise6WrongSigns() {
        about("R", 2, 0);
        about(EIGHT, 2, 0);
        about(EIGHT + "d1", 2, 8);
        about(EIGHT + "d1p7", 2, 7);
        about(EIGHT + "d1r0", 2, 0);
        about(EIGHT + "j126", 2, 2);
    }

    /** "3: the month" */
    private static void promise6Month() {
        about("R", 3, 0);
        about("Rm01", 3, 1);
        about("Rm60", 3, 60);
        about("Ry9m60m60", 3, 120);
        SignReforms x = new SignReforms();
        for (int n = 0; n < 500; n++) {
            x.months(60);
        }
        CHECK.same("the month behind 500 times 60", 30000, x.about(3));
    }

    /** "4: the months of amnesty that are left" */
    private static void promise6AmnestyLeft() {
        about("R", 4, 0);
        about("Ry1", 4, 1);
        about("Ry9", 4, 9);
        about("Ry9m08", 4, 1);
        about("Ry9m09", 4, 0);
        about("Ry9m10", 4, 0);
        about("Ry9m60", 4, 0);
    }

    /** "5: the month in which the latest amnesty was given, NONE without one" */
    private static void promise6LatestAmnesty() {
        about("R", 5, -1);
        about("Rm60", 5, -1);
        about("Ry1", 5, 0);
        about("Rm01y1", 5, 1);
        about("Rm07y9m60", 5, 7);
        about("Rm07y9m12y1m05", 5, 19);
    }

    /** "6: fines so far, in coins" */
    private static void promise6Fines() {
        about("Rm60", 6, 0);
        about("Rs012.m60", 6, 0);
        about("Rs012.d1", 6, 0);
        about("Rs012.d1m01", 6, 3);
        about("Rs012.d1m01p0m60", 6, 3);
        about("Rs012.d1m01r0m60", 6, 3);
        about("Rs012.d1y9m09", 6, 0);
        about(EIGHT + "d1m60", 6, 8 * 60 * 3);
    }

    /** "7: coins paid for paint so far" */
    private static void promise6Paint() {
        about("R", 7, 0);
        about("Rs012.d1", 7, 0);
        about("Rs012.p0", 7, 0);
        about("Rs012.d1p0", 7, 4);
        about("Rs012.d1p0p0p0", 7, 4);
        about("Rs012.d1p0r0p0", 7, 8);
    }

    /** "8: how often signs, decrees and revokings were refused so far" */
    private static void promise6Refusals() {
        SignReforms x = Towns.of("Rs011.s13.j112d1");
        CHECK.same("at first", 0, x.about(8));
        x.sign(0, 2);
        CHECK.same("behind a sign for reason 2", 1, x.about(8));
        x.sign(2, 1);
        CHECK.same("behind a sign for reason 1", 2, x.about(8));
        x.decree(0, 3, 0, 0);
        CHECK.same("behind a decree", 3, x.about(8));
        x.revoke(0);
        CHECK.same("behind a revoking", 4, x.about(8));
        x.revoke(0);
        CHECK.same("behind the same once more", 5, x.about(8));
        x.undo();
        CHECK.same("behind undo", 4, x.about(8));
    }

    /** "refused": what is not refused, or only would be, does not count. */
    private static void promise6NoRefusals() {
        Supplier<SignReforms> maker = () -> Towns.of("Rs012.s02.d6d6d6d6d6d6d6d6d6d6");
        SignReforms x = maker.get();
        x.why(0, 1, 0, 0);
        x.why(0, 2, 0, 0);
        x.droppable();
        x.runScript(1, 1020);
        x.simulate(3, 60);
        CHECK.same("behind what would be, scripts and simulations", 0, x.about(8));
        CHECK.state("a decree that throws", maker, y -> y.decree(0, 1, 0, 0));
        CHECK.index("a revoking that throws", maker, y -> y.revoke(10));
        CHECK.argument("a sign that throws", maker, y -> y.sign(0, 0));
        x.revoke(0);
        x.decree(0, 6, 0, 0);
        x.sign(1, 12);
        CHECK.same("behind what is done", 0, x.about(8));
    }

    /** "9: the letters of all words together" */
    private static void promise6LettersOfWords() {
        about("R", 9, 0);
        about("Rs01.", 9, 1);
        about(EIGHT_LETTERS, 9, 64);
        about(EIGHT_LETTERS + "o1o2o3o4o5o6p0", 9, 64);
    }

    /** "10: those of all right spellings together" */
    private static void promise6LettersOfRights() {
        about("R", 10, 0);
        about("Rd1", 10, 0);
        about("Rs01.", 10, 1);
        about(EIGHT_LETTERS, 10, 64);
        about(EIGHT_LETTERS + "o1o2o3o4o5o6", 10, 8);
        about(EIGHT_LETTERS + "o1o2o3o4o5o6r5", 10, 15);
    }

    /** "11: what it would cost now to paint all wrong signs anew" */
    private static void promise6CostOfAll() {
        about("R", 11, 0);
        about(EIGHT, 11, 0);
        about(EIGHT + "d1", 11, 32);
        about(EIGHT + "d1p0p1p2p3p4p5p6p7", 11, 0);
        SignReforms x = Towns.of(EIGHT_LETTERS + "o1o2o3o4o5o6");
        CHECK.same("56 letters for 4", 224, x.about(11));
        x.set(0, 20);
        CHECK.same("56 letters for 20", 1120, x.about(11));
        x.set(0, 0);
        CHECK.same("56 letters for 0", 0, x.about(11));
    }

    /** "Throws IllegalArgumentException if what is not 0 to 11" */
    private static void promise6What() {
        CHECK.argumentRange("about in a new object", NEW, 0, 11, (x, what) -> x.about(what));
        CHECK.argumentRange("about", () -> Towns.of(EIGHT + "d1y3"), 0, 11, (x, what) -> x.about(what));
    }

    private static void signOf(String text, int s, int what, int due) {
        CHECK.same("signOf(" + s + ", " + what + ") behind " + text, due, Towns.of(text).signOf(s, what));
    }

    /** "0: its guild; 1: its word; 2: what is painted on it" */
    private static void promise7GuildWordPainted() {
        signOf("Rs01.", 0, 0, 0);
        signOf("Rs36.", 0, 0, 3);
        signOf("Rs01.", 0, 1, 1);
        signOf("Rs066666666.", 0, 1, 66666666);
        signOf("Rs01.", 0, 2, 1);
        signOf("Rs066666666.", 0, 2, 66666666);
        signOf("Rs066666666.o6", 0, 2, 66666666);
        signOf("Rs066666666.o6p0", 0, 2, 6);
        signOf(EIGHT, 7, 1, 15);
    }

    /** "3: 1 if it is wrong, otherwise 0" */
    private static void promise7Wrong() {
        signOf("Rs012.", 0, 3, 0);
        signOf("Rs012.d1", 0, 3, 1);
        signOf("Rs012.d1p0", 0, 3, 0);
        signOf(EIGHT + "d1p7", 6, 3, 1);
        signOf(EIGHT + "d1p7", 7, 3, 0);
    }

    /** "4: the letters by which what is painted and what is right are apart; 5: the coins [..] to paint it anew" */
    private static void promise7LettersAndCoins() {
        signOf("Rs012.", 0, 4, 0);
        signOf("Rs012.", 0, 5, 0);
        signOf("Rs012.d1", 0, 4, 1);
        signOf("Rs012.d1", 0, 5, 4);
        SignReforms x = Towns.of("Rs012121212.d1j226j226j665");
        CHECK.same("eight letters", 8, x.signOf(0, 4));
        CHECK.same("eight letters for 4", 32, x.signOf(0, 5));
        x.set(0, 20);
        CHECK.same("eight letters for 20", 160, x.signOf(0, 5));
        x.set(0, 0);
        CHECK.same("eight letters for 0", 0, x.signOf(0, 5));
        CHECK.same("eight letters are apart all the same", 8, x.signOf(0, 4));
    }

    /** "6: how often it was painted anew so far (when nothing had to be changed, too)" */
    private static void promise7PaintedAnew() {
        signOf("Rs012.d1", 0, 6, 0);
        signOf("Rs012.d1p0", 0, 6, 1);
        signOf("Rs012.p0", 0, 6, 1);
        signOf("Rs012.d1p0p0p0", 0, 6, 3);
        signOf("Rs012.s13.p1p1", 0, 6, 0);
        signOf("Rs012.s13.p1p1", 1, 6, 2);
    }

    /** "7: the coins of fines for it so far" */
    private static void promise7Fines() {
        signOf("Rs012.m60", 0, 7, 0);
        signOf("Rs012.d1", 0, 7, 0);
        signOf("Rs012.d1m60", 0, 7, 180);
        signOf("Rs012.d1m60p0m60", 0, 7, 180);
        signOf("Rs012.d1y1m01", 0, 7, 0);
        signOf("Rs012.s13.d1m05", 1, 7, 0);
        signOf("Rs012.d1m05s112.", 1, 7, 0);
    }

    /** "Throws IndexOutOfBoundsException if there is no such sign" */
    private static void promise7NoSuchSign() {
        CHECK.indexRange("signOf of 1", () -> Towns.of("Rs012."), 0, 0, (x, s) -> x.signOf(s, 7));
        CHECK.indexRange("signOf of 8", () -> Towns.of(EIGHT), 0, 7, (x, s) -> x.signOf(s, 7));
        CHECK.index("signOf of none", NEW, x -> x.signOf(0, 0));
        CHECK.index("signOf of a refused one", () -> Towns.of("Rd1s01."), x -> x.signOf(0, 0));
        CHECK.index("signOf, what is wrong too", () -> Towns.of("Rs012."), x -> x.signOf(1, 8));
    }

    /** "Throws IllegalArgumentException if what is not 0 to 7" */
    private static void promise7What() {
        CHECK.argumentRange("signOf", () -> Towns.of("Rs012."), 0, 7, (x, what) -> x.signOf(0, what));
        CHECK.argumentRange("signOf the last one", () -> Towns.of(EIGHT), 0, 7, (x, what) -> x.signOf(7, what));
    }

    private static void decree(String text, int k, int... due) {
        SignReforms x = Towns.of(text);
        for (int what = 0; what < due.length; what++) {
            CHECK.same("decreeOf(" + k + ", " + what + ") behind " + text, due[what], x.decreeOf(k, what));
        }
    }

    /** "0: its kind; 1 to 3: its letters a, b and c, 0 if the kind does not need it" */
    private static void promise8Letters() {
        decree("Rd1", 0, 0, 1, 0, 0);
        decree("Rd6", 0, 0, 6, 0, 0);
        decree("Ro1", 0, 2, 1, 0, 0);
        decree("Ro6", 0, 2, 6, 0, 0);
        decree("Rj111", 0, 1, 1, 1, 1);
        decree("Rj654", 0, 1, 6, 5, 4);
        decree("Rj123d4", 1, 0, 4, 0, 0);
        decree("Rj123j456r0o2", 1, 2, 2, 0, 0);
        decree(TEN_DECREES, 9, 1, 1, 2, 3, 0);
        decree(TEN_DECREES + "r9o6", 9, 2, 6, 0, 0, 0);
    }

    /** "4: the month in which it was given" */
    private static void promise8Month() {
        decree("Rd1m60", 0, 0, 1, 0, 0, 0);
        decree("Rm01d1m60", 0, 0, 1, 0, 0, 1);
        decree("Rm60m60d1", 0, 0, 1, 0, 0, 120);
        decree("Rd1m05d2r0", 0, 0, 2, 0, 0, 5);
    }

    /** "Throws IndexOutOfBoundsException if there is no such decree" */
    private static void promise8NoSuchDecree() {
        CHECK.indexRange("decreeOf of 1", () -> Towns.of("Rd1"), 0, 0, (x, k) -> x.decreeOf(k, 4));
        CHECK.indexRange("decreeOf of 10", () -> Towns.of(TEN_DECREES), 0, 9, (x, k) -> x.decreeOf(k, 4));
        CHECK.indexRange("decreeOf of 9", () -> Towns.of(TEN_DECREES + "r0"), 0, 8, (x, k) -> x.decreeOf(k, 4));
        CHECK.index("decreeOf of none", NEW, x -> x.decreeOf(0, 0));
        CHECK.index("decreeOf of a refused one", () -> Towns.of("Rs01.d1"), x -> x.decreeOf(0, 0));
        CHECK.index("decreeOf, what is wrong too", () -> Towns.of("Rd1"), x -> x.decreeOf(1, 5));
    }

    /** "Throws IllegalArgumentException if what is not 0 to 4" */
    private static void promise8What() {
        CHECK.argumentRange("decreeOf", () -> Towns.of("Rd1"), 0, 4, (x, what) -> x.decreeOf(0, what));
        CHECK.argumentRange("decreeOf the last one", () -> Towns.of(TEN_DECREES), 0, 4,
                (x, what) -> x.decreeOf(9, what));
    }

    private static void guild(String text, int g, int... due) {
        SignReforms x = Towns.of(text);
        for (int what = 0; what <= 3; what++) {
            CHECK.same("guildOf(" + g + ", " + what + ") behind " + text, due[what], x.guildOf(g, what));
        }
    }

    /** "0: its signs; 1: the wrong ones of them" */
    private static void promise9Signs() {
        guild("R", 0, 0, 0, 0, 0);
        guild("R", 3, 0, 0, 0, 0);
        guild(EIGHT, 0, 4, 0, 0, 0);
        guild(EIGHT + "d1", 1, 4, 4, 0, 0);
        guild(EIGHT + "d1", 2, 0, 0, 0, 0);
        guild("Rs31.s32.s33.s34.s35.s312.s313.s3116.d6", 3, 8, 1, 0, 0);
        guild("Rs01.s01.", 0, 1, 0, 0, 0);
    }

    /** "2: its fines so far, in coins; 3: the coins that it paid for paint so far" */
    private static void promise9FinesAndPaint() {
        guild("Rs012.s312.d1m60p3p1", 3, 1, 0, 180, 4);
        guild("Rs012.s312.d1m60p1", 0, 1, 1, 180, 0);
        guild("Rs012.s312.d1m60p1", 1, 0, 0, 0, 0);
        guild("Rs112.s113.d1m01p0p1m60", 1, 2, 0, 6, 8);
        guild("Rs112.s113.p0p1m60", 1, 2, 0, 0, 0);
    }

    /** "Throws IndexOutOfBoundsException if there is no such guild" */
    private static void promise9NoSuchGuild() {
        CHECK.indexRange("guildOf", NEW, 0, 3, (x, g) -> x.guildOf(g, 3));
        CHECK.indexRange("guildOf of 8 signs", () -> Towns.of(EIGHT + "d1"), 0, 3, (x, g) -> x.guildOf(g, 1));
        CHECK.index("guildOf, what is wrong too", NEW, x -> x.guildOf(4, 4));
        CHECK.index("guildOf, what is wrong too", NEW, x -> x.guildOf(-1, -1));
    }

    /** "Throws IllegalArgumentException if what is not 0 to 3" */
    private static void promise9What() {
        CHECK.argumentRange("guildOf(0, ..)", NEW, 0, 3, (x, what) -> x.guildOf(0, what));
        CHECK.argumentRange("guildOf(3, ..)", () -> Towns.of(EIGHT), 0, 3, (x, what) -> x.guildOf(3, what));
    }

    private static void right(String word, String decrees, int due) {
        SignReforms x = Towns.of("Rs0" + word + "." + decrees);
        for (int call = 1; call <= 2; call++) {
            CHECK.same("right(0, 0) of " + word + " by " + decrees, due, x.right(0, 0));
            CHECK.same("right(0, 1) of " + word + " by " + decrees, due, x.right(0, 1));
        }
    }

    /** "with what each decree holds back till it knows what follows": at the end, nothing follows. */
    private static void promise10HeldBack() {
        right("1", "j121j122j123j124j125j126j131j132j133j134", 1);
        right("1", "j112", 1);
        right("1", "o1o1o1o1o1o1o1o1o1o1", 1);
        right("12", "j134j245", 12);
        right("123", "j124j345j451", 43);
        right("1212", "j213j131o1o2", 12);
        right("11111111", "o2j111j111j111", 1);
        right("1111111", "j112j221", 121);
        right("321", "d4j123j213j324o1", 33);
    }

    /** "Returns it, as a number (the same for both ways)": eight letters, ten decrees. */
    private static void promise10SameForBothWays() {
        long[] seed = {1};
        for (int run = 0; run < 3000; run++) {
            int letters = 2 + run % 5;
            StringBuilder word = new StringBuilder();
            for (int i = 0; i < 8; i++) {
                word.append(1 + some(seed, letters));
            }
            StringBuilder decrees = new StringBuilder();
            for (int k = 0; k < 10; k++) {
                int kind = some(seed, 12);
                decrees.append(kind == 0 ? "d" : kind < 3 ? "o" : "j").append(1 + some(seed, letters));
                if (kind >= 3) {
                    decrees.append(1 + some(seed, letters)).append(1 + some(seed, letters));
                }
            }
            sameForBothWays(word.toString(), decrees.toString());
        }
    }

    /** A number of 0 to below, by a fixed sequence. */
    private static int some(long[] seed, int below) {
        seed[0] = seed[0] * 6364136223846793005L + 1442695040888963407L;
        return (int) ((seed[0] >>> 33) % below);
    }

    private static void sameForBothWays(String word, String decrees) {
        SignReforms x = Towns.of("Rs0" + word + "." + decrees);
        int due = Spelling.of(word, x);
        CHECK.same("right(0, 0) of " + word + " by " + decrees, due, x.right(0, 0));
        CHECK.same("right(0, 1) of " + word + " by " + decrees, due, x.right(0, 1));
    }

    /** "Throws IndexOutOfBoundsException if there is no such sign" */
    private static void promise10NoSuchSign() {
        for (int way = 0; way <= 1; way++) {
            int w = way;
            CHECK.indexRange("right of 1", () -> Towns.of("Rs012."), 0, 0, (x, s) -> x.right(s, w));
            CHECK.indexRange("right of 8", () -> Towns.of(EIGHT + "d1"), 0, 7, (x, s) -> x.right(s, w));
            CHECK.index("right of none", NEW, x -> x.right(0, w));
        }
        CHECK.index("right, way is wrong too", () -> Towns.of("Rs012."), x -> x.right(1, 2));
        CHECK.index("right, way is wrong too", () -> Towns.of("Rs012."), x -> x.right(-1, -1));
    }

    /** "Throws IllegalArgumentException if way is neither 0 nor 1" */
    private static void promise10Way() {
        CHECK.argumentRange("right", () -> Towns.of("Rs012.d1"), 0, 1, (x, way) -> x.right(0, way));
        CHECK.argumentRange("right of the last one", () -> Towns.of(EIGHT), 0, 1, (x, way) -> x.right(7, way));
    }

    /** "what: 0 or 1"; "Throws IllegalArgumentException if what is out of range" */
    private static void promise11What() {
        CHECK.argumentRange("setting", NEW, 0, 1, (x, what) -> x.setting(what));
        SignReforms x = new SignReforms();
        x.set(0, 0);
        x.set(1, 20);
        CHECK.same("the least coins for a letter", 0, x.setting(0));
        CHECK.same("the highest fine", 20, x.setting(1));
    }
}
