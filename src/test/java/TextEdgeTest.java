import java.util.function.Supplier;

/**
 * The edges in the sentences of promises 1 to 5, and of "Text" in "Terms". Each method quotes the
 * sentence that it holds to.
 */
public final class TextEdgeTest {
    private static final Check CHECK = new Check("TextEdgeTest");
    private static final Supplier<SignReforms> NEW = SignReforms::new;
    private static final String DIGITS = "0123456789";
    private static final String LETTERS = "123456";
    private static final String COMMANDS = "sdjorpmy";

    public static void main(String[] args) {
        promise1WithoutSignsAndDecrees();
        promise1NothingElse();
        promise2Codes();
        promise2NewLength();
        promise2FullText();
        promise3Empties();
        promise3PreviousLength();
        theLetterR();
        anyNumberOfCommands();
        signs();
        dropsAndDoubledLetters();
        joins();
        revokings();
        paints();
        months();
        amnesties();
        noBlanks();
        fromLeftToRight();
        endsTooSoon();
        promise4None();
        promise5AsInANewObject();
        promise5DoesTheCommands();
        promise5NothingRemembered();
        promise5SlotsAreEmpty();
        promise5KeepsTheText();
        promise5CommandsThatWouldThrow();
        promise5RefusedCommands();
        promise5CountRefusedNowhere();
        promise5NoReform();
        CHECK.end();
    }

    private static Supplier<SignReforms> written(String text) {
        return () -> Towns.write(new SignReforms(), text);
    }

    private static int errorIn(String text) {
        return Towns.write(new SignReforms(), text).errorPosition();
    }

    /** Of all characters behind the beginning, these alone are no error. */
    private static void allowed(String beginning, String characters) {
        for (int c = 0; c <= 255; c++) {
            String text = beginning + (char) c;
            boolean isError = errorIn(text) == beginning.length();
            boolean due = characters.indexOf(c) < 0;
            CHECK.same("the code " + c + " is an error behind " + beginning, due ? 1 : 0, isError ? 1 : 0);
        }
    }

    /** "Creates a town without signs and decrees." */
    private static void promise1WithoutSignsAndDecrees() {
        SignReforms x = new SignReforms();
        CHECK.same("signs", 0, x.about(0));
        CHECK.same("decrees", 0, x.about(1));
        for (int g = 0; g <= 3; g++) {
            CHECK.same("signs of guild " + g, 0, x.guildOf(g, 0));
        }
        CHECK.index("signOf(0, 0)", NEW, y -> y.signOf(0, 0));
        CHECK.index("right(0, 0)", NEW, y -> y.right(0, 0));
        CHECK.index("paint(0)", NEW, y -> y.paint(0));
        CHECK.index("apart(0, 0)", NEW, y -> y.apart(0, 0));
        CHECK.index("worthIn(0)", NEW, y -> y.worthIn(0));
        CHECK.index("decreeOf(0, 0)", NEW, y -> y.decreeOf(0, 0));
        CHECK.index("revoke(0)", NEW, y -> y.revoke(0));
    }

    /** The terms of a new object: "(0 at first)", "or none was yet", "at first 4", "at first 3". */
    private static void promise1NothingElse() {
        SignReforms x = new SignReforms();
        for (int what = 0; what <= 11; what++) {
            CHECK.same("about(" + what + ")", what == 5 ? -1 : 0, x.about(what));
        }
        for (int g = 0; g <= 3; g++) {
            for (int what = 0; what <= 3; what++) {
                CHECK.same("guildOf(" + g + ", " + what + ")", 0, x.guildOf(g, what));
            }
        }
        CHECK.same("setting(0)", 4, x.setting(0));
        CHECK.same("setting(1)", 3, x.setting(1));
        CHECK.same("errorPosition", 0, x.errorPosition());
        CHECK.same("clearText", 0, x.clearText());
        CHECK.state("undo", NEW, y -> y.undo());
        CHECK.state("restore(0)", NEW, y -> y.restore(0));
        CHECK.state("restore(1)", NEW, y -> y.restore(1));
    }

    /** "c: character code, 0 to 255"; "Throws IllegalArgumentException if c is out of range" */
    private static void promise2Codes() {
        CHECK.argumentRange("append", NEW, 0, 255, (x, c) -> x.append(c));
        CHECK.argumentRange("append behind 119", written("R".repeat(119)), 0, 255, (x, c) -> x.append(c));
    }

    /** "Returns the new length of the text." */
    private static void promise2NewLength() {
        SignReforms x = new SignReforms();
        for (int length = 1; length <= 120; length++) {
            CHECK.same("append", length, x.append('R'));
        }
        x.clearText();
        CHECK.same("append to no text", 1, x.append(0));
    }

    /** "Throws IllegalStateException if the text already has 120 characters" */
    private static void promise2FullText() {
        CHECK.accepted("append behind 119", written("R".repeat(119)), x -> x.append('R'));
        CHECK.state("append behind 120", written("R".repeat(120)), x -> x.append('R'));
        CHECK.state("append of 0 behind 120", written("R".repeat(120)), x -> x.append(0));
        CHECK.state("append of 255 behind 120", written("R".repeat(120)), x -> x.append(255));
        CHECK.argument("append(-1) behind 120", written("R".repeat(120)), x -> x.append(-1));
        CHECK.argument("append(256) behind 120", written("R".repeat(120)), x -> x.append(256));
    }

    /** "Empties the text buffer." */
    private static void promise3Empties() {
        SignReforms x = Towns.write(new SignReforms(), "m60".repeat(40));
        x.clearText();
        CHECK.same("errorPosition of no text", 0, x.errorPosition());
        for (int length = 1; length <= 120; length++) {
            CHECK.same("append of as many once more", length, x.append('R'));
        }
        CHECK.same("the new text, not the old one", 1, x.errorPosition());
        SignReforms y = Towns.of("Rs01.d6");
        y.clearText();
        CHECK.same("signs stay", 1, y.about(0));
        CHECK.same("decrees stay", 1, y.about(1));
        CHECK.state("load of no text", () -> {
            SignReforms z = Towns.of("R");
            z.clearText();
            return z;
        }, z -> z.load());
    }

    /** "Returns the previous length of the text." */
    private static void promise3PreviousLength() {
        for (int length : new int[] {0, 1, 2, 119, 120}) {
            SignReforms x = Towns.write(new SignReforms(), "R".repeat(length));
            CHECK.same("clearText", length, x.clearText());
            CHECK.same("clearText once more", 0, x.clearText());
        }
    }

    /** "A reform as a text is the letter R" */
    private static void theLetterR() {
        CHECK.same("no text", 0, errorIn(""));
        CHECK.same("R", -1, errorIn("R"));
        CHECK.same("no R", 0, errorIn("d1"));
        CHECK.same("R once more", 1, errorIn("RR"));
        CHECK.same("R behind a command", 3, errorIn("Rd1R"));
        allowed("", "R");
    }

    /** "and then any number of commands" */
    private static void anyNumberOfCommands() {
        allowed("R", COMMANDS);
        for (String command : new String[] {"s01.", "s312345612.", "d1", "j123", "o6", "r9", "p7", "m60", "y9"}) {
            CHECK.same("one command " + command, -1, errorIn("R" + command));
            CHECK.same("ten commands " + command, -1, errorIn("R" + command.repeat(10)));
            allowed("R" + command, COMMANDS);
        }
        SignReforms x = Towns.write(new SignReforms(), "R" + "d1".repeat(59));
        CHECK.same("59 commands", -1, x.errorPosition());
        CHECK.same("load of 59 commands, of which 49 find 10 decrees", 49, x.load());
    }

    /** "s, a digit for a guild (0 to 3), and 1 to 8 letters with a dot behind them: sign()" */
    private static void signs() {
        allowed("Rs", "0123");
        allowed("Rs0", LETTERS);
        allowed("Rs3", LETTERS);
        String word = "";
        for (int length = 1; length <= 8; length++) {
            word += length % 6 + 1;
            allowed("Rs3" + word, length < 8 ? LETTERS + "." : ".");
            SignReforms x = Towns.write(new SignReforms(), "Rs3" + word + ".");
            CHECK.same("load of a sign", 0, x.load());
            CHECK.same("its word", Integer.parseInt(word), x.signOf(0, 1));
            CHECK.same("its guild", 3, x.signOf(0, 0));
        }
    }

    /** "d and a letter: decree() of the kind 0"; "o and a letter: of the kind 2" */
    private static void dropsAndDoubledLetters() {
        allowed("Rd", LETTERS);
        allowed("Ro", LETTERS);
        for (int letter = 1; letter <= 6; letter++) {
            CHECK.same("kind of d", 0, Towns.of("Rd" + letter).decreeOf(0, 0));
            CHECK.same("letter of d", letter, Towns.of("Rd" + letter).decreeOf(0, 1));
            CHECK.same("kind of o", 2, Towns.of("Ro" + letter).decreeOf(0, 0));
            CHECK.same("letter of o", letter, Towns.of("Ro" + letter).decreeOf(0, 1));
        }
    }

    /** "j and three letters: of the kind 1" */
    private static void joins() {
        allowed("Rj", LETTERS);
        allowed("Rj1", LETTERS);
        allowed("Rj66", LETTERS);
        for (int[] abc : new int[][] {{1, 1, 1}, {6, 6, 6}, {1, 2, 3}, {6, 1, 5}}) {
            SignReforms x = Towns.of("Rj" + abc[0] + abc[1] + abc[2]);
            CHECK.same("kind", 1, x.decreeOf(0, 0));
            for (int i = 0; i < 3; i++) {
                CHECK.same("letter", abc[i], x.decreeOf(0, 1 + i));
            }
        }
    }

    /** "r and a digit (0 to 9): revoke()" */
    private static void revokings() {
        allowed("Rr", DIGITS);
        String ten = "Rd1o1d2o2d3o3d4o4d5o5";
        for (int k = 0; k <= 9; k++) {
            SignReforms x = Towns.write(new SignReforms(), ten + "r" + k);
            CHECK.same("load of r" + k, 0, x.load());
            CHECK.same("decrees behind r" + k, 9, x.about(1));
            CHECK.same("letter of the last one", k == 9 ? 0 : 2, x.decreeOf(8, 0));
            CHECK.same("letter of the first one", k == 0 ? 2 : 0, x.decreeOf(0, 0));
        }
    }

    /** "p and a sign: paint()"; "a sign a digit (0 to 7)" */
    private static void paints() {
        allowed("Rp", "01234567");
        String eight = "Rs012.s013.s014.s015.s112.s113.s114.s115.d1";
        for (int s = 0; s <= 7; s++) {
            SignReforms x = Towns.write(new SignReforms(), eight + "p" + s);
            CHECK.same("load of p" + s, 0, x.load());
            for (int other = 0; other <= 7; other++) {
                CHECK.same("sign " + other + " is painted by p" + s, other == s ? 1 : 0, x.signOf(other, 6));
            }
        }
    }

    /**
     * "m and two digits (01 to 60): months()"; "(a digit is not allowed if no number that is allowed
     * begins with it and those before it)"
     */
    private static void months() {
        allowed("Rm", "0123456");
        allowed("Rm0", "123456789");
        for (int tens = 1; tens <= 5; tens++) {
            allowed("Rm" + tens, DIGITS);
        }
        allowed("Rm6", "0");
        for (int n = 0; n <= 99; n++) {
            String text = "Rm" + n / 10 + n % 10;
            int error = n >= 70 ? 2 : n == 0 || n > 60 ? 3 : -1;
            CHECK.same("errorPosition of " + text, error, errorIn(text));
            if (error == -1) {
                CHECK.same("month behind " + text, n, Towns.of(text).about(3));
            }
        }
    }

    /** "y and a digit (1 to 9): amnesty()" */
    private static void amnesties() {
        allowed("Ry", "123456789");
        for (int n = 1; n <= 9; n++) {
            CHECK.same("months of amnesty", n, Towns.of("Ry" + n).about(4));
        }
    }

    /** "There are no blanks." */
    private static void noBlanks() {
        String text = "Rs0123.d1j123o2r0p0m12y9";
        for (int at = 0; at <= text.length(); at++) {
            for (String blank : new String[] {" ", "\t", "\n", "\u00a0"}) {
                CHECK.same("a blank at " + at, at, errorIn(text.substring(0, at) + blank + text.substring(at)));
            }
        }
    }

    /** "The text is read from left to right."; "the index of the first character that these rules do not allow" */
    private static void fromLeftToRight() {
        CHECK.same("the first one of three errors", 2, errorIn("Rd0xd7"));
        CHECK.same("the first one of two errors", 0, errorIn("rd0"));
        CHECK.same("an error ahead of an end that comes too soon", 3, errorIn("Rd1xd"));
        CHECK.same("an error at the last place", 119, errorIn("R" + "d1".repeat(59) + "x"));
        CHECK.same("the sign comes ahead of the decree", 0, Towns.of("Rs01.d1").about(1));
        CHECK.same("the decree comes ahead of the sign", 0, Towns.of("Rd1s01.").about(0));
    }

    /** "if the text ends too soon, it is the length of the text" */
    private static void endsTooSoon() {
        for (String text : new String[] {"", "Rs", "Rs0", "Rs01", "Rs012345612", "Rd", "Rj", "Rj1", "Rj12", "Ro",
            "Rr", "Rp", "Rm", "Rm0", "Rm6", "Ry", "Rd1s", "Rs01.m5"}) {
            CHECK.same("errorPosition of " + text, text.length(), errorIn(text));
            CHECK.state("load of " + text, written(text), x -> x.load());
        }
        for (String end : new String[] {"d", "s", "m", "y"}) {
            CHECK.same("120 characters that end with " + end, 120, errorIn("R" + "d1".repeat(59) + end));
        }
        CHECK.same("120 characters that end in a month", 120, errorIn("R" + "m60".repeat(39) + "m6"));
        CHECK.same("120 characters that end ahead of a dot", 120, errorIn("R" + "d1".repeat(53) + "m60s012345612"));
    }

    /** "Returns the error position of the text; NONE if it is a reform." */
    private static void promise4None() {
        CHECK.same("120 characters", -1, errorIn("R" + "m60".repeat(39) + "d4"));
        CHECK.same("120 characters that end with a dot", -1, errorIn("R" + "d1".repeat(54) + "s012345612."));
        CHECK.same("119 characters", -1, errorIn("R" + "d1".repeat(59)));
        SignReforms x = Towns.write(new SignReforms(), "Rd");
        CHECK.same("a reform that is not ready", 2, x.errorPosition());
        x.append('6');
        CHECK.same("when it is", -1, x.errorPosition());
        x.append('7');
        CHECK.same("when more follows", 3, x.errorPosition());
        CHECK.same("it does nothing", 0, x.about(1));
    }

    private static SignReforms usedTown(String text) {
        SignReforms x = Towns.write(new SignReforms(), text);
        x.sign(1, 123);
        x.sign(1, 123);
        x.sign(2, 65);
        x.decree(0, 1, 0, 0);
        x.decree(0, 6, 0, 0);
        x.set(0, 20);
        x.set(1, 19);
        x.months(3);
        x.amnesty(9);
        x.paint(0);
        x.save(0);
        x.save(1);
        x.months(1);
        return x;
    }

    /** "Makes everything as in a new object" */
    private static void promise5AsInANewObject() {
        SignReforms x = usedTown("R");
        CHECK.same("load of R", 0, x.load());
        CHECK.same("all there is", View.ofAll(Towns.write(new SignReforms(), "R")), View.ofAll(x));
        SignReforms z = usedTown("Rs1123.s265.");
        z.load();
        CHECK.same("fines for a sign at the place of another", 0, z.signOf(0, 7));
        CHECK.same("its paintings", 0, z.signOf(0, 6));
        CHECK.same("fines of its guild", 0, z.guildOf(1, 2));
        CHECK.same("fines", 0, z.about(6));
        SignReforms y = usedTown("Rs1123.d1m01p0");
        y.load();
        CHECK.same("paintings of the new sign", 1, y.signOf(0, 6));
        CHECK.same("fines for the new sign", 3, y.signOf(0, 7));
        CHECK.same("fines of the guild", 3, y.guildOf(1, 2));
        CHECK.same("paint of the guild", 4, y.guildOf(1, 3));
        CHECK.same("the latest amnesty", -1, y.about(5));
        CHECK.accepted("an amnesty behind load", () -> usedTown("R"), w -> {
            w.load();
            w.amnesty(9);
        });
    }

    /** "and then does the commands of the text" */
    private static void promise5DoesTheCommands() {
        SignReforms x = usedTown("Rs012.d1m02p0");
        CHECK.same("load", 0, x.load());
        SignReforms called = new SignReforms();
        called.sign(0, 12);
        called.decree(0, 1, 0, 0);
        called.months(2);
        called.paint(0);
        for (int what = 0; what <= 11; what++) {
            CHECK.same("about(" + what + ")", called.about(what), x.about(what));
        }
        for (int what = 0; what <= 7; what++) {
            CHECK.same("signOf(0, " + what + ")", called.signOf(0, what), x.signOf(0, what));
        }
        CHECK.same("load does them anew", 0, x.load());
        CHECK.same("the month", 2, x.about(3));
        CHECK.same("signs", 1, x.about(0));
    }

    /** "Behind it no state is remembered" */
    private static void promise5NothingRemembered() {
        CHECK.state("undo behind load of actions", () -> Towns.of("Rs012.d1m02p0y3"), x -> x.undo());
        CHECK.state("undo behind load in a used town", () -> {
            SignReforms x = usedTown("Rd1");
            x.load();
            return x;
        }, x -> x.undo());
        SignReforms x = usedTown("Rd1");
        x.load();
        x.months(1);
        CHECK.same("states behind the first action", 0, x.undo());
        CHECK.same("decrees of the state as loaded", 1, x.about(1));
    }

    /** "and both save slots are empty" */
    private static void promise5SlotsAreEmpty() {
        for (int slot = 0; slot <= 1; slot++) {
            int s = slot;
            CHECK.state("restore(" + s + ") behind load", () -> {
                SignReforms x = usedTown("R");
                x.load();
                return x;
            }, x -> x.restore(s));
        }
    }

    /** "Keeps the text, also if it throws the exception." */
    private static void promise5KeepsTheText() {
        SignReforms x = Towns.of("Rd1m02");
        CHECK.same("errorPosition behind load", -1, x.errorPosition());
        CHECK.same("length behind load", 6, x.clearText());
        SignReforms y = Towns.write(new SignReforms(), "Rd1m00");
        try {
            y.load();
            CHECK.same("load of m00 throws", 1, 0);
        } catch (IllegalStateException e) {
            CHECK.same("errorPosition behind the exception", 5, y.errorPosition());
            CHECK.same("length behind the exception", 6, y.clearText());
        }
        SignReforms full = Towns.of("R" + "m60".repeat(39) + "d4");
        CHECK.same("a full text stays", 120, full.clearText());
    }

    private static void leftOut(String text, int due) {
        SignReforms x = Towns.write(new SignReforms(), text);
        CHECK.same("load of " + text, due, x.load());
    }

    /** "Commands that would throw an exception [..] are left out"; "Returns the number of commands [..] left out." */
    private static void promise5CommandsThatWouldThrow() {
        leftOut("R", 0);
        leftOut("Rs01.s02.s03.s04.s05.s06.s11.s12.", 0);
        leftOut("Rs01.s02.s03.s04.s05.s06.s11.s12.s13.s14.", 2);
        leftOut("Rd1d2d3d4d5d6d1d2d3d4", 0);
        leftOut("Rd1d2d3d4d5d6d1d2d3d4d5j123o1", 3);
        leftOut("Rd1d2d3d4d5d6d1d2d3d4r9", 0);
        leftOut("Rr0", 1);
        leftOut("Rd1r1", 1);
        leftOut("Rd1d2d3d4d5d6d1d2d3r9", 1);
        leftOut("Rp0p7", 2);
        leftOut("Rs01.p1", 1);
        leftOut("Ry1", 0);
        leftOut("Ry1y1y1", 2);
        leftOut("Ry9m08y1m03y1m01y1", 2);
        leftOut("Ry9m11y1y2y3m01y1", 3);
    }

    /** "and signs, decrees and revokings that are refused, are left out" */
    private static void promise5RefusedCommands() {
        leftOut("Rd1s01.", 1);
        leftOut("Rs01.s01.", 1);
        leftOut("Rs01.d1", 1);
        leftOut("Rs012.s02.d1", 1);
        leftOut("Rs012.s02.j122", 1);
        leftOut("Rs022.s02.o2", 1);
        leftOut("Rs011.j112d1r0", 1);
        leftOut("Rs012.s02.j126d1r0", 1);
        SignReforms x = Towns.of("Rs01.s01.d1s02.");
        CHECK.same("what follows is done", 2, x.about(0));
        CHECK.same("and what is left out is not", 0, x.about(1));
    }

    /** "(these count as refused nowhere)" */
    private static void promise5CountRefusedNowhere() {
        SignReforms x = Towns.of("Rs011.s011.s02.j112j116d1r0d2r9p7y1y1");
        CHECK.same("refused so far", 0, x.about(8));
        x.decree(0, 6, 0, 0);
        x.decree(0, 6, 0, 0);
        CHECK.same("refused behind two decrees", 2, x.about(8));
        x.load();
        CHECK.same("refused behind load", 0, x.about(8));
    }

    /** "Throws IllegalStateException if the text is not a reform" */
    private static void promise5NoReform() {
        CHECK.state("load of no text", NEW, x -> x.load());
        CHECK.state("load in a used town without a text", () -> usedTown(""), x -> x.load());
        CHECK.state("load of an error at the end", () -> usedTown("Rd1d1d1x"), x -> x.load());
        CHECK.state("load of an error at the beginning", () -> usedTown("xd1"), x -> x.load());
        CHECK.state("load of a text that ends too soon", () -> usedTown("Rd1m6"), x -> x.load());
        CHECK.state("load of 120 characters", () -> usedTown("R" + "d1".repeat(59) + "x"), x -> x.load());
        CHECK.accepted("load of R", written("R"), x -> x.load());
    }
}
