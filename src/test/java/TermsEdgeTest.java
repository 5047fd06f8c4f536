import java.util.function.Supplier;

/**
 * The edges in the sentences of "Terms" on signs, decrees, paint, months and settings. Each method
 * quotes the sentence that it holds to.
 */
public final class TermsEdgeTest {
    private static final Check CHECK = new Check("TermsEdgeTest");
    private static final Supplier<SignReforms> NEW = SignReforms::new;

    public static void main(String[] args) {
        divisions();
        letters();
        wordLengths();
        wordDigits();
        mostSigns();
        guilds();
        wordsNeverChange();
        paintedAtFirst();
        mostDecrees();
        decreesBehindTheRevokedOne();
        lettersDropped();
        lettersJoined();
        joinedLetterIsNotLookedAtAgain();
        doubledLetters();
        lettersNotNeeded();
        rightWithoutDecrees();
        rightByTheOldestFirst();
        rightByTenDecrees();
        firstReason();
        anySignWithoutLetters();
        twoSignsOfOneGuild();
        howFarApart();
        wrong();
        costOfPaint();
        monthsWithoutAmnesty();
        monthsOfAmnesty();
        amnestyIfThereIsNone();
        amnestyTwelveMonthsAgo();
        amnestyIfNoneWasYet();
        settings();
        CHECK.end();
    }

    /** "All divisions are rounded down." */
    private static void divisions() {
        CHECK.same("a sign of 1 + 11 % 8 letters by q 47", 401, new SignReforms().simulate(Seeds.of(8 * 47), 1));
        CHECK.same("the letter 6 is dropped by q 23", 111, Towns.of("Rs0661.").simulate(Seeds.of(8 * 23 + 2), 1));
    }

    /** "There are 6 letters, numbered 1 to 6." */
    private static void letters() {
        CHECK.argumentRange("sign with a letter", NEW, 1, 6, (x, letter) -> x.sign(0, letter));
        CHECK.argumentRange("decree on a letter", NEW, 1, 6, (x, letter) -> x.decree(2, letter, 0, 0));
        CHECK.same("all letters in a word", 0, new SignReforms().sign(0, 123456));
        for (int word : new int[] {7, 8, 9, 17, 71, 171, 10, 101, 120, 1203, 77777777, 66666667, 66666670}) {
            CHECK.argument("sign with another letter: " + word, NEW, x -> x.sign(0, word));
        }
    }

    /** "A word is 1 to 8 letters" */
    private static void wordLengths() {
        int word = 0;
        int sum = 0;
        SignReforms x = new SignReforms();
        for (int length = 1; length <= 8; length++) {
            word = word * 10 + 6;
            sum += length;
            CHECK.same("sign of " + length + " letters", 0, x.sign(0, word));
            CHECK.same("letters of all words to " + length, sum, x.about(9));
        }
        for (int bad : new int[] {0, 111111111, 666666666, 123456123, 1111111111, 1666666666}) {
            CHECK.argument("sign of no letters or too many: " + bad, NEW, y -> y.sign(0, bad));
        }
    }

    /** "told as a number whose decimal digits they are (so 121 is the letters 1, 2, 1)" */
    private static void wordDigits() {
        SignReforms x = Towns.of("Rs0121.");
        CHECK.same("the word", 121, x.signOf(0, 1));
        CHECK.same("its letters", 3, x.about(9));
        CHECK.same("without the first and the last letter", 2, Towns.of("Rs0121.d1").right(0, 0));
        CHECK.same("without the middle letter", 11, Towns.of("Rs0121.d2").right(0, 0));
        for (int word : new int[] {-1, -6, -121, -66666666, Integer.MIN_VALUE, Integer.MAX_VALUE}) {
            CHECK.argument("sign of no such digits: " + word, NEW, y -> y.sign(0, word));
        }
    }

    /** "There are at most 8 signs, numbered from 0." */
    private static void mostSigns() {
        int[] words = {6, 5, 4, 3, 2, 1, 66, 55};
        SignReforms x = new SignReforms();
        for (int s = 0; s < 8; s++) {
            CHECK.same("sign " + s, 0, x.sign(3, words[s]));
            CHECK.same("signs", s + 1, x.about(0));
        }
        for (int s = 0; s < 8; s++) {
            CHECK.same("word of sign " + s, words[s], x.signOf(s, 1));
        }
        CHECK.indexRange("signOf in 8 signs", TermsEdgeTest::eightSigns, 0, 7, (y, s) -> y.signOf(s, 0));
        CHECK.state("a ninth sign", TermsEdgeTest::eightSigns, y -> y.sign(0, 66));
    }

    private static SignReforms eightSigns() {
        return Towns.of("Rs01.s02.s03.s04.s11.s12.s13.s14.");
    }

    /** "A sign is of a guild (0 to 3)" */
    private static void guilds() {
        CHECK.indexRange("sign of a guild", NEW, 0, 3, (x, g) -> x.sign(g, 1));
        for (int g = 0; g <= 3; g++) {
            SignReforms x = new SignReforms();
            x.sign(g, 12);
            CHECK.same("guild of the sign", g, x.signOf(0, 0));
            CHECK.same("signs of the guild", 1, x.guildOf(g, 0));
        }
    }

    /** "has a word, which never changes" */
    private static void wordsNeverChange() {
        SignReforms x = Towns.of("Rs012233456.d1");
        CHECK.same("behind a decree", 12233456, x.signOf(0, 1));
        x.paint(0);
        CHECK.same("behind paint", 12233456, x.signOf(0, 1));
        x.decree(2, 2, 0, 0);
        x.decree(1, 2, 3, 6);
        x.paint(0);
        x.months(1);
        x.revoke(1);
        CHECK.same("behind more of them", 12233456, x.signOf(0, 1));
        CHECK.same("letters of the word", 8, x.about(9));
        CHECK.same("right by what is left of them", 263456, x.right(0, 0));
    }

    /** "what is painted on it, at first its right spelling as it is then" */
    private static void paintedAtFirst() {
        CHECK.same("without decrees", 11223344, Towns.of("Rs011223344.").signOf(0, 2));
        CHECK.same("one letter is left", 4, Towns.of("Rd1d2d3o4s011223344.").signOf(0, 2));
        CHECK.same("as it is then, not as it is later", 2233, Towns.of("Rd1s0112233.d2").signOf(0, 2));
        CHECK.same("as it is then, not as it was", 112233, Towns.of("Rd1r0s0112233.d2").signOf(0, 2));
    }

    /** "At most 10 decrees are in force, numbered from 0 by age" */
    private static void mostDecrees() {
        SignReforms x = new SignReforms();
        for (int k = 0; k < 10; k++) {
            CHECK.same("decree " + k, 0, x.decree(0, 1 + k % 6, 0, 0));
            CHECK.same("decrees", k + 1, x.about(1));
            x.months(1);
        }
        for (int k = 0; k < 10; k++) {
            CHECK.same("letter of decree " + k, 1 + k % 6, x.decreeOf(k, 1));
            CHECK.same("month of decree " + k, k, x.decreeOf(k, 4));
        }
        Supplier<SignReforms> full = () -> Towns.of("Rd1d2d3d4d5d6d1d2d3d4");
        CHECK.indexRange("decreeOf in 10 decrees", full, 0, 9, (y, k) -> y.decreeOf(k, 0));
        CHECK.state("an eleventh decree", full, y -> y.decree(0, 1, 0, 0));
        x.revoke(3);
        CHECK.same("a decree when one was revoked", 0, x.decree(2, 6, 0, 0));
        CHECK.same("it is the last one", 2, x.decreeOf(9, 0));
    }

    /** "when one is revoked, those behind it get numbers that are 1 less" */
    private static void decreesBehindTheRevokedOne() {
        for (int revoked = 0; revoked < 10; revoked++) {
            SignReforms x = Towns.of("Rj111m01j112m01j113m01j114m01j115m01j116m01j121m01j122m01j123m01j124m01");
            CHECK.same("revoke(" + revoked + ")", 0, x.revoke(revoked));
            CHECK.same("decrees", 9, x.about(1));
            for (int k = 0; k < 9; k++) {
                int was = k < revoked ? k : k + 1;
                CHECK.same("b of decree " + k, 1 + was / 6, x.decreeOf(k, 2));
                CHECK.same("c of decree " + k, 1 + was % 6, x.decreeOf(k, 3));
                CHECK.same("month of decree " + k, was, x.decreeOf(k, 4));
            }
        }
        CHECK.index("the last number behind revoke", () -> Towns.of("Rd1d2r0"), x -> x.decreeOf(1, 0));
        CHECK.index("the only decree behind revoke", () -> Towns.of("Rd1r0"), x -> x.decreeOf(0, 0));
    }

    /** "0: each letter a is dropped" */
    private static void lettersDropped() {
        spelled("12", "d1", 2);
        spelled("21", "d1", 2);
        spelled("212", "d1", 22);
        spelled("11111112", "d1", 2);
        spelled("21111111", "d1", 2);
        spelled("12121212", "d1", 2222);
        spelled("23456", "d1", 23456);
        spelled("65", "d6", 5);
        refused("Rs01.", 0, 1, 0, 0, 1);
        refused("Rs011111111.", 0, 1, 0, 0, 1);
    }

    /** "where a letter a is just ahead of a letter b, both become one letter c" */
    private static void lettersJoined() {
        spelled("12", "j123", 3);
        spelled("412", "j123", 43);
        spelled("124", "j123", 34);
        spelled("21", "j123", 21);
        spelled("1", "j123", 1);
        spelled("2", "j123", 2);
        spelled("142", "j123", 142);
        spelled("112", "j123", 13);
        spelled("122", "j123", 32);
        spelled("121", "j123", 31);
        spelled("12121212", "j123", 3333);
        spelled("66", "j666", 6);
    }

    /** "(and it is read on behind both: the c is not looked at again)" */
    private static void joinedLetterIsNotLookedAtAgain() {
        spelled("11", "j111", 1);
        spelled("111", "j111", 11);
        spelled("1111", "j111", 11);
        spelled("11111", "j111", 111);
        spelled("11111111", "j111", 1111);
        spelled("122", "j121", 12);
        spelled("112", "j122", 12);
        spelled("1122", "j121", 112);
        spelled("1122", "j122", 122);
        spelled("1212", "j121", 11);
        spelled("111", "j112", 21);
    }

    /** "2: of each row of letters a, one behind the other, one is left." */
    private static void doubledLetters() {
        spelled("1", "o1", 1);
        spelled("11", "o1", 1);
        spelled("11111111", "o1", 1);
        spelled("112", "o1", 12);
        spelled("211", "o1", 21);
        spelled("12121", "o1", 12121);
        spelled("11211211", "o1", 12121);
        spelled("2211", "o1", 221);
        spelled("22", "o1", 22);
        spelled("66666", "o6", 6);
    }

    /** Told in both ways, and painted on a sign that comes behind the decrees. */
    private static void spelled(String word, String decrees, int due) {
        SignReforms x = Towns.of("Rs0" + word + "." + decrees);
        CHECK.same("right(0, 0) of " + word + " by " + decrees, due, x.right(0, 0));
        CHECK.same("right(0, 1) of " + word + " by " + decrees, due, x.right(0, 1));
        CHECK.same("painted for " + word + " behind " + decrees, due,
                Towns.of("R" + decrees + "s0" + word + ".").signOf(0, 2));
    }

    /** "(Letters that a kind does not need are 0.)" */
    private static void lettersNotNeeded() {
        SignReforms x = Towns.of("Rd6o5j123");
        CHECK.same("b of the kind 0", 0, x.decreeOf(0, 2));
        CHECK.same("c of the kind 0", 0, x.decreeOf(0, 3));
        CHECK.same("b of the kind 2", 0, x.decreeOf(1, 2));
        CHECK.same("c of the kind 2", 0, x.decreeOf(1, 3));
        for (int kind = 0; kind <= 2; kind += 2) {
            int k = kind;
            CHECK.argumentRange("b of the kind " + k, NEW, 0, 0, (y, b) -> y.decree(k, 1, b, 0));
            CHECK.argumentRange("c of the kind " + k, NEW, 0, 0, (y, c) -> y.decree(k, 1, 0, c));
        }
        CHECK.argumentRange("a of the kind 1", NEW, 1, 6, (y, a) -> y.decree(1, a, 1, 1));
        CHECK.argumentRange("b of the kind 1", NEW, 1, 6, (y, b) -> y.decree(1, 1, b, 1));
        CHECK.argumentRange("c of the kind 1", NEW, 1, 6, (y, c) -> y.decree(1, 1, 1, c));
    }

    /** "The right spelling of a sign is its word as the decrees [..] make it": without decrees, its word. */
    private static void rightWithoutDecrees() {
        for (String word : new String[] {"1", "11", "66666666", "12345612"}) {
            spelled(word, "", Integer.parseInt(word));
            spelled(word, "d1r0", Integer.parseInt(word));
        }
    }

    /** "the oldest first, make it, each of what those ahead of it left" */
    private static void rightByTheOldestFirst() {
        spelled("124", "d1j123", 24);
        spelled("124", "j123d1", 34);
        spelled("1234", "d2j135j546", 6);
        spelled("1234", "j546j135d2", 134);
        spelled("121", "o1d2", 11);
        spelled("121", "d2o1", 1);
    }

    /** "At most 10 decrees are in force": the first, the last and those between make the spelling. */
    private static void rightByTenDecrees() {
        spelled("11", "o1d6d6d6d6d6d6d6d6d6", 1);
        spelled("11", "d6d6d6d6d6d6d6d6d6o1", 1);
        spelled("12345612", "j123d6d6d6d6d6d6d6d6o3", 3453);
        spelled("11234566", "d1d1d1o2d3d4o6d5j266o5", 6);
        spelled("11111111", "j111j111j111d2d3d4d5d6o2o3", 1);
    }

    /** "are refused for the first of these reasons that would be so then" */
    private static void firstReason() {
        for (String signs : new String[] {"s012.s02.s11.", "s11.s012.s02.", "s012.s11.s02."}) {
            refused("R" + signs, 0, 1, 0, 0, 1);
        }
        for (String signs : new String[] {"s0113.s03.s311.", "s311.s0113.s03.", "s0113.s311.s03."}) {
            SignReforms x = Towns.of("R" + signs + "j112d1");
            CHECK.same("revoke(0) for the first reason", 1, x.revoke(0));
        }
        CHECK.same("a sign without letters", 1, Towns.of("Rd1s012.s02.").sign(0, 1));
    }

    private static void refused(String text, int kind, int a, int b, int c, int reason) {
        SignReforms x = Towns.of(text);
        String told = "(" + kind + ", " + a + ", " + b + ", " + c + ") behind " + text;
        int decrees = x.about(1);
        CHECK.same("why" + told, reason, x.why(kind, a, b, c));
        CHECK.same("decree" + told, reason, x.decree(kind, a, b, c));
        CHECK.same("decrees behind decree" + told, decrees + (reason == 0 ? 1 : 0), x.about(1));
    }

    private static final String[] SIX_SIGNS = {"s03.", "s04.", "s05.", "s033.", "s044.", "s055."};

    /** Eight signs: two more at their places among the six. */
    private static String eightSigns(int place, String sign, int otherPlace, String other) {
        StringBuilder text = new StringBuilder();
        int next = 0;
        for (int s = 0; s < 8; s++) {
            if (s == place) {
                text.append(sign);
            } else if (s == otherPlace) {
                text.append(other);
            } else {
                text.append(SIX_SIGNS[next++]);
            }
        }
        return text.toString();
    }

    /** "1: the right spelling of any sign would have no letters" */
    private static void anySignWithoutLetters() {
        for (int s = 0; s < 8; s++) {
            String signs = eightSigns(s, "s01.", (s + 1) % 8, "s02.");
            refused("R" + signs, 0, 1, 0, 0, 1);
            String joined = eightSigns(s, "s011.", (s + 1) % 8, "s02.");
            SignReforms x = Towns.of("R" + joined + "j116d1");
            CHECK.same("revoke(0) behind " + joined, 1, x.revoke(0));
            CHECK.same("decrees behind it", 2, x.about(1));
        }
        SignReforms x = Towns.of("Rd1");
        CHECK.same("a sign that has no letters", 1, x.sign(0, 11111111));
        CHECK.same("signs behind it", 0, x.about(0));
        CHECK.same("a sign that has one letter", 0, x.sign(0, 11111112));
    }

    /** "2: two signs of one guild would have the same right spelling" */
    private static void twoSignsOfOneGuild() {
        for (int s = 0; s < 8; s++) {
            for (int other = 0; other < 8; other++) {
                if (s != other) {
                    sameSpelling(s, other);
                }
            }
        }
        SignReforms x = Towns.of("Rs012.s13.d1");
        CHECK.same("right of a sign that comes as of one that is there", 2, x.sign(0, 112));
        CHECK.same("as of one of another guild", 0, x.sign(0, 113));
        CHECK.same("as of the last one", 2, x.sign(0, 3));
        CHECK.same("as the word of one that is there, which is not its right spelling", 0,
                Towns.of("Rs012.j121").sign(0, 122));
    }

    private static void sameSpelling(int s, int other) {
        refused("R" + eightSigns(s, "s012.", other, "s02."), 0, 1, 0, 0, 2);
        refused("R" + eightSigns(s, "s012.", other, "s12."), 0, 1, 0, 0, 0);
        String signs = eightSigns(s, "s012.", other, "s02.");
        CHECK.same("revoke(0) behind " + signs, 2, Towns.of("R" + signs + "j126d1").revoke(0));
        String ofTwo = eightSigns(s, "s012.", other, "s12.");
        CHECK.same("revoke(0) behind " + ofTwo, 0, Towns.of("R" + ofTwo + "j126d1").revoke(0));
    }

    /** "the least number of letters to be put in, taken out or changed to make one into the other" */
    private static void howFarApart() {
        apart("1", "1", 0);
        apart("12345612", "12345612", 0);
        apart("1", "2", 1);
        apart("2", "12", 1);
        apart("2", "23", 1);
        apart("13", "123", 1);
        apart("1", "11111111", 7);
        apart("1", "22222222", 8);
        apart("11111111", "22222222", 8);
        apart("12345612", "23456121", 2);
        apart("12", "21", 2);
        apart("123456", "654321", 6);
        apart("11112222", "22221111", 8);
        apart("1212", "2121", 2);
    }

    private static void apart(String word, String other, int due) {
        SignReforms x = Towns.of("Rs0" + word + ".s1" + other + ".");
        CHECK.same("apart of " + word + " and " + other, due, x.apart(0, 1));
        CHECK.same("apart of " + other + " and " + word, due, x.apart(1, 0));
    }

    /** "A sign is wrong if what is painted on it is not its right spelling." */
    private static void wrong() {
        CHECK.same("no decrees", 0, Towns.of("Rs012.").signOf(0, 3));
        CHECK.same("a letter less", 1, Towns.of("Rs012.d1").signOf(0, 3));
        CHECK.same("a letter more", 1, Towns.of("Rd1s012.r0").signOf(0, 3));
        CHECK.same("another letter of as many", 1, Towns.of("Rd1s0123.r0d2").signOf(0, 3));
        CHECK.same("a decree that does not matter", 0, Towns.of("Rs012.d3").signOf(0, 3));
        CHECK.same("the decree is revoked", 0, Towns.of("Rs012.d1r0").signOf(0, 3));
        CHECK.same("another decree makes the same", 0, Towns.of("Rs0122.d1p0r0j122").signOf(0, 3));
        CHECK.same("painted anew", 0, Towns.of("Rs012.d1p0").signOf(0, 3));
    }

    /** "To paint a sign anew costs setting 0 for each of the letters by which both are apart; then [it] is right." */
    private static void costOfPaint() {
        int[][] due = {{0, 0, 0}, {1, 1, 8}, {20, 20, 160}};
        for (int[] d : due) {
            SignReforms x = Towns.of("Rs012.s112121212.s23.d1j226j226j665d6d4");
            x.set(0, d[0]);
            CHECK.same("cost of a letter for " + d[0], d[1], x.paint(0));
            CHECK.same("cost of eight letters for " + d[0], d[2], x.paint(1));
            CHECK.same("cost of no letters for " + d[0], 0, x.paint(2));
            CHECK.same("wrong signs then", 0, x.about(2));
            CHECK.same("painted then", 2, x.signOf(0, 2));
            CHECK.same("painted then", 5, x.signOf(1, 2));
            CHECK.same("painted then", 3, x.signOf(2, 2));
        }
    }

    /** "the month (0 at first) becomes 1 more; then, if there is no amnesty, for each wrong sign [..] fined" */
    private static void monthsWithoutAmnesty() {
        SignReforms x = new SignReforms();
        CHECK.same("the month at first", 0, x.about(3));
        CHECK.same("fines without signs", 0, x.months(1));
        CHECK.same("the month", 1, x.about(3));
        CHECK.same("fines without a wrong sign", 0, Towns.of("Rs012.d3").months(60));
        SignReforms wrong = Towns.of("Rs012.s112.s312.d1");
        CHECK.same("fines of a month", 9, wrong.months(1));
        CHECK.same("of a guild", 3, wrong.guildOf(3, 2));
        CHECK.same("of a guild without signs", 0, wrong.guildOf(2, 2));
    }

    /** "if there is one, it lasts a month less" */
    private static void monthsOfAmnesty() {
        for (int n = 1; n <= 9; n++) {
            SignReforms x = Towns.of("Rs012.d1y" + n);
            for (int left = n - 1; left >= 0; left--) {
                CHECK.same("fines of a month of amnesty", 0, x.months(1));
                CHECK.same("months of it that are left", left, x.about(4));
            }
            CHECK.same("fines of the month behind it", 3, x.months(1));
            CHECK.same("months of it that are left", 0, x.about(4));
            SignReforms y = Towns.of("Rs012.d1y" + n);
            CHECK.same("fines of 60 months with " + n + " of amnesty", 3 * (60 - n), y.months(60));
        }
    }

    /** "An amnesty can be given for 1 to 9 months if there is none" */
    private static void amnestyIfThereIsNone() {
        for (int n = 1; n <= 9; n++) {
            String text = "Rs012.d1y" + n;
            CHECK.state("amnesty in one of " + n + " months", () -> Towns.of(text), x -> x.amnesty(1));
        }
        CHECK.state("in the last month of one", () -> Towns.of("Ry9m08"), x -> x.amnesty(1));
    }

    /** "the latest one was given at least 12 months ago" */
    private static void amnestyTwelveMonthsAgo() {
        CHECK.state("amnesty in the month of a past one", () -> Towns.of("Ry1m01"), x -> x.amnesty(1));
        CHECK.state("11 months behind one", () -> Towns.of("Ry1m11"), x -> x.amnesty(1));
        CHECK.accepted("12 months behind one", () -> Towns.of("Ry1m12"), x -> x.amnesty(1));
        CHECK.accepted("13 months behind one", () -> Towns.of("Ry1m13"), x -> x.amnesty(1));
        CHECK.accepted("12 months behind one of 9", () -> Towns.of("Rm05y9m12"), x -> x.amnesty(9));
        CHECK.state("11 months behind the latest of two", () -> Towns.of("Ry1m12y1m11"), x -> x.amnesty(1));
        CHECK.accepted("12 months behind the latest of two", () -> Towns.of("Ry1m12y1m12"), x -> x.amnesty(1));
    }

    /** "or none was yet" */
    private static void amnestyIfNoneWasYet() {
        CHECK.accepted("amnesty in the month 0", NEW, x -> x.amnesty(1));
        CHECK.accepted("amnesty in the month 1", () -> Towns.of("Rm01"), x -> x.amnesty(1));
        CHECK.accepted("amnesty when the only one is undone", () -> {
            SignReforms x = Towns.of("Rm05");
            x.amnesty(9);
            x.undo();
            return x;
        }, x -> x.amnesty(1));
    }

    /** "0: coins for a letter, 0 to 20, at first 4; 1: the fine of a month, 0 to 20, at first 3." */
    private static void settings() {
        CHECK.same("coins for a letter at first", 4, new SignReforms().setting(0));
        CHECK.same("the fine at first", 3, new SignReforms().setting(1));
        CHECK.argumentRange("coins for a letter", NEW, 0, 20, (x, v) -> x.set(0, v));
        CHECK.argumentRange("the fine", NEW, 0, 20, (x, v) -> x.set(1, v));
    }
}
