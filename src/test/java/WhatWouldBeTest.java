import java.util.function.Supplier;

/** Promises 22 to 24: how far signs are apart, what a purse pays, when fines are more than paint. */
public final class WhatWouldBeTest {
    private static final Check CHECK = new Check("WhatWouldBeTest");

    public static void main(String[] args) {
        promise22Apart();
        promise22Throws();
        promise23Payable();
        promise23Throws();
        promise24WorthIn();
        promise24Throws();
        theyChangeNothing();
        CHECK.end();
    }

    private static void promise22Apart() {
        apart("1", "2", 1);
        apart("1", "12345612", 7);
        apart("3", "12451245", 8);
        apart("123456", "123456", 0);
        apart("12345", "23451", 2);
        apart("12345", "13245", 2);
        apart("112233", "52", 5);
        apart("12121212", "21212121", 2);
        apart("66666666", "11111111", 8);
        apart("123", "1263", 1);
        apart("123", "13", 1);
        apart("1234", "5126", 3);
        apart("11", "111111", 4);
        SignReforms x = Towns.of("Rs0123.s1123456.d4d5m01p1d6");
        CHECK.same("right spellings, not words or what is painted", 0, x.apart(0, 1));
        CHECK.same("a sign and itself", 0, x.apart(1, 1));
    }

    private static void apart(String word, String other, int due) {
        SignReforms x = Towns.of("Rs0" + word + ".s1" + other + ".");
        CHECK.same("apart of " + word + " and " + other, due, x.apart(0, 1));
        CHECK.same("apart of " + other + " and " + word, due, x.apart(1, 0));
    }

    private static void promise22Throws() {
        Supplier<SignReforms> maker = () -> Towns.of("Rs012.s03.");
        CHECK.index("apart(-1, 0)", maker, x -> x.apart(-1, 0));
        CHECK.index("apart(2, 0)", maker, x -> x.apart(2, 0));
        CHECK.index("apart(0, -1)", maker, x -> x.apart(0, -1));
        CHECK.index("apart(0, 2)", maker, x -> x.apart(0, 2));
        CHECK.index("apart(0, 0) without signs", SignReforms::new, x -> x.apart(0, 0));
    }

    private static void promise23Payable() {
        SignReforms x = Towns.of("Rs0111222.s112.s2112.s35.s2111.d1d5");
        // right: 222, 2, 2, and 5 and 111 have no other letters: both decrees are refused
        CHECK.same("no sign is wrong", 0, x.payable(999));
        SignReforms y = Towns.of("Rs0111222.s112.s2112.s356.s31112.d1");
        int[][] due = {{0, 0}, {3, 0}, {4, 1}, {11, 1}, {12, 2}, {23, 2}, {24, 3}, {35, 3}, {36, 4}, {999, 4}};
        for (int[] d : due) {
            CHECK.same("payable(" + d[0] + ")", d[1], y.payable(d[0]));
        }
        y.set(0, 0);
        CHECK.same("payable(0) of paint for nothing", 4, y.payable(0));
        y.set(0, 20);
        CHECK.same("payable(19)", 0, y.payable(19));
        CHECK.same("payable(59)", 1, y.payable(59));
        CHECK.same("payable(60)", 2, y.payable(60));
        y.paint(1);
        CHECK.same("payable(59) when the cheapest is painted", 1, y.payable(59));
        CHECK.same("payable(160)", 3, y.payable(160));
    }

    private static void promise23Throws() {
        Supplier<SignReforms> maker = () -> Towns.of("Rs012.d1");
        CHECK.argument("payable(-1)", maker, x -> x.payable(-1));
        CHECK.argument("payable(1000)", maker, x -> x.payable(1000));
    }

    private static void promise24WorthIn() {
        SignReforms x = Towns.of("Rs01234.s156.d1d2d3");
        CHECK.same("12 coins by 3", 5, x.worthIn(0));
        CHECK.same("a sign that is not wrong", -1, x.worthIn(1));
        x.set(1, 5);
        CHECK.same("12 coins by 5", 3, x.worthIn(0));
        x.set(1, 13);
        CHECK.same("12 coins by 13", 1, x.worthIn(0));
        x.set(1, 12);
        CHECK.same("12 coins by 12", 2, x.worthIn(0));
        x.amnesty(4);
        CHECK.same("12 coins by 12 behind 4 months", 6, x.worthIn(0));
        x.months(3);
        CHECK.same("12 coins by 12 behind a month", 3, x.worthIn(0));
        x.set(0, 0);
        CHECK.same("no coins by 12 behind a month", 2, x.worthIn(0));
        CHECK.same("a sign that is not wrong, for no coins", -1, x.worthIn(1));
        x.set(1, 0);
        CHECK.same("no fines", -1, x.worthIn(0));
        SignReforms y = Towns.of("Rs012121212.j123j333j334d5d5");
        CHECK.same("letters", 8, y.signOf(0, 4));
        y.set(0, 20);
        y.set(1, 1);
        CHECK.same("160 coins by 1", 161, y.worthIn(0));
        y.amnesty(9);
        CHECK.same("160 coins by 1 behind 9 months", 170, y.worthIn(0));
    }

    private static void promise24Throws() {
        Supplier<SignReforms> maker = () -> Towns.of("Rs012.d1");
        CHECK.index("worthIn(-1)", maker, x -> x.worthIn(-1));
        CHECK.index("worthIn(1)", maker, x -> x.worthIn(1));
        CHECK.index("worthIn(0) without signs", SignReforms::new, x -> x.worthIn(0));
    }

    private static void theyChangeNothing() {
        String text = "Rs0111222.s112.s2112.s356.s31112.d1y3m01";
        SignReforms x = Towns.of(text);
        x.apart(0, 3);
        x.payable(999);
        x.worthIn(0);
        CHECK.same("behind apart, payable and worthIn", View.ofAll(Towns.of(text)), View.ofAll(x));
    }
}
