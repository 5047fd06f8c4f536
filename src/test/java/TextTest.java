import java.util.function.Supplier;

/** Promises 1 to 5: a new object and the text. */
public final class TextTest {
    private static final Check CHECK = new Check("TextTest");

    public static void main(String[] args) {
        promise1NewObject();
        promise2Append();
        promise3ClearText();
        promise4ErrorPosition();
        promise4WordsAndMonths();
        promise5LoadDoesTheCommands();
        promise5LoadLeavesOut();
        promise5LoadBeginsAnew();
        promise5LoadThrows();
        CHECK.end();
    }

    private static void promise1NewObject() {
        SignReforms x = new SignReforms();
        for (int what = 0; what <= 11; what++) {
            CHECK.same("about(" + what + ") of a new object", what == 5 ? -1 : 0, x.about(what));
        }
        CHECK.same("a letter's coins at first", 4, x.setting(0));
        CHECK.same("a month's fine at first", 3, x.setting(1));
        CHECK.same("errorPosition of no text", 0, x.errorPosition());
        CHECK.same("clearText of a new object", 0, x.clearText());
        CHECK.state("undo in a new object", SignReforms::new, y -> y.undo());
        CHECK.state("restore(0) in a new object", SignReforms::new, y -> y.restore(0));
        CHECK.state("restore(1) in a new object", SignReforms::new, y -> y.restore(1));
    }

    private static void promise2Append() {
        SignReforms x = new SignReforms();
        for (int i = 0; i < 120; i++) {
            CHECK.same("append of character " + i, i + 1, x.append(i % 2 == 0 ? 0 : 255));
        }
        Supplier<SignReforms> full = () -> {
            SignReforms y = new SignReforms();
            for (int i = 0; i < 120; i++) {
                y.append('R');
            }
            return y;
        };
        CHECK.state("append to 120 characters", full, y -> y.append('R'));
        CHECK.argument("append(-1) to 120 characters", full, y -> y.append(-1));
        CHECK.argument("append(-1)", SignReforms::new, y -> y.append(-1));
        CHECK.argument("append(256)", SignReforms::new, y -> y.append(256));
        CHECK.argument("append of the largest int", SignReforms::new, y -> y.append(Integer.MAX_VALUE));
    }

    private static void promise3ClearText() {
        SignReforms x = Towns.write(new SignReforms(), "Rd1");
        CHECK.same("clearText", 3, x.clearText());
        CHECK.same("clearText again", 0, x.clearText());
        CHECK.same("errorPosition behind clearText", 0, x.errorPosition());
        CHECK.same("append behind clearText", 1, x.append('R'));
        CHECK.same("errorPosition of R", -1, x.errorPosition());
        CHECK.same("the decrees", 0, x.about(1));
    }

    private static void promise4ErrorPosition() {
        due("", 0);
        due("R", -1);
        due("r", 0);
        due("d1", 0);
        due(" R", 0);
        due("R ", 1);
        due("RR", 1);
        due("RD1", 1);
        due("R1", 1);
        due("Rx", 1);
        due("Rd", 2);
        due("Rd1", -1);
        due("Rd6", -1);
        due("Rd0", 2);
        due("Rd7", 2);
        due("Rd12", 3);
        due("Ro1", -1);
        due("Ro6", -1);
        due("Ro0", 2);
        due("Ro7", 2);
        due("Rj", 2);
        due("Rj1", 3);
        due("Rj16", 4);
        due("Rj161", -1);
        due("Rj061", 2);
        due("Rj101", 3);
        due("Rj170", 3);
        due("Rj167", 4);
        due("Rr0", -1);
        due("Rr9", -1);
        due("Rr", 2);
        due("Rra", 2);
        due("Rr:", 2);
        due("Rr/", 2);
        due("Rp0", -1);
        due("Rp7", -1);
        due("Rp8", 2);
        due("Rp", 2);
        due("Ry1", -1);
        due("Ry9", -1);
        due("Ry0", 2);
        due("Ry:", 2);
        due("Ry", 2);
        due("Rd1o2j345r9p7m60y9s3123456.", -1);
        due("Rd1o2j345r9p7m60y9s3123456.\u00e9", 27);
        due("R\u0000", 1);
        due("R\u00ff", 1);
    }

    private static void promise4WordsAndMonths() {
        due("Rs", 2);
        due("Rs0", 3);
        due("Rs4", 2);
        due("Rs01.", -1);
        due("Rs36.", -1);
        due("Rs0.", 3);
        due("Rs00.", 3);
        due("Rs07.", 3);
        due("Rs01", 4);
        due("Rs01d", 4);
        due("Rs012345612.", -1);
        due("Rs012345612", 11);
        due("Rs0123456123.", 11);
        due("Rs010.", 4);
        due("Rs01..", 5);
        due("Rm", 2);
        due("Rm0", 3);
        due("Rm00", 3);
        due("Rm01", -1);
        due("Rm09", -1);
        due("Rm10", -1);
        due("Rm59", -1);
        due("Rm60", -1);
        due("Rm61", 3);
        due("Rm6", 3);
        due("Rm7", 2);
        due("Rm1a", 3);
        due("Rm1:", 3);
        due("Rm0:", 3);
        due("Rm1/", 3);
        due("Rm011", 4);
    }

    private static void due(String text, int position) {
        SignReforms x = Towns.write(new SignReforms(), text);
        CHECK.same("errorPosition of " + text, position, x.errorPosition());
        CHECK.same("errorPosition of " + text + " once more", position, x.errorPosition());
    }

    private static void promise5LoadDoesTheCommands() {
        SignReforms x = Towns.write(new SignReforms(), "Rs0112233.s112121212.m02o1j125d3m01p0y4m01r2");
        CHECK.same("load", 0, x.load());
        CHECK.same("signs", 2, x.about(0));
        CHECK.same("decrees", 2, x.about(1));
        CHECK.same("month", 4, x.about(3));
        CHECK.same("amnesty left", 3, x.about(4));
        CHECK.same("amnesty given", 3, x.about(5));
        CHECK.same("fines", 6, x.about(6));
        CHECK.same("paint", 20, x.about(7));
        CHECK.same("word", 112233, x.signOf(0, 1));
        CHECK.same("word", 12121212, x.signOf(1, 1));
        CHECK.same("guild", 1, x.signOf(1, 0));
        CHECK.same("painted", 52, x.signOf(0, 2));
        CHECK.same("right", 5233, x.right(0, 0));
        CHECK.same("right", 5555, x.right(1, 1));
        int[] first = {2, 1, 0, 0, 2};
        int[] second = {1, 1, 2, 5, 2};
        for (int what = 0; what <= 4; what++) {
            CHECK.same("decreeOf(0, " + what + ")", first[what], x.decreeOf(0, what));
            CHECK.same("decreeOf(1, " + what + ")", second[what], x.decreeOf(1, what));
        }
        String all = View.of(x);
        CHECK.same("load once more", 0, x.load());
        CHECK.same("the same text loads the same", all, View.of(x));

        SignReforms full = new SignReforms();
        full.append('R');
        for (int i = 0; i < 39; i++) {
            Towns.write(full, "m60");
        }
        Towns.write(full, "d4");
        CHECK.same("load of 120 characters", 0, full.load());
        CHECK.same("its month", 2340, full.about(3));
        CHECK.same("its decree", 4, full.decreeOf(0, 1));
        CHECK.same("its decree's month", 2340, full.decreeOf(0, 4));
    }

    private static void promise5LoadLeavesOut() {
        leftOut("R", 0);
        leftOut("Rd1s0111.", 1);
        leftOut("Rs012.s012.s112.", 1);
        leftOut("Rs01.d1", 1);
        leftOut("Rs01.d1m01p1r0", 3);
        leftOut("Rs01.s02.s03.s04.s05.s06.s11.s12.s13.", 1);
        leftOut("Rd1d1d1d1d1d1d1d1d1d1d1o2", 2);
        leftOut("Ry9y1m12y1", 1);
        leftOut("Ry1m11y1m01y1", 1);
        leftOut("Rp0", 1);
        leftOut("Rs011.j112d1r0", 1);
    }

    private static void leftOut(String text, int due) {
        SignReforms x = Towns.write(new SignReforms(), text);
        CHECK.same("load of " + text, due, x.load());
        CHECK.same("refusals behind load of " + text, 0, x.about(8));
    }

    private static void promise5LoadBeginsAnew() {
        SignReforms x = Towns.write(new SignReforms(), "Rs01.m01");
        x.set(0, 9);
        x.set(1, 9);
        x.sign(0, 222);
        x.sign(0, 222);
        x.decree(0, 3, 0, 0);
        x.amnesty(9);
        x.months(5);
        x.save(0);
        x.save(1);
        x.load();
        CHECK.same("as loaded in a new object", View.ofAll(Towns.of("Rs01.m01")), View.ofAll(x));
    }

    private static void promise5LoadThrows() {
        Supplier<SignReforms> wrongText = () -> {
            SignReforms x = Towns.write(new SignReforms(), "Rs01.d2d");
            x.sign(2, 345);
            x.decree(0, 3, 0, 0);
            x.months(3);
            x.save(1);
            x.paint(0);
            return x;
        };
        CHECK.state("load of a text that ends too soon", wrongText, x -> x.load());
        CHECK.state("load of no text", SignReforms::new, x -> x.load());
        CHECK.state("load of a wrong text", () -> Towns.write(new SignReforms(), "Rd1d0"), x -> x.load());
    }
}
