import java.util.function.Supplier;

/** Promises 11 and 15 to 18: settings, paint, months and amnesties. */
public final class PaintTest {
    private static final Check CHECK = new Check("PaintTest");

    public static void main(String[] args) {
        promise11Setting();
        promise15Paint();
        promise15PaintThrows();
        promise16Months();
        promise16MonthsThrows();
        promise17Amnesty();
        promise17AmnestyThrows();
        promise18Set();
        CHECK.end();
    }

    private static void promise11Setting() {
        SignReforms x = new SignReforms();
        CHECK.same("setting(0)", 4, x.setting(0));
        CHECK.same("setting(1)", 3, x.setting(1));
        x.set(1, 20);
        CHECK.same("setting(0)", 4, x.setting(0));
        CHECK.same("setting(1)", 20, x.setting(1));
        CHECK.argument("setting(-1)", SignReforms::new, y -> y.setting(-1));
        CHECK.argument("setting(2)", SignReforms::new, y -> y.setting(2));
    }

    private static void promise15Paint() {
        SignReforms x = Towns.of("Rs3123456.s3654.d1d2d4");
        CHECK.same("coins of three letters", 12, x.paint(0));
        CHECK.same("painted", 356, x.signOf(0, 2));
        CHECK.same("wrong", 0, x.signOf(0, 3));
        CHECK.same("times", 1, x.signOf(0, 6));
        CHECK.same("paid by the guild", 12, x.guildOf(3, 3));
        CHECK.same("paid", 12, x.about(7));
        CHECK.same("coins when nothing is wrong", 0, x.paint(0));
        CHECK.same("times", 2, x.signOf(0, 6));
        x.set(0, 20);
        CHECK.same("coins of a letter for 20", 20, x.paint(1));
        x.revoke(0);
        x.revoke(0);
        x.set(0, 0);
        CHECK.same("coins of letters for nothing", 0, x.paint(0));
        CHECK.same("painted", 12356, x.signOf(0, 2));
        CHECK.same("painted", 65, x.signOf(1, 2));
        CHECK.same("paid by the guild", 32, x.guildOf(3, 3));
        CHECK.same("paid", 32, x.about(7));
        CHECK.same("times of the other one", 1, x.signOf(1, 6));
    }

    private static void promise15PaintThrows() {
        CHECK.index("paint(0) without signs", SignReforms::new, x -> x.paint(0));
        CHECK.index("paint(-1)", () -> Towns.of("Rs012.d1"), x -> x.paint(-1));
        CHECK.index("paint(1)", () -> Towns.of("Rs012.d1"), x -> x.paint(1));
        CHECK.index("paint(8)", () -> Towns.of("Rs012.d1"), x -> x.paint(8));
    }

    private static void promise16Months() {
        SignReforms x = Towns.of("Rs012.s012345.s113.s156.d1");
        CHECK.same("fines of a month", 9, x.months(1));
        CHECK.same("month", 1, x.about(3));
        CHECK.same("fines of 60 months", 540, x.months(60));
        CHECK.same("month", 61, x.about(3));
        CHECK.same("fines so far", 549, x.about(6));
        CHECK.same("fines of a sign", 183, x.signOf(2, 7));
        CHECK.same("fines of a sign that is not wrong", 0, x.signOf(3, 7));
        CHECK.same("fines of a guild", 366, x.guildOf(0, 2));
        CHECK.same("fines of a guild", 183, x.guildOf(1, 2));
        x.paint(0);
        x.set(1, 20);
        CHECK.same("fines of a month", 40, x.months(1));
        x.set(1, 0);
        CHECK.same("fines of nothing", 0, x.months(5));
        CHECK.same("fines of a sign stay", 183, x.signOf(0, 7));
        CHECK.same("fines so far", 589, x.about(6));
        x.set(1, 1);
        x.amnesty(2);
        CHECK.same("fines behind an amnesty", 2, x.months(3));
        CHECK.same("amnesty left", 0, x.about(4));
        CHECK.same("month", 70, x.about(3));
    }

    private static void promise16MonthsThrows() {
        Supplier<SignReforms> maker = () -> Towns.of("Rs012.d1y3");
        CHECK.argument("months(0)", maker, x -> x.months(0));
        CHECK.argument("months(-1)", maker, x -> x.months(-1));
        CHECK.argument("months(61)", maker, x -> x.months(61));
        CHECK.argument("months of the largest int", maker, x -> x.months(Integer.MAX_VALUE));
    }

    private static void promise17Amnesty() {
        SignReforms x = Towns.of("Rs012.s013.s256.d1m03");
        CHECK.same("amnesty", 2, x.amnesty(9));
        CHECK.same("amnesty left", 9, x.about(4));
        CHECK.same("amnesty given", 3, x.about(5));
        CHECK.same("no fines in it", 0, x.months(8));
        CHECK.same("amnesty left", 1, x.about(4));
        CHECK.same("fines behind it", 6, x.months(2));
        CHECK.same("amnesty left", 0, x.about(4));
        x.months(1);
        CHECK.same("month", 14, x.about(3));
        x.months(1);
        CHECK.same("amnesty 12 months behind", 2, x.amnesty(1));
        CHECK.same("amnesty given", 15, x.about(5));
        CHECK.same("no fines in it", 0, x.months(1));
        CHECK.same("amnesty in the month 0", 0, new SignReforms().amnesty(1));
    }

    private static void promise17AmnestyThrows() {
        Supplier<SignReforms> running = () -> Towns.of("Rs012.d1y3m02");
        Supplier<SignReforms> early = () -> Towns.of("Rs012.d1m01y3m11");
        for (Supplier<SignReforms> maker : java.util.List.of(running, early)) {
            CHECK.argument("amnesty(0)", maker, x -> x.amnesty(0));
            CHECK.argument("amnesty(10)", maker, x -> x.amnesty(10));
            CHECK.state("amnesty(1)", maker, x -> x.amnesty(1));
        }
        CHECK.argument("amnesty(0) that could be", SignReforms::new, x -> x.amnesty(0));
        CHECK.argument("amnesty(10) that could be", SignReforms::new, x -> x.amnesty(10));
        CHECK.argument("amnesty(-1)", SignReforms::new, x -> x.amnesty(-1));
        CHECK.state("amnesty in the month of another", () -> Towns.of("Ry1"), x -> x.amnesty(1));
        CHECK.same("amnesty a month later", 1, Towns.of("Rs012.d1m01y3m12").amnesty(1));
    }

    private static void promise18Set() {
        SignReforms x = Towns.of("Rs0123.d1");
        CHECK.same("set(0, 0)", 4, x.set(0, 0));
        CHECK.same("cost", 0, x.signOf(0, 5));
        CHECK.same("set(0, 20)", 0, x.set(0, 20));
        CHECK.same("cost", 20, x.about(11));
        CHECK.same("set(1, 20)", 3, x.set(1, 20));
        CHECK.same("set(1, 0)", 20, x.set(1, 0));
        CHECK.same("set(1, 0) again", 0, x.set(1, 0));
        CHECK.same("setting(0)", 20, x.setting(0));
        CHECK.same("five actions", 4, x.undo());
        Supplier<SignReforms> maker = () -> Towns.of("Rs0123.d1");
        CHECK.argument("set(-1, 1)", maker, y -> y.set(-1, 1));
        CHECK.argument("set(2, 1)", maker, y -> y.set(2, 1));
        CHECK.argument("set(0, -1)", maker, y -> y.set(0, -1));
        CHECK.argument("set(0, 21)", maker, y -> y.set(0, 21));
        CHECK.argument("set(1, -1)", maker, y -> y.set(1, -1));
        CHECK.argument("set(1, 21)", maker, y -> y.set(1, 21));
    }
}
