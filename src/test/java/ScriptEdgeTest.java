import java.util.function.Supplier;

/** The edges in the sentences of promise 25. Each method quotes the sentence that it holds to. */
public final class ScriptEdgeTest {
    private static final Check CHECK = new Check("ScriptEdgeTest");
    private static final String[] TOWNS = {
        "R",
        "Rs0112233.s112121212.s1345.s26655.o1j125d3m02",
        "Rs012.s02.s013.s112.s111.s26.s3123456.s31.d6j112o1r0m60p1y9",
        "Rs011.s12.j112d1o3o4o5o6o3o4o5o6m12y1m11",
        "Rs012.s112.s212.s312.d1d2d3d4d5d6o1o2o3o4o5o6m33",
    };

    public static void main(String[] args) {
        oneToFourCommands();
        highestGroupFirst();
        zerosAheadOfIt();
        firstThatFails();
        noneIfAllSucceed();
        onACopy();
        decrees();
        joins();
        revokings();
        paints();
        months();
        amnesties();
        apartByAtMost();
        wrongAtMost();
        finesAtLeast();
        otherGroups();
        allGroups();
        groupsBehindGroups();
        outOfRange();
        negative();
        tooManyDigits();
        CHECK.end();
    }

    private static void script(String text, int n, long script, int due) {
        SignReforms x = Towns.of(text);
        CHECK.same("runScript(" + n + ", " + script + ") behind " + text, due, x.runScript(n, script));
    }

    private static void succeeds(String text, int group) {
        script(text, 1, group, -1);
    }

    private static void fails(String text, int group) {
        script(text, 1, group, 0);
    }

    /** "A script has 1 to 4 commands" */
    private static void oneToFourCommands() {
        script("R", 1, 8000, -1);
        script("R", 2, 80008000, -1);
        script("R", 3, 800080008000L, -1);
        script("R", 4, 8000800080008000L, -1);
        script("R", 4, 8000800080000000L, 3);
    }

    /** "the first command is the highest group of the number" */
    private static void highestGroupFirst() {
        script("Rs012.", 2, 10108001, -1);
        script("Rs012.", 2, 80001010, -1);
        script("Rs012.", 2, 10108000, 1);
        script("Rs012.", 4, 1010800140008000L, -1);
        script("Rs012.", 4, 8000400080011010L, -1);
        script("Rs012.", 4, 8001101040008001L, -1);
    }

    /** "(with zeros before it, if it has fewer digits)": no command begins with 0. */
    private static void zerosAheadOfIt() {
        script("R", 2, 8000, 0);
        script("R", 4, 800080008000L, 0);
        script("R", 4, 8000, 0);
        script("R", 1, 800, 0);
        script("R", 1, 0, 0);
        script("R", 4, 0, 0);
    }

    /** "Returns the index, from 0, of the first command that fails" */
    private static void firstThatFails() {
        script("R", 4, 9999800080008000L, 0);
        script("R", 4, 8000999980008000L, 1);
        script("R", 4, 8000800099998000L, 2);
        script("R", 4, 8000800080009999L, 3);
        script("R", 4, 8000999999999999L, 1);
        script("R", 4, 9999999999999999L, 0);
    }

    /** "NONE if all succeed" */
    private static void noneIfAllSucceed() {
        script("Rs0123.", 4, 1010212330004000L, -1);
        script("Rs0123.", 4, 5060600970038009L, -1);
        script("Rs0123.", 4, 9000910092009300L, -1);
    }

    /** "Runs a script on a copy of the state." */
    private static void onACopy() {
        for (String text : TOWNS) {
            SignReforms x = Towns.of(text);
            x.runScript(4, 5060101040003000L);
            x.runScript(4, 4000300060092116L);
            x.runScript(3, 101012301020L);
            CHECK.same("all there is behind scripts in " + text, View.ofAll(Towns.of(text)), View.ofAll(x));
        }
    }

    /** "1 k a 0: decree() of the kind k, 0 or 2, with a; succeeds if it is given." */
    private static void decrees() {
        for (int a = 1; a <= 6; a++) {
            succeeds("R", 1000 + 10 * a);
            succeeds("R", 1200 + 10 * a);
            fails("Rs0" + a + ".", 1000 + 10 * a);
            fails("R", 1001 + 10 * a);
            fails("R", 1100 + 10 * a);
            fails("R", 1300 + 10 * a);
        }
        for (int group : new int[] {1000, 1070, 1080, 1090, 1200, 1270, 1280, 1290, 1900}) {
            fails("R", group);
        }
        fails("Rs012.s02.", 1010);
        fails("Rs022.s02.", 1220);
        succeeds("Rs022.s12.", 1220);
        succeeds("Rd1d1d1d1d1d1d1d1d1", 1010);
        fails("Rd1d1d1d1d1d1d1d1d1d1", 1010);
    }

    /** "2 a b c: decree(1, a, b, c); likewise." */
    private static void joins() {
        for (int group : new int[] {2111, 2666, 2123, 2161, 2616}) {
            succeeds("R", group);
        }
        for (int group : new int[] {2000, 2011, 2101, 2110, 2711, 2171, 2117, 2911, 2191, 2119, 2777}) {
            fails("R", group);
        }
        fails("Rs012.s02.", 2122);
        succeeds("Rs012.s02.", 2123);
        succeeds("Rd1d1d1d1d1d1d1d1d1", 2111);
        fails("Rd1d1d1d1d1d1d1d1d1d1", 2111);
    }

    /** "3 k 0 0: revoke(k); succeeds if it is revoked." */
    private static void revokings() {
        fails("R", 3000);
        succeeds("Rd1", 3000);
        fails("Rd1", 3100);
        succeeds("Rd1d1d1d1d1d1d1d1d1d1", 3900);
        fails("Rd1d1d1d1d1d1d1d1d1", 3900);
        fails("Rd1", 3010);
        fails("Rd1", 3001);
        fails("Rs011.j112d1", 3000);
        succeeds("Rs011.j112d1", 3100);
        fails("Rs012.s02.j126d1", 3000);
    }

    /** "4 s 0 0: paint(s)." */
    private static void paints() {
        fails("R", 4000);
        succeeds("Rs012.", 4000);
        fails("Rs012.", 4100);
        succeeds("Rs01.s02.s03.s04.s05.s06.s11.s12.", 4700);
        fails("Rs01.s02.s03.s04.s05.s06.s11.s12.", 4800);
        fails("Rs01.s02.s03.s04.s05.s06.s11.s12.", 4900);
        fails("Rs012.", 4010);
        fails("Rs012.", 4001);
        script("Rs012.s13.d1", 3, 800140008000L, -1);
        script("Rs012.s13.d1", 3, 800141008000L, 2);
    }

    /** "5 0 n n: months(nn)." */
    private static void months() {
        for (int n = 0; n <= 99; n++) {
            script("R", 1, 5000 + n, n >= 1 && n <= 60 ? -1 : 0);
            fails("R", 5100 + n);
        }
        script("Rs012.d1", 2, 50339099, -1);
        script("Rs012.d1", 2, 50329097, 1);
    }

    /** "6 0 0 n: amnesty(n)." */
    private static void amnesties() {
        for (int n = 0; n <= 9; n++) {
            script("R", 1, 6000 + n, n >= 1 ? -1 : 0);
            fails("R", 6010 + n);
            fails("R", 6100 + n);
            fails("Ry9", 6000 + n);
        }
        fails("Ry1m11", 6001);
        succeeds("Ry1m12", 6001);
        script("R", 2, 60016001, 1);
        script("R", 3, 600150126001L, -1);
        script("R", 3, 600150116001L, 2);
        script("Rs012.d1", 3, 600950099001L, 2);
        script("Rs012.d1", 3, 600950109003L, -1);
    }

    /** "7 s 0 n: succeeds if what is painted on the sign s and what is right are apart by at most n letters." */
    private static void apartByAtMost() {
        String text = "Rs012121212.s13.d1j226j226j665";
        for (int n = 0; n <= 9; n++) {
            script(text, 1, 7000 + n, n >= 8 ? -1 : 0);
            succeeds(text, 7100 + n);
            fails(text, 7200 + n);
            fails(text, 7900 + n);
            fails(text, 7110 + n);
        }
        fails("R", 7009);
    }

    /** "8 0 0 n: succeeds if at most n signs are wrong." */
    private static void wrongAtMost() {
        String text = "Rs012.s013.s014.s015.s112.s113.s114.s115.d1";
        for (int n = 0; n <= 9; n++) {
            script(text, 1, 8000 + n, n >= 8 ? -1 : 0);
            script(text + "p2", 1, 8000 + n, n >= 7 ? -1 : 0);
            succeeds("R", 8000 + n);
            fails("R", 8010 + n);
            fails("R", 8100 + n);
        }
    }

    /** "9 g n n: succeeds if the fines of the guild g so far are at least nn." */
    private static void finesAtLeast() {
        String text = "Rs012.s112.s113.d1m11p1p2m22";
        int[] fines = {99, 66, 0, 0};
        for (int g = 0; g <= 9; g++) {
            for (int n = 0; n <= 99; n++) {
                script(text, 1, 9000 + 100 * g + n, g <= 3 && fines[g] >= n ? -1 : 0);
            }
        }
        succeeds("R", 9300);
        fails("R", 9301);
        fails("R", 9400);
        succeeds("Rs312.d1m60", 9399);
    }

    /** "and so does any other group (also one with another digit where a 0 is written)" */
    private static void otherGroups() {
        String text = "Rs012.s13.d4";
        for (int group = 0; group <= 999; group++) {
            fails(text, group);
        }
        for (int group : new int[] {1010, 3000, 4000, 5001, 6001, 7000, 8000}) {
            succeeds(text, group);
        }
        for (int group : new int[] {1011, 3001, 3010, 4001, 4010, 5101, 6011, 6101, 7010, 8010, 8100}) {
            fails(text, group);
        }
    }

    private static boolean done(SignReforms x, int d1, int d2, int d3, int d4) {
        switch (d1) {
            case 1: return d4 == 0 && (d2 == 0 || d2 == 2) && x.decree(d2, d3, 0, 0) == 0;
            case 2: return x.decree(1, d2, d3, d4) == 0;
            case 3: return d3 == 0 && d4 == 0 && x.revoke(d2) == 0;
            case 4: return d3 == 0 && d4 == 0 && x.paint(d2) >= 0;
            case 5: return d2 == 0 && x.months(10 * d3 + d4) >= 0;
            case 6: return d2 == 0 && d3 == 0 && x.amnesty(d4) >= 0;
            case 7: return d3 == 0 && x.signOf(d2, 4) <= d4;
            case 8: return d2 == 0 && d3 == 0 && x.about(2) <= d4;
            case 9: return x.guildOf(d2, 2) >= 10 * d3 + d4;
            default: return false;
        }
    }

    /** The command is done by calls of the face. */
    private static boolean called(SignReforms x, int group) {
        try {
            return done(x, group / 1000, group / 100 % 10, group / 10 % 10, group % 10);
        } catch (IndexOutOfBoundsException | IllegalArgumentException | IllegalStateException e) {
            return false;
        }
    }

    /** "The commands 1 to 6 fail if the method would throw an exception": each group there is. */
    private static void allGroups() {
        for (String text : TOWNS) {
            SignReforms x = Towns.of(text);
            SignReforms y = Towns.of(text);
            for (int group = 0; group <= 9999; group++) {
                if (group % 300 == 0) {
                    x = Towns.of(text);
                }
                if (group % 10 == 0) {
                    y = Towns.of(text);
                }
                int due = called(y, group) ? -1 : 0;
                CHECK.same("runScript(1, " + group + ") behind " + text, due, x.runScript(1, group));
                if (due == -1) {
                    y = Towns.of(text);
                }
            }
        }
    }

    /** "Runs a script": what a command does, those behind it find done. */
    private static void groupsBehindGroups() {
        int[] groups = {1010, 1020, 1060, 1210, 1230, 2112, 2122, 2561, 3000, 3100, 3900, 4000, 4100, 4700, 5001,
            5012, 5060, 6001, 6009, 7000, 7101, 7304, 8000, 8002, 9003, 9150, 9299};
        for (String text : TOWNS) {
            for (int first : groups) {
                for (int second : groups) {
                    SignReforms x = Towns.of(text);
                    SignReforms y = Towns.of(text);
                    int due = !called(y, first) ? 0 : !called(y, second) ? 1 : -1;
                    long script = first * 10000L + second;
                    CHECK.same("runScript(2, " + script + ") behind " + text, due, x.runScript(2, script));
                }
            }
        }
    }

    /** "Throws IllegalArgumentException if n is out of range" */
    private static void outOfRange() {
        CHECK.argumentRange("runScript of n commands", () -> Towns.of(TOWNS[1]), 1, 4, (x, n) -> x.runScript(n, 8000));
        CHECK.argument("no command, no script", SignReforms::new, x -> x.runScript(0, 0));
        CHECK.argument("n and script", SignReforms::new, x -> x.runScript(5, -1));
    }

    /** "or if script is negative" */
    private static void negative() {
        Supplier<SignReforms> maker = () -> Towns.of(TOWNS[1]);
        for (int n = 1; n <= 4; n++) {
            int commands = n;
            for (long script : new long[] {-1, -8000, -9999999999999999L, Long.MIN_VALUE, Integer.MIN_VALUE}) {
                CHECK.argument("runScript(" + n + ", " + script + ")", maker, x -> x.runScript(commands, script));
            }
            CHECK.accepted("runScript(" + n + ", 0)", maker, x -> x.runScript(commands, 0));
        }
    }

    /** "or has more than 4 * n digits" */
    private static void tooManyDigits() {
        Supplier<SignReforms> maker = () -> Towns.of(TOWNS[1]);
        long[] most = {0, 9999, 99999999, 999999999999L, 9999999999999999L};
        for (int n = 1; n <= 4; n++) {
            int commands = n;
            long script = most[n];
            CHECK.accepted("runScript(" + n + ", " + script + ")", maker, x -> x.runScript(commands, script));
            for (long more : new long[] {script + 1, 10 * script + 9, Long.MAX_VALUE}) {
                CHECK.argument("runScript(" + n + ", " + more + ")", maker, x -> x.runScript(commands, more));
            }
        }
    }
}
