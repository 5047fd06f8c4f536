import java.math.BigInteger;
import java.util.function.Supplier;

/** The edges in the sentences of promise 26. Each method quotes the sentence that it holds to. */
public final class SimulationEdgeTest {
    private static final Check CHECK = new Check("SimulationEdgeTest");
    private static final String[] TOWNS = {
        "R",
        "Rs0112233.s112121212.s1345.s26655.o1j125d3m02",
        "Rs012.s02.s013.s112.s111.s26.s3123456.s31.d6j112o1r0m60p1y9",
        "Rs011.s12.j112d1o3o4o5o6o3o4o5o6m12y1m11",
        "Rs012.s112.s212.s312.d1d2d3d4d5d6o1o2o3o4o5o6m33",
    };
    private static final long[] SEEDS = {0, 1, -1, 2, 42, Long.MAX_VALUE, Long.MIN_VALUE, Long.MAX_VALUE - 1,
        Long.MIN_VALUE + 1, Integer.MAX_VALUE, Integer.MIN_VALUE, 1L << 33, -(1L << 33), 6364136223846793005L};

    public static void main(String[] args) {
        onACopy();
        longOverflow();
        leastAndGreatestR();
        signs();
        signsOfAllWords();
        drops();
        joins();
        revokings();
        paints();
        amnesties();
        months();
        leftOut();
        refusedTurns();
        finesInTheTurns();
        finesModulo10000();
        theSums();
        anySeed();
        outOfRange();
        CHECK.end();
    }

    /** One turn, by calls of the face. */
    private static void turn(SignReforms x, int r) {
        int q = r / 8;
        try {
            switch (r % 8) {
                case 0:
                case 1:
                    x.sign(q % 4, word(q));
                    break;
                case 2:
                    x.decree(q / 6 % 3 == 0 ? 0 : 2, 1 + q % 6, 0, 0);
                    break;
                case 3:
                    x.decree(1, 1 + q % 6, 1 + q / 8 % 6, 1 + q / 64 % 6);
                    break;
                case 4:
                    x.revoke(q % 10);
                    break;
                case 5:
                    x.paint(q % 8);
                    break;
                case 6:
                    x.amnesty(1 + q % 9);
                    break;
                default:
                    x.months(1 + q % 12);
                    break;
            }
        } catch (IndexOutOfBoundsException | IllegalArgumentException | IllegalStateException e) {
            return;
        }
    }

    private static int word(int q) {
        StringBuilder word = new StringBuilder();
        int p = 1 + q / 32 % 6;
        word.append(p);
        while (word.length() < 1 + q / 4 % 8) {
            p = 1 + (p + q % 5) % 6;
            word.append(p);
        }
        return Integer.parseInt(word.toString());
    }

    private static int sums(SignReforms x, int finesBefore) {
        return 10000 * ((x.about(6) - finesBefore) % 10000) + 100 * x.about(10) + 10 * x.about(2) + x.about(0);
    }

    private static void oneTurn(String text, int r) {
        SignReforms x = Towns.of(text);
        int fines = x.about(6);
        turn(x, r);
        SignReforms y = Towns.of(text);
        CHECK.same("a turn of r " + r + " behind " + text, sums(x, fines), y.simulate(Seeds.of(r), 1));
    }

    /** The r of each turn, in numbers that cannot overflow. */
    private static int[] turnsOf(long seed, int m) {
        BigInteger x = BigInteger.valueOf(seed);
        int[] turns = new int[m];
        for (int i = 0; i < m; i++) {
            x = x.multiply(new BigInteger("6364136223846793005")).add(new BigInteger("1442695040888963407"));
            x = x.mod(BigInteger.ONE.shiftLeft(64));
            turns[i] = x.shiftRight(33).intValueExact();
        }
        return turns;
    }

    private static void turns(String text, long seed, int m) {
        SignReforms x = Towns.of(text);
        int fines = x.about(6);
        for (int r : turnsOf(seed, m)) {
            turn(x, r);
        }
        SignReforms y = Towns.of(text);
        CHECK.same("simulate(" + seed + ", " + m + ") behind " + text, sums(x, fines), y.simulate(seed, m));
    }

    /** "Simulates m turns on a copy of the state." */
    private static void onACopy() {
        for (String text : TOWNS) {
            SignReforms x = Towns.of(text);
            for (long seed : SEEDS) {
                int answer = x.simulate(seed, 60);
                CHECK.same("simulate(" + seed + ", 60) once more", answer, x.simulate(seed, 60));
            }
            CHECK.same("all there is behind simulations in " + text, View.ofAll(Towns.of(text)), View.ofAll(x));
        }
    }

    /** "(with long overflow), and r = (int) (x >>> 33) is computed" */
    private static void longOverflow() {
        for (String text : TOWNS) {
            for (long seed : SEEDS) {
                turns(text, seed, 1);
                turns(text, seed, 2);
                turns(text, seed, 60);
            }
        }
    }

    /** "r = (int) (x >>> 33)": from 0 to the largest int, never less. */
    private static void leastAndGreatestR() {
        CHECK.same("r 0: a sign of the letter 1", 101, new SignReforms().simulate(Seeds.of(0), 1));
        CHECK.same("r 0, all bits below", 101, new SignReforms().simulate(Seeds.of(0, -1 >>> 1), 1));
        SignReforms x = Towns.of("Rs012.d1");
        CHECK.same("the largest r: four months", 10000 * 12 + 111, x.simulate(Seeds.of(Integer.MAX_VALUE), 1));
        CHECK.same("the same, all bits below", 10000 * 12 + 111,
                x.simulate(Seeds.of(Integer.MAX_VALUE, Integer.MAX_VALUE), 1));
        for (String text : TOWNS) {
            for (int kind = 0; kind <= 7; kind++) {
                oneTurn(text, kind);
                oneTurn(text, Integer.MAX_VALUE - kind);
            }
        }
    }

    /** "0 and 1: sign(q % 4, w), with w as the word of 1 + q / 4 % 8 letters" */
    private static void signs() {
        for (int kind = 0; kind <= 1; kind++) {
            for (int g = 0; g <= 3; g++) {
                String there = "Rs" + g + word(g) + ".";
                CHECK.same("a sign as one of its guild", 101, Towns.of(there).simulate(Seeds.of(8 * g + kind), 1));
                String other = "Rs" + (g + 1) % 4 + word(g) + ".";
                CHECK.same("as one of another", 202, Towns.of(other).simulate(Seeds.of(8 * g + kind), 1));
            }
            for (int letters = 1; letters <= 8; letters++) {
                int q = 4 * (letters - 1);
                CHECK.same("letters of q " + q, 100 * letters + 1,
                        new SignReforms().simulate(Seeds.of(8 * q + kind), 1));
                CHECK.same("letters of q " + (q + 32), 100 * letters + 1,
                        new SignReforms().simulate(Seeds.of(8 * (q + 32) + kind), 1));
            }
        }
    }

    /** "the first one 1 + q / 32 % 6, each next one 1 + (p + q % 5) % 6, with p as the one ahead of it" */
    private static void signsOfAllWords() {
        CHECK.same("the word of q 28", 801, Towns.of("Rs015315315.").simulate(Seeds.of(8 * 28), 1));
        CHECK.same("the word of q 60", 801, Towns.of("Rs023456123.").simulate(Seeds.of(8 * 60), 1));
        CHECK.same("the word of q 160", 101, Towns.of("Rs06.").simulate(Seeds.of(8 * 160), 1));
        CHECK.same("the word of q 192", 101, Towns.of("Rs01.").simulate(Seeds.of(8 * 192), 1));
        String[] towns = {"Rd1", "Rd2", "Rd3", "Rd4", "Rd5", "Rd6", "Rj126j231j345j451j562j616o1o2o3o4"};
        for (int q = 0; q < 960; q++) {
            for (String text : towns) {
                oneTurn(text, 8 * q);
            }
            oneTurn("Rs" + q % 4 + word(q) + ".", 8 * q + 1);
        }
    }

    /** "2: decree(0, 1 + q % 6, 0, 0), if q / 6 % 3 is 0, otherwise decree(2, 1 + q % 6, 0, 0)" */
    private static void drops() {
        for (int letter = 1; letter <= 6; letter++) {
            int other = letter % 6 + 1;
            String text = "Rs0" + letter + letter + other + ".";
            for (int round = 0; round <= 5; round++) {
                int q = 6 * round + letter - 1;
                int due = round % 3 == 0 ? 111 : 211;
                CHECK.same("q " + q + " behind " + text, due, Towns.of(text).simulate(Seeds.of(8 * q + 2), 1));
            }
        }
    }

    /** "3: decree(1, 1 + q % 6, 1 + q / 8 % 6, 1 + q / 64 % 6)" */
    private static void joins() {
        CHECK.same("q 96 joins 1 and 1 to 2", 111, Towns.of("Rs011.").simulate(Seeds.of(8 * 96 + 3), 1));
        for (int q = 0; q < 384; q++) {
            int a = 1 + q % 6;
            int b = 1 + q / 8 % 6;
            int c = 1 + q / 64 % 6;
            oneTurn("Rs0" + a + b + ".", 8 * q + 3);
            oneTurn("Rs0" + a + b + ".s0" + c + ".", 8 * q + 3);
            CHECK.same("q " + q + " makes two the same", 302,
                    Towns.of("Rs0" + a + b + ".s0" + c + ".").simulate(Seeds.of(8 * q + 3), 1));
        }
    }

    /** "4: revoke(q % 10)" */
    private static void revokings() {
        for (int q = 0; q <= 20; q++) {
            for (String text : TOWNS) {
                oneTurn(text, 8 * q + 4);
            }
            String ten = "Rs0123456.d1o2d2o3d3o4d4o5d5o6";
            int due = q % 2 == 0 ? 211 : 111;
            CHECK.same("q " + q + " behind ten decrees", due, Towns.of(ten).simulate(Seeds.of(8 * q + 4), 1));
        }
    }

    /** "5: paint(q % 8)" */
    private static void paints() {
        String text = "Rs012.s013.s014.s015.s112.s113.s114.s115.j126";
        for (int q = 0; q <= 20; q++) {
            int due = q % 8 == 0 || q % 8 == 4 ? 1418 : 1428;
            CHECK.same("q " + q + " behind " + text, due, Towns.of(text).simulate(Seeds.of(8 * q + 5), 1));
        }
    }

    /** "6: amnesty(1 + q % 9)": the fines of the turns behind it tell for how many months. */
    private static void amnesties() {
        for (int q = 0; q <= 20; q++) {
            for (String text : TOWNS) {
                oneTurn(text, 8 * q + 6);
            }
        }
        int found = 0;
        for (long seed = 0; found < 20; seed++) {
            int[] r = turnsOf(seed, 2);
            if (r[0] % 8 == 6 && r[1] % 8 == 7) {
                found++;
                int fined = Math.max(0, 1 + r[1] / 8 % 12 - (1 + r[0] / 8 % 9));
                CHECK.same("an amnesty and months of the seed " + seed, 10000 * 3 * fined + 111,
                        Towns.of("Rs012.d1").simulate(seed, 2));
            }
        }
    }

    /** "Otherwise: months(1 + q % 12)." */
    private static void months() {
        for (int q = 0; q <= 25; q++) {
            CHECK.same("q " + q, 10000 * 3 * (1 + q % 12) + 111,
                    Towns.of("Rs012.d1").simulate(Seeds.of(8 * q + 7), 1));
        }
    }

    /** "What would throw an exception is left out." */
    private static void leftOut() {
        String full = "Rs01.s02.s03.s04.s05.s06.s11.s12.o1o2o3o4o5o6o1o2o3o4y9";
        for (int kind = 0; kind <= 3; kind++) {
            CHECK.same("a ninth sign or an eleventh decree by " + kind, 808,
                    Towns.of(full).simulate(Seeds.of(8 * 7 + kind), 1));
        }
        CHECK.same("an amnesty in another", 808, Towns.of(full).simulate(Seeds.of(6), 1));
        for (int q = 0; q <= 9; q++) {
            CHECK.same("no decree to revoke", 0, new SignReforms().simulate(Seeds.of(8 * q + 4), 1));
            CHECK.same("no sign to paint", 0, new SignReforms().simulate(Seeds.of(8 * q + 5), 1));
        }
    }

    /** "sign", "decree", "revoke": what is refused leaves the copy as it is. */
    private static void refusedTurns() {
        CHECK.same("a sign without letters", 0, Towns.of("Rd1").simulate(Seeds.of(0), 1));
        CHECK.same("a sign as another", 101, Towns.of("Rs01.").simulate(Seeds.of(0), 1));
        CHECK.same("a decree that leaves no letters", 101, Towns.of("Rs01.").simulate(Seeds.of(2), 1));
        CHECK.same("a decree that makes two the same", 302, Towns.of("Rs012.s02.").simulate(Seeds.of(2), 1));
        CHECK.same("a revoking that leaves no letters", 111, Towns.of("Rs011.j112d1").simulate(Seeds.of(4), 1));
    }

    /** "the fines in the turns", not those that are there already */
    private static void finesInTheTurns() {
        CHECK.same("fines ahead of the turns", 10000 * 3 + 111,
                Towns.of("Rs012.d1m60m60").simulate(Seeds.of(7), 1));
        CHECK.same("no month in the turn", 111, Towns.of("Rs012.d1m60m60").simulate(Seeds.of(6), 1));
    }

    /** "modulo 10000" */
    private static void finesModulo10000() {
        long[] seeds = {2011, 1801, 7751, 1758, 1944365};
        int[] fines = {9980, 10000, 10000, 10020, 20300};
        int[] due = {99801278, 2058, 1238, 200878, 3001248};
        for (int i = 0; i < seeds.length; i++) {
            SignReforms x = Towns.of("Rs0112.s1112.s2112.s3112.s0122.s1122.s2122.s3122.d1m01");
            x.set(1, 20);
            int before = x.about(6);
            CHECK.same("simulate(" + seeds[i] + ", 60)", due[i], x.simulate(seeds[i], 60));
            for (int r : turnsOf(seeds[i], 60)) {
                turn(x, r);
            }
            CHECK.same("fines of " + seeds[i], fines[i], x.about(6) - before);
            CHECK.same("sums of " + seeds[i], due[i], sums(x, before));
        }
    }

    /** "100 * (the letters of all right spellings together at the end) + 10 * (the wrong signs [..]) + (the signs" */
    private static void theSums() {
        String text = "Rs011111111.s022222222.s033333333.s044444444.s055555555.s066666666.s111111111.s122222222.";
        CHECK.same("64 letters, none wrong, 8 signs", 6408, Towns.of(text).simulate(Seeds.of(4), 1));
        CHECK.same("8 letters, 8 wrong, 8 signs", 888, Towns.of(text + "o1o2o3o4o5o6").simulate(Seeds.of(6), 1));
        CHECK.same("nothing", 0, new SignReforms().simulate(Seeds.of(4), 1));
    }

    /** "seed: any long" */
    private static void anySeed() {
        for (int bit = 0; bit < 64; bit++) {
            turns(TOWNS[1], 1L << bit, 7);
            turns(TOWNS[2], ~(1L << bit), 7);
        }
    }

    /** "m: number of turns, 1 to 60"; "Throws IllegalArgumentException if m is out of range" */
    private static void outOfRange() {
        Supplier<SignReforms> maker = () -> Towns.of(TOWNS[1]);
        CHECK.argumentRange("simulate", maker, 1, 60, (x, m) -> x.simulate(0, m));
        CHECK.argumentRange("simulate", SignReforms::new, 1, 60, (x, m) -> x.simulate(Long.MIN_VALUE, m));
        for (int m = 1; m <= 60; m++) {
            turns("R", 17, m);
        }
    }
}
