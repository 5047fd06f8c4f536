import java.util.ArrayList;
import java.util.List;
import java.util.regex.Matcher;
import java.util.regex.Pattern;

/**
 * The document once more, in the plainest Java of strings and lists, with nothing kept that can be
 * computed: what the program answers is compared with it.
 */
final class Model {
    private static final Pattern REFORM = Pattern.compile("R(s[0-3][1-6]{1,8}\\.|d[1-6]|j[1-6][1-6][1-6]|o[1-6]"
            + "|r[0-9]|p[0-7]|m(0[1-9]|[1-5][0-9]|60)|y[1-9])*", Pattern.DOTALL);
    private static final Pattern COMMAND = Pattern.compile("s[^.]*\\.|j...|m..|[dorpy].");

    private static final class Sign {
        int guild;
        String word;
        String painted;
        int paintings;
        int fines;
        int paid;
    }

    private static final class Decree {
        int kind;
        int a;
        int b;
        int c;
        int month;
    }

    private static final class State {
        List<Sign> signs = new ArrayList<>();
        List<Decree> decrees = new ArrayList<>();
        int month;
        int amnesty;
        int given = -1;
        int refusals;
        int coins = 4;
        int fine = 3;

        State copy() {
            State copy = new State();
            for (Sign sign : signs) {
                Sign other = new Sign();
                other.guild = sign.guild;
                other.word = sign.word;
                other.painted = sign.painted;
                other.paintings = sign.paintings;
                other.fines = sign.fines;
                other.paid = sign.paid;
                copy.signs.add(other);
            }
            copy.decrees.addAll(decrees);
            copy.month = month;
            copy.amnesty = amnesty;
            copy.given = given;
            copy.refusals = refusals;
            copy.coins = coins;
            copy.fine = fine;
            return copy;
        }
    }

    private State now = new State();
    private final List<State> past = new ArrayList<>();
    private final State[] slots = new State[2];
    private String text = "";

    static Model of(String text) {
        Model model = new Model();
        model.text = text;
        model.load();
        return model;
    }

    // ---- spelling

    private static String spelled(List<Decree> decrees, String word) {
        String spelling = word;
        for (Decree d : decrees) {
            if (d.kind == 0) {
                spelling = spelling.replace("" + d.a, "");
            } else if (d.kind == 1) {
                spelling = spelling.replace("" + d.a + d.b, "" + d.c);
            } else {
                spelling = spelling.replaceAll(d.a + "+", "" + d.a);
            }
        }
        return spelling;
    }

    private String rightOf(Sign sign) {
        return spelled(now.decrees, sign.word);
    }

    private static int far(String from, String to) {
        int[][] far = new int[from.length() + 1][to.length() + 1];
        for (int i = 0; i <= from.length(); i++) {
            for (int j = 0; j <= to.length(); j++) {
                if (i == 0 || j == 0) {
                    far[i][j] = i + j;
                } else if (from.charAt(i - 1) == to.charAt(j - 1)) {
                    far[i][j] = far[i - 1][j - 1];
                } else {
                    far[i][j] = 1 + Math.min(far[i - 1][j - 1], Math.min(far[i - 1][j], far[i][j - 1]));
                }
            }
        }
        return far[from.length()][to.length()];
    }

    private static int reason(List<Sign> signs, List<Decree> decrees) {
        for (Sign sign : signs) {
            if (spelled(decrees, sign.word).isEmpty()) {
                return 1;
            }
        }
        for (Sign sign : signs) {
            for (Sign other : signs) {
                if (sign != other && sign.guild == other.guild
                        && spelled(decrees, sign.word).equals(spelled(decrees, other.word))) {
                    return 2;
                }
            }
        }
        return 0;
    }

    private boolean isWrong(Sign sign) {
        return !sign.painted.equals(rightOf(sign));
    }

    private int apart(Sign sign) {
        return far(sign.painted, rightOf(sign));
    }

    private int cost(Sign sign) {
        return now.coins * apart(sign);
    }

    // ---- exceptions

    private Sign signAt(int s) {
        index(s >= 0 && s < now.signs.size());
        return now.signs.get(s);
    }

    private Decree decreeAt(int k) {
        index(k >= 0 && k < now.decrees.size());
        return now.decrees.get(k);
    }

    private static void index(boolean isThere) {
        if (!isThere) {
            throw new IndexOutOfBoundsException();
        }
    }

    private static void argument(boolean isInRange) {
        if (!isInRange) {
            throw new IllegalArgumentException();
        }
    }

    private static void state(boolean isAllowed) {
        if (!isAllowed) {
            throw new IllegalStateException();
        }
    }

    private static boolean letter(int a) {
        return a >= 1 && a <= 6;
    }

    private void remember() {
        past.add(now.copy());
        if (past.size() > 14) {
            past.remove(0);
        }
    }

    // ---- text

    int append(int c) {
        argument(c >= 0 && c <= 255);
        state(text.length() < 120);
        text += (char) c;
        return text.length();
    }

    int clearText() {
        int length = text.length();
        text = "";
        return length;
    }

    int errorPosition() {
        for (int end = 1; end <= text.length(); end++) {
            Matcher matcher = REFORM.matcher(text.substring(0, end));
            if (!matcher.matches() && !matcher.hitEnd()) {
                return end - 1;
            }
        }
        return REFORM.matcher(text).matches() ? -1 : text.length();
    }

    int load() {
        state(errorPosition() == -1);
        now = new State();
        past.clear();
        slots[0] = null;
        slots[1] = null;
        int leftOut = 0;
        Matcher commands = COMMAND.matcher(text.substring(1));
        while (commands.find()) {
            leftOut += isDone(commands.group()) ? 0 : 1;
        }
        past.clear();
        now.refusals = 0;
        return leftOut;
    }

    private boolean isDone(String command) {
        int first = command.charAt(1) - '0';
        try {
            switch (command.charAt(0)) {
                case 's':
                    return sign(first, Integer.parseInt(command.substring(2, command.length() - 1))) == 0;
                case 'd':
                    return decree(0, first, 0, 0) == 0;
                case 'j':
                    return decree(1, first, command.charAt(2) - '0', command.charAt(3) - '0') == 0;
                case 'o':
                    return decree(2, first, 0, 0) == 0;
                case 'r':
                    return revoke(first) == 0;
                case 'p':
                    return paint(first) >= 0;
                case 'm':
                    return months(Integer.parseInt(command.substring(1))) >= 0;
                default:
                    return amnesty(first) >= 0;
            }
        } catch (RuntimeException e) {
            return false;
        }
    }

    // ---- what there is

    int about(int what) {
        argument(what >= 0 && what <= 11);
        int[] about = {now.signs.size(), now.decrees.size(), 0, now.month, now.amnesty, now.given, 0, 0,
            now.refusals, 0, 0, 0};
        for (Sign sign : now.signs) {
            about[2] += isWrong(sign) ? 1 : 0;
            about[6] += sign.fines;
            about[7] += sign.paid;
            about[9] += sign.word.length();
            about[10] += rightOf(sign).length();
            about[11] += cost(sign);
        }
        return about[what];
    }

    int signOf(int s, int what) {
        Sign sign = signAt(s);
        argument(what >= 0 && what <= 7);
        return new int[] {sign.guild, Integer.parseInt(sign.word), Integer.parseInt(sign.painted),
            isWrong(sign) ? 1 : 0, apart(sign), cost(sign), sign.paintings, sign.fines}[what];
    }

    int decreeOf(int k, int what) {
        Decree d = decreeAt(k);
        argument(what >= 0 && what <= 4);
        return new int[] {d.kind, d.a, d.b, d.c, d.month}[what];
    }

    int guildOf(int g, int what) {
        index(g >= 0 && g <= 3);
        argument(what >= 0 && what <= 3);
        int[] guild = new int[4];
        for (Sign sign : now.signs) {
            if (sign.guild == g) {
                guild[0]++;
                guild[1] += isWrong(sign) ? 1 : 0;
                guild[2] += sign.fines;
                guild[3] += sign.paid;
            }
        }
        return guild[what];
    }

    int right(int s, int way) {
        Sign sign = signAt(s);
        argument(way == 0 || way == 1);
        return Integer.parseInt(rightOf(sign));
    }

    int setting(int what) {
        argument(what == 0 || what == 1);
        return what == 0 ? now.coins : now.fine;
    }

    // ---- actions

    int sign(int g, int word) {
        index(g >= 0 && g <= 3);
        argument(("" + word).matches("[1-6]{1,8}"));
        state(now.signs.size() < 8);
        remember();
        Sign sign = new Sign();
        sign.guild = g;
        sign.word = "" + word;
        sign.painted = rightOf(sign);
        List<Sign> then = new ArrayList<>(now.signs);
        then.add(sign);
        int reason = reason(then, now.decrees);
        if (reason == 0) {
            now.signs = then;
        }
        return counted(reason);
    }

    private int counted(int reason) {
        now.refusals += reason == 0 ? 0 : 1;
        return reason;
    }

    private List<Decree> decreesWith(int kind, int a, int b, int c) {
        argument(kind >= 0 && kind <= 2 && letter(a));
        argument(kind == 1 ? letter(b) && letter(c) : b == 0 && c == 0);
        Decree d = new Decree();
        d.kind = kind;
        d.a = a;
        d.b = b;
        d.c = c;
        d.month = now.month;
        List<Decree> then = new ArrayList<>(now.decrees);
        then.add(d);
        return then;
    }

    private int givenIfCan(List<Decree> then) {
        remember();
        int reason = reason(now.signs, then);
        if (reason == 0) {
            now.decrees = then;
        }
        return counted(reason);
    }

    int decree(int kind, int a, int b, int c) {
        List<Decree> then = decreesWith(kind, a, b, c);
        state(now.decrees.size() < 10);
        return givenIfCan(then);
    }

    int revoke(int k) {
        List<Decree> then = new ArrayList<>(now.decrees);
        then.remove(decreeAt(k));
        return givenIfCan(then);
    }

    int paint(int s) {
        Sign sign = signAt(s);
        remember();
        int coins = cost(sign);
        sign.paid += coins;
        sign.painted = rightOf(sign);
        sign.paintings++;
        return coins;
    }

    int months(int n) {
        argument(n >= 1 && n <= 60);
        remember();
        int fines = 0;
        for (int i = 0; i < n; i++) {
            now.month++;
            if (now.amnesty == 0) {
                for (Sign sign : now.signs) {
                    sign.fines += isWrong(sign) ? now.fine : 0;
                    fines += isWrong(sign) ? now.fine : 0;
                }
            } else {
                now.amnesty--;
            }
        }
        return fines;
    }

    int amnesty(int n) {
        argument(n >= 1 && n <= 9);
        state(now.amnesty == 0 && (now.given == -1 || now.given + 12 <= now.month));
        remember();
        now.amnesty = n;
        now.given = now.month;
        return about(2);
    }

    int set(int what, int v) {
        int previous = setting(what);
        argument(v >= 0 && v <= 20);
        remember();
        if (what == 0) {
            now.coins = v;
        } else {
            now.fine = v;
        }
        return previous;
    }

    int undo() {
        state(!past.isEmpty());
        now = past.remove(past.size() - 1);
        return past.size();
    }

    // ---- what would be

    int why(int kind, int a, int b, int c) {
        return reason(now.signs, decreesWith(kind, a, b, c));
    }

    int droppable() {
        int letters = 0;
        for (int a = 6; a >= 1; a--) {
            letters = 2 * letters + (why(0, a, 0, 0) == 0 ? 1 : 0);
        }
        return letters;
    }

    int apart(int s, int other) {
        return far(rightOf(signAt(s)), rightOf(signAt(other)));
    }

    int payable(int coins) {
        argument(coins >= 0 && coins <= 999);
        int most = 0;
        int size = now.signs.size();
        int[] costs = new int[size];
        int wrong = 0;
        for (int s = 0; s < size; s++) {
            costs[s] = cost(now.signs.get(s));
            wrong |= isWrong(now.signs.get(s)) ? 1 << s : 0;
        }
        for (int some = 0; some < 1 << size; some++) {
            int cost = 0;
            for (int s = 0; s < size; s++) {
                cost += (some >> s & 1) * costs[s];
            }
            if ((some & ~wrong) == 0 && cost <= coins) {
                most = Math.max(most, Integer.bitCount(some));
            }
        }
        return most;
    }

    int worthIn(int s) {
        Sign sign = signAt(s);
        int cost = cost(sign);
        Model later = copyOfNow();
        for (int n = 1; n <= 200; n++) {
            later.months(1);
            if (later.now.signs.get(s).fines - sign.fines > cost) {
                return n;
            }
        }
        return -1;
    }

    private Model copyOfNow() {
        Model copy = new Model();
        copy.now = now.copy();
        return copy;
    }

    // ---- scripts, simulations

    int runScript(int n, long script) {
        argument(n >= 1 && n <= 4 && script >= 0 && ("" + script).length() <= 4 * n);
        String groups = "0".repeat(4 * n - ("" + script).length()) + script;
        Model copy = copyOfNow();
        for (int i = 0; i < n; i++) {
            if (!copy.succeeds(groups.substring(4 * i, 4 * i + 4))) {
                return i;
            }
        }
        return -1;
    }

    private boolean succeeds(String group) {
        int d2 = group.charAt(1) - '0';
        int d3 = group.charAt(2) - '0';
        int d4 = group.charAt(3) - '0';
        try {
            if (group.matches("1[02].0")) {
                return decree(d2, d3, 0, 0) == 0;
            } else if (group.matches("2...")) {
                return decree(1, d2, d3, d4) == 0;
            } else if (group.matches("3.00")) {
                return revoke(d2) == 0;
            } else if (group.matches("4.00")) {
                return paint(d2) >= 0;
            } else if (group.matches("50..")) {
                return months(10 * d3 + d4) >= 0;
            } else if (group.matches("600.")) {
                return amnesty(d4) >= 0;
            } else if (group.matches("7.0.")) {
                return apart(signAt(d2)) <= d4;
            } else if (group.matches("800.")) {
                return about(2) <= d4;
            }
            return group.matches("9...") && guildOf(d2, 2) >= 10 * d3 + d4;
        } catch (RuntimeException e) {
            return false;
        }
    }

    int simulate(long seed, int m) {
        argument(m >= 1 && m <= 60);
        Model copy = copyOfNow();
        int fines = 0;
        long x = seed;
        for (int i = 0; i < m; i++) {
            x = x * 6364136223846793005L + 1442695040888963407L;
            int r = (int) (x >>> 33);
            try {
                int answer = copy.turn(r / 8, r % 8);
                fines += r % 8 == 7 ? answer : 0;
            } catch (RuntimeException e) {
                continue;
            }
        }
        return 10000 * (fines % 10000) + 100 * copy.about(10) + 10 * copy.about(2) + copy.about(0);
    }

    private int turn(int q, int kind) {
        switch (kind) {
            case 0:
            case 1:
                int p = 1 + q / 32 % 6;
                StringBuilder word = new StringBuilder().append(p);
                while (word.length() < 1 + q / 4 % 8) {
                    p = 1 + (p + q % 5) % 6;
                    word.append(p);
                }
                return sign(q % 4, Integer.parseInt(word.toString()));
            case 2:
                return q / 6 % 3 == 0 ? decree(0, 1 + q % 6, 0, 0) : decree(2, 1 + q % 6, 0, 0);
            case 3:
                return decree(1, 1 + q % 6, 1 + q / 8 % 6, 1 + q / 64 % 6);
            case 4:
                return revoke(q % 10);
            case 5:
                return paint(q % 8);
            case 6:
                return amnesty(1 + q % 9);
            default:
                return months(1 + q % 12);
        }
    }

    // ---- save slots

    int save(int slot) {
        index(slot == 0 || slot == 1);
        slots[slot] = now.copy();
        return now.month;
    }

    int restore(int slot) {
        index(slot == 0 || slot == 1);
        state(slots[slot] != null);
        now = slots[slot].copy();
        past.clear();
        return now.month;
    }
}
