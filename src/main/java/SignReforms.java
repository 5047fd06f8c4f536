import java.util.Arrays;

/**
 * An orthography reform of signboards. ../shared/DOC.md says what each method promises.
 *
 * A word or spelling is held as the number whose decimal digits are its letters. No letter is 0, so
 * the number 0 is a spelling without letters, and a digit 0 ahead of the others is no letter at all.
 */
public final class SignReforms {
    public static final int NONE = -1;

    private static final int MOST_SIGNS = 8;
    private static final int MOST_DECREES = 10;
    private static final int MOST_LETTERS = 8;
    private static final int LAST_LETTER = 6;
    private static final int GUILDS = 4;
    private static final int SETTINGS = 2;
    private static final int SLOTS = 2;
    private static final int MOST_STATES = 14;
    private static final int MOST_CHARACTERS = 120;
    private static final int MOST_MONTHS = 60;
    private static final int MOST_TURNS = 60;
    private static final int MOST_COMMANDS = 4;
    private static final int MONTHS_TO_LOOK_AHEAD = 200;
    private static final int MONTHS_BETWEEN_AMNESTIES = 12;

    /** The kinds of decrees. */
    private static final int DROP = 0;
    private static final int JOIN = 1;
    private static final int SINGLE = 2;

    /** The settings. */
    private static final int COINS_FOR_A_LETTER = 0;
    private static final int FINE_OF_A_MONTH = 1;

    /** What becomes of a sign or decree: done, refused for a reason, or not to be tried at all. */
    private static final int DONE = 0;
    private static final int WITHOUT_LETTERS = 1;
    private static final int SAME_SPELLING = 2;
    private static final int IMPOSSIBLE = 3;

    private final ReformText text = new ReformText();
    private final Town town = new Town();
    /** Scripts and simulations run in it, so that they leave the town alone. */
    private final Town draft = new Town();
    private final Memory memory = new Memory();

    public SignReforms() {
    }

    // ---- text

    public int append(int c) throws IllegalArgumentException, IllegalStateException {
        if (c < 0 || c > 255) {
            throw new IllegalArgumentException("no character code");
        }
        if (text.length >= MOST_CHARACTERS) {
            throw new IllegalStateException("the text is full");
        }
        text.put(c);
        return text.length;
    }

    public int clearText() {
        int previous = text.length;
        text.length = 0;
        return previous;
    }

    public int errorPosition() {
        return text.firstError();
    }

    public int load() throws IllegalStateException {
        if (text.firstError() != NONE) {
            throw new IllegalStateException("the text is not a reform");
        }
        town.state.clear();
        memory.forgetStates();
        memory.emptySlots();
        int leftOut = 0;
        text.restart();
        for (int i = 0; i < MOST_CHARACTERS && text.hasMore(); i++) {
            if (!text.readCommand() || !doneInTown()) {
                leftOut++;
            }
        }
        return leftOut;
    }

    /** Does the command that was read last, and tells if it was not left out. */
    private boolean doneInTown() {
        int number = text.number;
        switch (text.command) {
            case 's':
                return town.bringSign(text.guild, number) == DONE;
            case 'd':
                return town.giveDecree(DROP, number, 0, 0) == DONE;
            case 'j':
                return town.giveDecree(JOIN, number / 100, number / 10 % 10, number % 10) == DONE;
            case 'o':
                return town.giveDecree(SINGLE, number, 0, 0) == DONE;
            case 'r':
                return town.takeDecree(number) == DONE;
            case 'p':
                return town.repaint(number) != NONE;
            case 'm':
                town.passMonths(number);
                return true;
            case 'y':
                return town.forgive(number) != NONE;
            default:
                return false;
        }
    }

    // ---- what there is

    public int about(int what) throws IllegalArgumentException {
        if (what < 0 || what > 11) {
            throw new IllegalArgumentException("no such number of the reform");
        }
        return town.numberOfTown(what);
    }

    public int signOf(int s, int what) throws IndexOutOfBoundsException, IllegalArgumentException {
        requireSign(s);
        if (what < 0 || what > 7) {
            throw new IllegalArgumentException("no such number of a sign");
        }
        return town.numberOfSign(s, what);
    }

    public int decreeOf(int k, int what) throws IndexOutOfBoundsException, IllegalArgumentException {
        requireDecree(k);
        if (what < 0 || what > 4) {
            throw new IllegalArgumentException("no such number of a decree");
        }
        return town.state.decrees.number(k, what);
    }

    public int guildOf(int g, int what) throws IndexOutOfBoundsException, IllegalArgumentException {
        requireGuild(g);
        if (what < 0 || what > 3) {
            throw new IllegalArgumentException("no such number of a guild");
        }
        return town.numberOfGuild(g, what);
    }

    public int right(int s, int way) throws IndexOutOfBoundsException, IllegalArgumentException {
        requireSign(s);
        if (way != 0 && way != 1) {
            throw new IllegalArgumentException("no such way");
        }
        return town.spelled(s, way == 1);
    }

    public int setting(int what) throws IllegalArgumentException {
        requireSetting(what);
        return town.state.settings[what];
    }

    // ---- actions

    public int sign(int g, int word)
            throws IndexOutOfBoundsException, IllegalArgumentException, IllegalStateException {
        requireGuild(g);
        if (!Words.isWord(word)) {
            throw new IllegalArgumentException("no word");
        }
        if (town.state.signs >= MOST_SIGNS) {
            throw new IllegalStateException("there are 8 signs");
        }
        memory.remember(town.state);
        return town.counted(town.bringSign(g, word));
    }

    public int decree(int kind, int a, int b, int c)
            throws IllegalArgumentException, IllegalStateException {
        requireDecreeArguments(kind, a, b, c);
        if (town.state.decrees.areFull()) {
            throw new IllegalStateException("10 decrees are in force");
        }
        memory.remember(town.state);
        return town.counted(town.giveDecree(kind, a, b, c));
    }

    public int revoke(int k) throws IndexOutOfBoundsException {
        requireDecree(k);
        memory.remember(town.state);
        return town.counted(town.takeDecree(k));
    }

    public int paint(int s) throws IndexOutOfBoundsException {
        requireSign(s);
        memory.remember(town.state);
        return town.repaint(s);
    }

    public int months(int n) throws IllegalArgumentException {
        if (n < 1 || n > MOST_MONTHS) {
            throw new IllegalArgumentException("no such number of months");
        }
        memory.remember(town.state);
        return town.passMonths(n);
    }

    public int amnesty(int n) throws IllegalArgumentException, IllegalStateException {
        if (n < 1 || n > 9) {
            throw new IllegalArgumentException("no such number of months");
        }
        if (!town.canForgive()) {
            throw new IllegalStateException("no amnesty can be given yet");
        }
        memory.remember(town.state);
        return town.forgive(n);
    }

    public int set(int what, int v) throws IllegalArgumentException {
        requireSetting(what);
        if (v < 0 || v > 20) {
            throw new IllegalArgumentException("no value of a setting");
        }
        memory.remember(town.state);
        int previous = town.state.settings[what];
        town.state.settings[what] = v;
        return previous;
    }

    public int undo() throws IllegalStateException {
        if (memory.states == 0) {
            throw new IllegalStateException("no state is remembered");
        }
        memory.takeBack(town.state);
        return memory.states;
    }

    // ---- what would be

    public int why(int kind, int a, int b, int c) throws IllegalArgumentException {
        requireDecreeArguments(kind, a, b, c);
        return town.reasonAgainstDecree(kind, a, b, c);
    }

    public int droppable() {
        int letters = 0;
        for (int letter = 1; letter <= LAST_LETTER; letter++) {
            if (town.reasonAgainstDecree(DROP, letter, 0, 0) == DONE) {
                letters |= 1 << (letter - 1);
            }
        }
        return letters;
    }

    public int apart(int s, int other) throws IndexOutOfBoundsException {
        requireSign(s);
        requireSign(other);
        return town.spellingsApart(s, other);
    }

    public int payable(int coins) throws IllegalArgumentException {
        if (coins < 0 || coins > 999) {
            throw new IllegalArgumentException("no such purse");
        }
        return town.signsPaidBy(coins);
    }

    public int worthIn(int s) throws IndexOutOfBoundsException {
        requireSign(s);
        return town.monthsTillFinesAreMore(s);
    }

    // ---- scripts, simulations

    public int runScript(int n, long script) throws IllegalArgumentException {
        if (n < 1 || n > MOST_COMMANDS) {
            throw new IllegalArgumentException("no such number of commands");
        }
        long unit = 1;
        for (int i = 0; i < n; i++) {
            unit *= 10000;
        }
        if (script < 0 || script >= unit) {
            throw new IllegalArgumentException("no script of so many commands");
        }
        draft.state.copyFrom(town.state);
        for (int i = 0; i < n; i++) {
            unit = unit >= 10000 ? unit / 10000 : 1;
            if (!Scripts.succeeds(draft, (int) (script / unit % 10000))) {
                return i;
            }
        }
        return NONE;
    }

    public int simulate(long seed, int m) throws IllegalArgumentException {
        if (m < 1 || m > MOST_TURNS) {
            throw new IllegalArgumentException("no such number of turns");
        }
        draft.state.copyFrom(town.state);
        int before = draft.allFines();
        long x = seed;
        for (int i = 0; i < m; i++) {
            x = x * 6364136223846793005L + 1442695040888963407L;
            Simulations.takeTurn(draft, (int) (x >>> 33));
        }
        int fines = draft.allFines() - before;
        return 10000 * (fines % 10000) + 100 * draft.lettersOfRights()
                + 10 * draft.wrongSigns() + draft.state.signs;
    }

    // ---- save slots

    public int save(int slot) throws IndexOutOfBoundsException {
        requireSlot(slot);
        memory.fillSlot(slot, town.state);
        return town.state.month;
    }

    public int restore(int slot) throws IndexOutOfBoundsException, IllegalStateException {
        requireSlot(slot);
        if (!memory.isFilled(slot)) {
            throw new IllegalStateException("nothing has been saved in the slot");
        }
        memory.copySlot(slot, town.state);
        memory.forgetStates();
        return town.state.month;
    }

    // ---- arguments

    private void requireSign(int s) {
        if (!town.hasSign(s)) {
            throw new IndexOutOfBoundsException("no such sign");
        }
    }

    private void requireDecree(int k) {
        if (!town.state.decrees.has(k)) {
            throw new IndexOutOfBoundsException("no such decree");
        }
    }

    private static void requireGuild(int g) {
        if (g < 0 || g >= GUILDS) {
            throw new IndexOutOfBoundsException("no such guild");
        }
    }

    private static void requireSlot(int slot) {
        if (slot < 0 || slot >= SLOTS) {
            throw new IndexOutOfBoundsException("no such save slot");
        }
    }

    private static void requireSetting(int what) {
        if (what < 0 || what >= SETTINGS) {
            throw new IllegalArgumentException("no such setting");
        }
    }

    private static void requireDecreeArguments(int kind, int a, int b, int c) {
        if (!Decrees.canBe(kind, a, b, c)) {
            throw new IllegalArgumentException("no such decree");
        }
    }

    /** What can be told of a word alone. */
    private static final class Words {
        static boolean isLetter(int number) {
            return number >= 1 && number <= LAST_LETTER;
        }

        static boolean isWord(int number) {
            // the largest word bounds the digits to eight, ahead of looking at each
            if (number < 1 || number > 66666666) {
                return false;
            }
            int rest = number;
            for (int i = 0; i < MOST_LETTERS && rest != 0; i++) {
                if (!isLetter(rest % 10)) {
                    return false;
                }
                rest /= 10;
            }
            return true;
        }

        static int letters(int word) {
            int letters = 0;
            int rest = word;
            for (int i = 0; i < MOST_LETTERS && rest != 0; i++) {
                letters++;
                rest /= 10;
            }
            return letters;
        }

        /** The word from its end: the first letter is then the last digit, which is easy to take off. */
        static int mirrored(int word) {
            int mirrored = 0;
            int rest = word;
            for (int i = 0; i < MOST_LETTERS && rest != 0; i++) {
                mirrored = mirrored * 10 + rest % 10;
                rest /= 10;
            }
            return mirrored;
        }

        /** What a decree makes of a whole word. */
        static int decreed(int kind, int a, int b, int c, int word) {
            int mirrored = mirrored(word);
            switch (kind) {
                case DROP:
                    return dropped(mirrored, a);
                case JOIN:
                    return joined(mirrored, a, b, c);
                default:
                    return single(mirrored, a);
            }
        }

        private static int dropped(int mirrored, int a) {
            int spelling = 0;
            int rest = mirrored;
            for (int i = 0; i < MOST_LETTERS && rest != 0; i++) {
                int letter = rest % 10;
                if (letter != a) {
                    spelling = spelling * 10 + letter;
                }
                rest /= 10;
            }
            return spelling;
        }

        private static int joined(int mirrored, int a, int b, int c) {
            int spelling = 0;
            int rest = mirrored;
            for (int i = 0; i < MOST_LETTERS && rest != 0; i++) {
                int letter = rest % 10;
                if (letter == a && rest / 10 % 10 == b) {
                    spelling = spelling * 10 + c;
                    rest /= 100;
                } else {
                    spelling = spelling * 10 + letter;
                    rest /= 10;
                }
            }
            return spelling;
        }

        private static int single(int mirrored, int a) {
            int spelling = 0;
            int previous = 0;
            int rest = mirrored;
            for (int i = 0; i < MOST_LETTERS && rest != 0; i++) {
                int letter = rest % 10;
                if (letter != a || previous != a) {
                    spelling = spelling * 10 + letter;
                }
                previous = letter;
                rest /= 10;
            }
            return spelling;
        }
    }

    /** Measures how far two spellings are apart, in one row that is used again each time. */
    private static final class Ruler {
        private final int[] row = new int[MOST_LETTERS + 1];

        int measured(int from, int to) {
            for (int j = 0; j <= MOST_LETTERS; j++) {
                row[j] = j;
            }
            int apart = Words.letters(to);
            int rest = from;
            for (int i = 0; i < MOST_LETTERS && rest != 0; i++) {
                apart = lastOfNextRow(rest % 10, to);
                rest /= 10;
            }
            return apart;
        }

        /** Both words are read from their ends: that makes no difference to how far they are apart. */
        private int lastOfNextRow(int letter, int to) {
            int diagonal = row[0];
            row[0]++;
            int last = row[0];
            int rest = to;
            for (int j = 1; j <= MOST_LETTERS && rest != 0; j++) {
                int changed = diagonal + (rest % 10 == letter ? 0 : 1);
                diagonal = row[j];
                last = Math.min(changed, 1 + Math.min(diagonal, last));
                row[j] = last;
                rest /= 10;
            }
            return last;
        }
    }

    /** The decrees in force, the oldest first, each with five numbers in the order of decreeOf. */
    private static final class Decrees {
        private static final int NUMBERS = 5;

        private int count;
        private final int[] numbers = new int[MOST_DECREES * NUMBERS];

        static boolean canBe(int kind, int a, int b, int c) {
            if (kind < DROP || kind > SINGLE || !Words.isLetter(a)) {
                return false;
            }
            if (kind == JOIN) {
                return Words.isLetter(b) && Words.isLetter(c);
            }
            return b == 0 && c == 0;
        }

        boolean has(int k) {
            return k >= 0 && k < count && k < MOST_DECREES;
        }

        boolean areFull() {
            return count >= MOST_DECREES;
        }

        int number(int k, int what) {
            if (!has(k) || what < 0 || what >= NUMBERS) {
                return 0;
            }
            return numbers[k * NUMBERS + what];
        }

        void add(int kind, int a, int b, int c, int month) {
            if (areFull()) {
                return;
            }
            int at = count * NUMBERS;
            numbers[at] = kind;
            numbers[at + 1] = a;
            numbers[at + 2] = b;
            numbers[at + 3] = c;
            numbers[at + 4] = month;
            count++;
        }

        void remove(int k) {
            if (!has(k)) {
                return;
            }
            int behind = count - 1 - k;
            System.arraycopy(numbers, (k + 1) * NUMBERS, numbers, k * NUMBERS, behind * NUMBERS);
            count--;
        }

        int spellingOf(int word) {
            return spellingWithout(NONE, word);
        }

        /** The spelling that would be right if the decree k were not; NONE leaves out no decree. */
        int spellingWithout(int k, int word) {
            int spelling = word;
            for (int i = 0; i < MOST_DECREES && has(i); i++) {
                int at = i * NUMBERS;
                if (i != k) {
                    spelling = Words.decreed(numbers[at], numbers[at + 1], numbers[at + 2],
                            numbers[at + 3], spelling);
                }
            }
            return spelling;
        }

        void copyFrom(Decrees other) {
            count = other.count;
            System.arraycopy(other.numbers, 0, numbers, 0, numbers.length);
        }
    }

    /** Spells letter by letter: each letter goes through all decrees ahead of the next one. */
    private static final class Flow {
        /** For each decree the letter a that it holds back till it knows what follows; 0 for none. */
        private final int[] held = new int[MOST_DECREES];

        int spellingOf(Decrees decrees, int word) {
            Arrays.fill(held, 0);
            int spelling = 0;
            int rest = Words.mirrored(word);
            for (int i = 0; i < MOST_LETTERS && rest != 0; i++) {
                spelling = joinedTo(spelling, through(decrees, rest % 10, false));
                rest /= 10;
            }
            return joinedTo(spelling, through(decrees, 0, true));
        }

        /** At the end of the word, each decree lets go of what it holds behind what reaches it. */
        private int through(Decrees decrees, int letter, boolean atEnd) {
            int moving = letter;
            for (int k = 0; k < MOST_DECREES && decrees.has(k); k++) {
                moving = pastDecree(decrees, k, moving);
                if (atEnd) {
                    moving = joinedTo(moving, held[k]);
                }
            }
            return moving;
        }

        private int pastDecree(Decrees decrees, int k, int letters) {
            int passed = 0;
            int rest = Words.mirrored(letters);
            for (int i = 0; i < MOST_LETTERS && rest != 0; i++) {
                passed = joinedTo(passed, let(decrees, k, rest % 10));
                rest /= 10;
            }
            return passed;
        }

        /** What comes out of the decree k when a letter comes to it: no letter, one, or two. */
        private int let(Decrees decrees, int k, int letter) {
            if (!decrees.has(k)) {
                return letter;
            }
            int kind = decrees.number(k, 0);
            boolean isFirst = letter == decrees.number(k, 1);
            if (kind == DROP) {
                return isFirst ? 0 : letter;
            }
            int before = held[k];
            if (kind == JOIN && before != 0 && letter == decrees.number(k, 2)) {
                held[k] = 0;
                return decrees.number(k, 3);
            }
            held[k] = isFirst ? letter : 0;
            if (isFirst) {
                return kind == JOIN ? before : 0;
            }
            return before * 10 + letter;
        }

        private static int joinedTo(int letters, int more) {
            int joined = letters;
            int rest = Words.mirrored(more);
            for (int i = 0; i < MOST_LETTERS && rest != 0; i++) {
                joined = joined * 10 + rest % 10;
                rest /= 10;
            }
            return joined;
        }
    }

    /** All that actions change: what is remembered, saved and copied. */
    private static final class State {
        final Decrees decrees = new Decrees();
        int signs;
        final int[] guilds = new int[MOST_SIGNS];
        final int[] words = new int[MOST_SIGNS];
        final int[] painted = new int[MOST_SIGNS];
        /** The right spellings, kept with the decrees that make them. */
        final int[] rights = new int[MOST_SIGNS];
        final int[] paintings = new int[MOST_SIGNS];
        final int[] signFines = new int[MOST_SIGNS];
        final int[] guildFines = new int[GUILDS];
        final int[] guildPaint = new int[GUILDS];
        final int[] settings = new int[SETTINGS];
        int month;
        int amnestyLeft;
        int amnestyMonth;
        int refusals;

        State() {
            clear();
        }

        void clear() {
            decrees.count = 0;
            signs = 0;
            Arrays.fill(guildFines, 0);
            Arrays.fill(guildPaint, 0);
            settings[COINS_FOR_A_LETTER] = 4;
            settings[FINE_OF_A_MONTH] = 3;
            month = 0;
            amnestyLeft = 0;
            amnestyMonth = NONE;
            refusals = 0;
        }

        void copyFrom(State other) {
            decrees.copyFrom(other.decrees);
            signs = other.signs;
            System.arraycopy(other.guilds, 0, guilds, 0, MOST_SIGNS);
            System.arraycopy(other.words, 0, words, 0, MOST_SIGNS);
            System.arraycopy(other.painted, 0, painted, 0, MOST_SIGNS);
            System.arraycopy(other.rights, 0, rights, 0, MOST_SIGNS);
            System.arraycopy(other.paintings, 0, paintings, 0, MOST_SIGNS);
            System.arraycopy(other.signFines, 0, signFines, 0, MOST_SIGNS);
            System.arraycopy(other.guildFines, 0, guildFines, 0, GUILDS);
            System.arraycopy(other.guildPaint, 0, guildPaint, 0, GUILDS);
            System.arraycopy(other.settings, 0, settings, 0, SETTINGS);
            month = other.month;
            amnestyLeft = other.amnestyLeft;
            amnestyMonth = other.amnestyMonth;
            refusals = other.refusals;
        }
    }

    /** A state with the rules by which it changes. What cannot be done leaves it as it is. */
    private static final class Town {
        final State state = new State();
        private final Ruler ruler = new Ruler();
        private final Flow flow = new Flow();
        /** The right spellings as they would be, while that is being judged. */
        private final int[] planned = new int[MOST_SIGNS];

        boolean hasSign(int s) {
            return s >= 0 && s < state.signs && s < MOST_SIGNS;
        }

        boolean isWrong(int s) {
            return hasSign(s) && state.painted[s] != state.rights[s];
        }

        int lettersWrong(int s) {
            if (!hasSign(s)) {
                return 0;
            }
            return ruler.measured(state.painted[s], state.rights[s]);
        }

        int costOf(int s) {
            return lettersWrong(s) * state.settings[COINS_FOR_A_LETTER];
        }

        int spelled(int s, boolean letterByLetter) {
            if (!hasSign(s)) {
                return 0;
            }
            int word = state.words[s];
            return letterByLetter ? flow.spellingOf(state.decrees, word) : state.decrees.spellingOf(word);
        }

        int spellingsApart(int s, int other) {
            if (!hasSign(s) || !hasSign(other)) {
                return 0;
            }
            return ruler.measured(state.rights[s], state.rights[other]);
        }

        // ---- signs and decrees

        int bringSign(int g, int word) {
            int s = state.signs;
            if (s >= MOST_SIGNS || g < 0 || g >= GUILDS) {
                return IMPOSSIBLE;
            }
            int spelling = state.decrees.spellingOf(word);
            int reason = reasonAgainstSign(g, spelling);
            if (reason != DONE) {
                return reason;
            }
            state.guilds[s] = g;
            state.words[s] = word;
            state.painted[s] = spelling;
            state.rights[s] = spelling;
            state.paintings[s] = 0;
            state.signFines[s] = 0;
            state.signs++;
            return DONE;
        }

        private int reasonAgainstSign(int g, int spelling) {
            if (spelling == 0) {
                return WITHOUT_LETTERS;
            }
            for (int s = 0; s < MOST_SIGNS && hasSign(s); s++) {
                if (state.guilds[s] == g && state.rights[s] == spelling) {
                    return SAME_SPELLING;
                }
            }
            return DONE;
        }

        int giveDecree(int kind, int a, int b, int c) {
            if (state.decrees.areFull()) {
                return IMPOSSIBLE;
            }
            int reason = reasonAgainstDecree(kind, a, b, c);
            if (reason == DONE) {
                state.decrees.add(kind, a, b, c, state.month);
                System.arraycopy(planned, 0, state.rights, 0, MOST_SIGNS);
            }
            return reason;
        }

        int takeDecree(int k) {
            if (!state.decrees.has(k)) {
                return IMPOSSIBLE;
            }
            for (int s = 0; s < MOST_SIGNS && hasSign(s); s++) {
                planned[s] = state.decrees.spellingWithout(k, state.words[s]);
            }
            int reason = reasonAgainstPlan();
            if (reason == DONE) {
                state.decrees.remove(k);
                System.arraycopy(planned, 0, state.rights, 0, MOST_SIGNS);
            }
            return reason;
        }

        /** A new decree comes behind all others: it makes of the right spellings what they would be. */
        int reasonAgainstDecree(int kind, int a, int b, int c) {
            for (int s = 0; s < MOST_SIGNS && hasSign(s); s++) {
                planned[s] = Words.decreed(kind, a, b, c, state.rights[s]);
            }
            return reasonAgainstPlan();
        }

        private int reasonAgainstPlan() {
            for (int s = 0; s < MOST_SIGNS && hasSign(s); s++) {
                if (planned[s] == 0) {
                    return WITHOUT_LETTERS;
                }
            }
            for (int s = 0; s < MOST_SIGNS && hasSign(s); s++) {
                for (int other = 0; other < s; other++) {
                    if (state.guilds[s] == state.guilds[other] && planned[s] == planned[other]) {
                        return SAME_SPELLING;
                    }
                }
            }
            return DONE;
        }

        int counted(int reason) {
            if (reason != DONE) {
                state.refusals++;
            }
            return reason;
        }

        // ---- paint, months, amnesties

        /** Returns the coins; NONE if there is no such sign. */
        int repaint(int s) {
            if (!hasSign(s)) {
                return NONE;
            }
            int coins = costOf(s);
            charge(state.guildPaint, s, coins);
            state.painted[s] = state.rights[s];
            state.paintings[s]++;
            return coins;
        }

        int passMonths(int n) {
            int before = allFines();
            for (int i = 0; i < n; i++) {
                state.month++;
                if (state.amnestyLeft > 0) {
                    state.amnestyLeft--;
                } else {
                    fineWrongSigns();
                }
            }
            return allFines() - before;
        }

        private void fineWrongSigns() {
            int fine = state.settings[FINE_OF_A_MONTH];
            for (int s = 0; s < MOST_SIGNS && hasSign(s); s++) {
                if (isWrong(s)) {
                    state.signFines[s] += fine;
                    charge(state.guildFines, s, fine);
                }
            }
        }

        /** Adds to what the guild of a sign pays. */
        private void charge(int[] guildCoins, int s, int coins) {
            int g = hasSign(s) ? state.guilds[s] : NONE;
            if (g >= 0 && g < guildCoins.length) {
                guildCoins[g] += coins;
            }
        }

        boolean canForgive() {
            if (state.amnestyLeft > 0) {
                return false;
            }
            return state.amnestyMonth == NONE
                    || state.month - state.amnestyMonth >= MONTHS_BETWEEN_AMNESTIES;
        }

        /** Returns the wrong signs; NONE if no amnesty can be given. */
        int forgive(int n) {
            if (!canForgive()) {
                return NONE;
            }
            state.amnestyLeft = n;
            state.amnestyMonth = state.month;
            return wrongSigns();
        }

        // ---- what would be

        /** More letters never cost less, so the purse pays the signs by the letters that are wrong. */
        int signsPaidBy(int coins) {
            int left = coins;
            int paid = 0;
            for (int letters = 1; letters <= MOST_LETTERS; letters++) {
                int cost = letters * state.settings[COINS_FOR_A_LETTER];
                for (int s = 0; s < MOST_SIGNS && hasSign(s); s++) {
                    if (lettersWrong(s) == letters && cost <= left) {
                        left -= cost;
                        paid++;
                    }
                }
            }
            return paid;
        }

        int monthsTillFinesAreMore(int s) {
            if (!hasSign(s) || !isWrong(s)) {
                return NONE;
            }
            int cost = costOf(s);
            int fines = 0;
            for (int n = 1; n <= MONTHS_TO_LOOK_AHEAD; n++) {
                if (n > state.amnestyLeft) {
                    fines += state.settings[FINE_OF_A_MONTH];
                }
                if (fines > cost) {
                    return n;
                }
            }
            return NONE;
        }

        // ---- sums

        int wrongSigns() {
            int wrong = 0;
            for (int s = 0; s < MOST_SIGNS && hasSign(s); s++) {
                wrong += isWrong(s) ? 1 : 0;
            }
            return wrong;
        }

        int allFines() {
            return sum(state.guildFines);
        }

        int lettersOfRights() {
            return lettersOf(state.rights);
        }

        private int lettersOf(int[] spellings) {
            int letters = 0;
            for (int s = 0; s < spellings.length && hasSign(s); s++) {
                letters += Words.letters(spellings[s]);
            }
            return letters;
        }

        private int costOfAll() {
            int coins = 0;
            for (int s = 0; s < MOST_SIGNS && hasSign(s); s++) {
                coins += costOf(s);
            }
            return coins;
        }

        private int signsOfGuild(int g, boolean wrongAlone) {
            int count = 0;
            for (int s = 0; s < MOST_SIGNS && hasSign(s); s++) {
                if (state.guilds[s] == g && (!wrongAlone || isWrong(s))) {
                    count++;
                }
            }
            return count;
        }

        private static int sum(int[] coins) {
            int sum = 0;
            for (int some : coins) {
                sum += some;
            }
            return sum;
        }

        // ---- numbers by their number

        int numberOfTown(int what) {
            switch (what) {
                case 0:
                    return state.signs;
                case 1:
                    return state.decrees.count;
                case 2:
                    return wrongSigns();
                case 3:
                    return state.month;
                case 4:
                    return state.amnestyLeft;
                case 5:
                    return state.amnestyMonth;
                case 6:
                    return allFines();
                case 7:
                    return sum(state.guildPaint);
                case 8:
                    return state.refusals;
                case 9:
                    return lettersOf(state.words);
                case 10:
                    return lettersOfRights();
                default:
                    return costOfAll();
            }
        }

        int numberOfSign(int s, int what) {
            if (!hasSign(s)) {
                return 0;
            }
            switch (what) {
                case 0:
                    return state.guilds[s];
                case 1:
                    return state.words[s];
                case 2:
                    return state.painted[s];
                case 3:
                    return isWrong(s) ? 1 : 0;
                case 4:
                    return lettersWrong(s);
                case 5:
                    return costOf(s);
                case 6:
                    return state.paintings[s];
                default:
                    return state.signFines[s];
            }
        }

        int numberOfGuild(int g, int what) {
            if (g < 0 || g >= GUILDS) {
                return 0;
            }
            switch (what) {
                case 0:
                    return signsOfGuild(g, false);
                case 1:
                    return signsOfGuild(g, true);
                case 2:
                    return state.guildFines[g];
                default:
                    return state.guildPaint[g];
            }
        }
    }

    /** The remembered states, in a ring, and the save slots. */
    private static final class Memory {
        private final State[] ring = new State[MOST_STATES];
        private int oldest;
        private int states;
        private final State[] slots = new State[SLOTS];
        private final boolean[] filled = new boolean[SLOTS];

        Memory() {
            for (int i = 0; i < MOST_STATES; i++) {
                ring[i] = new State();
            }
            for (int i = 0; i < SLOTS; i++) {
                slots[i] = new State();
            }
        }

        void remember(State state) {
            State place = ring[(oldest + states) % MOST_STATES];
            if (place != null) {
                place.copyFrom(state);
            }
            if (states < MOST_STATES) {
                states++;
            } else {
                oldest = (oldest + 1) % MOST_STATES;
            }
        }

        void takeBack(State state) {
            if (states == 0) {
                return;
            }
            states--;
            State place = ring[(oldest + states) % MOST_STATES];
            if (place != null) {
                state.copyFrom(place);
            }
        }

        void forgetStates() {
            states = 0;
        }

        boolean isFilled(int slot) {
            return slot >= 0 && slot < SLOTS && filled[slot];
        }

        void fillSlot(int slot, State state) {
            if (slot < 0 || slot >= SLOTS) {
                return;
            }
            State place = slots[slot];
            if (place != null) {
                place.copyFrom(state);
                filled[slot] = true;
            }
        }

        void copySlot(int slot, State state) {
            if (!isFilled(slot)) {
                return;
            }
            State place = slots[slot];
            if (place != null) {
                state.copyFrom(place);
            }
        }

        void emptySlots() {
            for (int i = 0; i < SLOTS; i++) {
                filled[i] = false;
            }
        }
    }

    /** The text buffer, and the reading of it, command by command. */
    private static final class ReformText {
        private static final String COMMANDS = "sdjorpmy";

        private final int[] characters = new int[MOST_CHARACTERS];
        private int length;
        /** The first character that is not read yet. */
        private int at;
        /** The command that was read last, the guild if it is a sign, and the number of its digits. */
        private int command;
        private int guild;
        private int number;

        void put(int c) {
            if (length < MOST_CHARACTERS) {
                characters[length] = c;
                length++;
            }
        }

        int firstError() {
            if (!restart()) {
                return at;
            }
            for (int i = 0; i < MOST_CHARACTERS && hasMore(); i++) {
                if (!readCommand()) {
                    return at;
                }
            }
            return NONE;
        }

        boolean restart() {
            at = 0;
            return readMark('R');
        }

        boolean hasMore() {
            return at < length && at < MOST_CHARACTERS;
        }

        /** Reads on as far as is allowed; then at is where the error is, if it answers false. */
        boolean readCommand() {
            number = 0;
            if (!hasMore() || COMMANDS.indexOf((char) characters[at]) < 0) {
                return false;
            }
            command = characters[at];
            at++;
            switch (command) {
                case 's':
                    return readDigit(0, GUILDS - 1) && readWord();
                case 'j':
                    return readLetter() && readLetter() && readLetter();
                case 'r':
                    return readDigit(0, MOST_DECREES - 1);
                case 'p':
                    return readDigit(0, MOST_SIGNS - 1);
                case 'm':
                    return readMonths();
                case 'y':
                    return readDigit(1, 9);
                default:
                    return readLetter();
            }
        }

        private boolean readWord() {
            guild = number;
            number = 0;
            if (!readLetter()) {
                return false;
            }
            for (int i = 1; i < MOST_LETTERS && hasMore() && characters[at] != '.'; i++) {
                if (!readLetter()) {
                    return false;
                }
            }
            return readMark('.');
        }

        private boolean readMonths() {
            if (!readDigit(0, MOST_MONTHS / 10)) {
                return false;
            }
            return readDigit(number == 0 ? 1 : 0, number == MOST_MONTHS / 10 ? 0 : 9);
        }

        private boolean readLetter() {
            return readDigit(1, LAST_LETTER);
        }

        private boolean readDigit(int lowest, int highest) {
            if (!hasMore()) {
                return false;
            }
            int digit = characters[at] - '0';
            if (digit < lowest || digit > highest) {
                return false;
            }
            number = number * 10 + digit;
            at++;
            return true;
        }

        private boolean readMark(int mark) {
            if (!hasMore() || characters[at] != mark) {
                return false;
            }
            at++;
            return true;
        }
    }

    /** The commands of scripts. */
    private static final class Scripts {
        static boolean succeeds(Town town, int group) {
            int d1 = group / 1000;
            int d2 = group / 100 % 10;
            int d3 = group / 10 % 10;
            int d4 = group % 10;
            switch (d1) {
                case 1:
                    return d4 == 0 && d2 != JOIN && isGiven(town, d2, d3, 0, 0);
                case 2:
                    return isGiven(town, JOIN, d2, d3, d4);
                case 3:
                    return d3 == 0 && d4 == 0 && town.takeDecree(d2) == DONE;
                case 4:
                    return d3 == 0 && d4 == 0 && town.repaint(d2) != NONE;
                case 5:
                    return d2 == 0 && monthsPass(town, group % 100);
                case 6:
                    return d2 == 0 && d3 == 0 && d4 >= 1 && town.forgive(d4) != NONE;
                case 7:
                    return d3 == 0 && town.hasSign(d2) && town.lettersWrong(d2) <= d4;
                case 8:
                    return d2 == 0 && d3 == 0 && town.wrongSigns() <= d4;
                case 9:
                    return d2 < GUILDS && town.state.guildFines[d2] >= group % 100;
                default:
                    return false;
            }
        }

        private static boolean isGiven(Town town, int kind, int a, int b, int c) {
            return Decrees.canBe(kind, a, b, c) && town.giveDecree(kind, a, b, c) == DONE;
        }

        private static boolean monthsPass(Town town, int n) {
            if (n < 1 || n > MOST_MONTHS) {
                return false;
            }
            town.passMonths(n);
            return true;
        }
    }

    /** The turns of simulations. */
    private static final class Simulations {
        static void takeTurn(Town town, int r) {
            int q = r / 8;
            switch (r % 8) {
                case 0:
                case 1:
                    town.bringSign(q % 4, wordFrom(q));
                    break;
                case 2:
                    town.giveDecree(q / 6 % 3 == 0 ? DROP : SINGLE, 1 + q % 6, 0, 0);
                    break;
                case 3:
                    town.giveDecree(JOIN, 1 + q % 6, 1 + q / 8 % 6, 1 + q / 64 % 6);
                    break;
                case 4:
                    town.takeDecree(q % 10);
                    break;
                case 5:
                    town.repaint(q % 8);
                    break;
                case 6:
                    town.forgive(1 + q % 9);
                    break;
                default:
                    town.passMonths(1 + q % 12);
                    break;
            }
        }

        private static int wordFrom(int q) {
            int letters = 1 + q / 4 % 8;
            int letter = 1 + q / 32 % 6;
            int word = letter;
            for (int i = 1; i < letters; i++) {
                letter = 1 + (letter + q % 5) % 6;
                word = word * 10 + letter;
            }
            return word;
        }
    }
}
