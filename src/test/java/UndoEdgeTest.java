import java.util.ArrayList;
import java.util.List;
import java.util.function.Consumer;
import java.util.function.Supplier;

/**
 * The edges in the sentences of promises 19, 27 and 28, and of "Actions and undo" and "Exceptions" in
 * "Terms". Each method quotes the sentence that it holds to.
 */
public final class UndoEdgeTest {
    private static final Check CHECK = new Check("UndoEdgeTest");
    private static final Supplier<SignReforms> NEW = SignReforms::new;
    private static final String TEXT = "Rs011.s02.s112.j113d1m02p2y1";

    public static void main(String[] args) {
        stateIsAllButTextAndSlots();
        actionsThatChangeNothing();
        undoIsNone();
        mostStates();
        ringOfStates();
        loadIsNoAction();
        restoreIsNoAction();
        whatWouldBeIsNoAction();
        exceptionsAreNoActions();
        promise19StillRemembered();
        promise19NoneRemembered();
        promise27Stores();
        promise27Month();
        promise27NoSuchSlot();
        promise28Replaces();
        promise28Forgets();
        promise28SlotKeepsIt();
        promise28Month();
        promise28NoSuchSlot();
        promise28NothingSaved();
        promise28SinceTheLastLoad();
        theFirstExceptionIsThrown();
        CHECK.end();
    }

    private static SignReforms town() {
        return Towns.of(TEXT);
    }

    /** Each way to act, also where it is refused or where nothing becomes different. */
    private static List<Consumer<SignReforms>> actions() {
        List<Consumer<SignReforms>> actions = new ArrayList<>();
        actions.add(x -> CHECK.same("a sign comes", 0, x.sign(3, 654321)));
        actions.add(x -> CHECK.same("a sign without letters", 1, x.sign(2, 1)));
        actions.add(x -> CHECK.same("a sign as another", 2, x.sign(1, 2)));
        actions.add(x -> CHECK.same("a decree is given", 0, x.decree(2, 1, 0, 0)));
        actions.add(x -> CHECK.same("a decree that leaves no letters", 1, x.decree(0, 3, 0, 0)));
        actions.add(x -> CHECK.same("a decree is revoked", 0, x.revoke(1)));
        actions.add(x -> CHECK.same("a revoking that leaves no letters", 1, x.revoke(0)));
        actions.add(x -> CHECK.same("a sign is painted", 8, x.paint(0)));
        actions.add(x -> CHECK.same("a right sign is painted", 0, x.paint(2)));
        actions.add(x -> CHECK.same("months", 177, x.months(60)));
        actions.add(x -> CHECK.same("a month of amnesty", 0, x.months(1)));
        actions.add(x -> CHECK.same("coins for a letter", 4, x.set(0, 20)));
        actions.add(x -> CHECK.same("the same coins", 4, x.set(0, 4)));
        actions.add(x -> CHECK.same("the fine", 3, x.set(1, 0)));
        actions.add(x -> CHECK.same("the same fine", 3, x.set(1, 3)));
        return actions;
    }

    /** "change the state, which consists of everything but the text and the save slots" */
    private static void stateIsAllButTextAndSlots() {
        for (Consumer<SignReforms> action : actions()) {
            SignReforms x = town();
            action.accept(x);
            CHECK.same("undo", 0, x.undo());
            CHECK.same("all there is behind undo", View.ofAll(town()), View.ofAll(x));
        }
        SignReforms y = Towns.of("Rs012.d1m02");
        y.amnesty(9);
        y.undo();
        CHECK.same("an amnesty is taken back", View.ofAll(Towns.of("Rs012.d1m02")), View.ofAll(y));
        SignReforms z = town();
        z.months(1);
        z.append('d');
        z.save(0);
        z.undo();
        CHECK.same("the text is not taken back", TEXT.length(), z.errorPosition() - 1);
        CHECK.same("nor is its length", TEXT.length() + 1, z.clearText());
        CHECK.same("nor is a save slot", 3, z.restore(0));
    }

    /** "is an action, also if nothing becomes different" */
    private static void actionsThatChangeNothing() {
        SignReforms x = town();
        List<Consumer<SignReforms>> actions = actions();
        for (int i = 0; i < actions.size(); i++) {
            SignReforms y = town();
            y.set(1, 3);
            actions.get(i).accept(y);
            CHECK.same("states behind action " + i, 1, y.undo());
        }
        for (int i = 0; i < 14; i++) {
            x.set(0, 4);
        }
        CHECK.same("states behind 14 actions without a change", 13, x.undo());
        SignReforms y = new SignReforms();
        y.amnesty(1);
        CHECK.same("states behind an amnesty", 0, y.undo());
    }

    /** "(undo is none)" */
    private static void undoIsNone() {
        SignReforms x = new SignReforms();
        x.months(1);
        x.months(2);
        CHECK.same("undo", 1, x.undo());
        CHECK.same("undo of the action, not of the undo", 0, x.undo());
        CHECK.same("the month", 0, x.about(3));
        CHECK.state("undo behind all of them", () -> {
            SignReforms y = new SignReforms();
            y.months(1);
            y.undo();
            return y;
        }, y -> y.undo());
    }

    /** "At most 14 states are remembered; when one more is remembered, the oldest one is forgotten." */
    private static void mostStates() {
        for (int actions = 0; actions <= 45; actions++) {
            SignReforms x = new SignReforms();
            for (int n = 1; n <= actions; n++) {
                x.months(n);
            }
            int states = Math.min(actions, 14);
            for (int back = 1; back <= states; back++) {
                int left = actions - back;
                CHECK.same("undo " + back + " of " + actions, states - back, x.undo());
                CHECK.same("the month then", left * (left + 1) / 2, x.about(3));
            }
            try {
                x.undo();
                CHECK.same("undo of a forgotten state throws", 1, 0);
            } catch (IllegalStateException e) {
                int left = actions - states;
                CHECK.same("the month stays", left * (left + 1) / 2, x.about(3));
            }
        }
    }

    /** The same sentence, when actions and undos take turns. */
    private static void ringOfStates() {
        for (int most = 1; most <= 20; most++) {
            SignReforms x = new SignReforms();
            List<Integer> remembered = new ArrayList<>();
            for (int call = 0; call < 160; call++) {
                if (call % (2 * most) < most + 1 || remembered.isEmpty()) {
                    remembered.add(x.about(3));
                    x.months(1 + call % 60);
                    if (remembered.size() > 14) {
                        remembered.remove(0);
                    }
                } else {
                    int month = remembered.remove(remembered.size() - 1);
                    CHECK.same("undo in turns of " + most, remembered.size(), x.undo());
                    CHECK.same("the month then", month, x.about(3));
                }
            }
        }
    }

    /** "load and restore are not actions." */
    private static void loadIsNoAction() {
        CHECK.state("undo behind load", () -> {
            SignReforms x = town();
            x.months(1);
            x.load();
            return x;
        }, x -> x.undo());
    }

    /** "load and restore are not actions." */
    private static void restoreIsNoAction() {
        CHECK.state("undo behind restore", () -> {
            SignReforms x = town();
            x.save(1);
            x.months(1);
            x.restore(1);
            return x;
        }, x -> x.undo());
    }

    /** "these and all following methods up to the save slots change nothing" */
    private static void whatWouldBeIsNoAction() {
        List<Consumer<SignReforms>> calls = new ArrayList<>();
        calls.add(x -> x.why(0, 3, 0, 0));
        calls.add(x -> x.droppable());
        calls.add(x -> x.apart(0, 1));
        calls.add(x -> x.payable(999));
        calls.add(x -> x.worthIn(0));
        calls.add(x -> x.runScript(4, 3100400050603100L));
        calls.add(x -> x.simulate(11, 60));
        calls.add(x -> x.simulate(-5, 60));
        for (int i = 0; i < calls.size(); i++) {
            SignReforms x = town();
            calls.get(i).accept(x);
            CHECK.same("all there is behind call " + i, View.ofAll(town()), View.ofAll(x));
        }
        SignReforms saved = town();
        saved.save(0);
        CHECK.state("undo behind save", () -> {
            SignReforms x = town();
            x.save(0);
            return x;
        }, x -> x.undo());
    }

    /** "A call that throws an exception changes nothing." It is no action either. */
    private static void exceptionsAreNoActions() {
        Supplier<SignReforms> full = () -> {
            SignReforms x = Towns.of("Rs01.s02.s03.s04.s05.s06.s11.s12.o1o2o3o4o5o6o1o2o3o4");
            for (int i = 0; i < 14; i++) {
                x.set(0, i);
            }
            x.amnesty(5);
            x.save(1);
            x.append('x');
            return x;
        };
        CHECK.index("sign of no guild", full, x -> x.sign(4, 1));
        CHECK.argument("sign of no word", full, x -> x.sign(0, 0));
        CHECK.state("a ninth sign", full, x -> x.sign(0, 11));
        CHECK.argument("no such decree", full, x -> x.decree(3, 1, 0, 0));
        CHECK.state("an eleventh decree", full, x -> x.decree(2, 1, 0, 0));
        CHECK.index("no decree to revoke", full, x -> x.revoke(10));
        CHECK.index("no sign to paint", full, x -> x.paint(8));
        CHECK.argument("no months", full, x -> x.months(0));
        CHECK.argument("no months of amnesty", full, x -> x.amnesty(0));
        CHECK.state("an amnesty in another", full, x -> x.amnesty(1));
        CHECK.argument("no setting", full, x -> x.set(2, 0));
        CHECK.argument("no value", full, x -> x.set(0, 21));
        CHECK.state("load of no reform", full, x -> x.load());
        CHECK.state("restore of nothing", full, x -> x.restore(0));
        CHECK.index("restore of no slot", full, x -> x.restore(2));
        CHECK.index("save in no slot", full, x -> x.save(2));
        CHECK.argument("no script", full, x -> x.runScript(0, 0));
        CHECK.argument("no turns", full, x -> x.simulate(0, 0));
    }

    /** "Returns how many states are still remembered." */
    private static void promise19StillRemembered() {
        SignReforms x = new SignReforms();
        x.set(0, 1);
        CHECK.same("undo of the only one", 0, x.undo());
        for (int i = 0; i < 14; i++) {
            x.set(0, i);
        }
        CHECK.same("undo of 14", 13, x.undo());
        x.set(0, 1);
        CHECK.same("undo of 14 again", 13, x.undo());
        x.set(0, 1);
        x.set(0, 2);
        CHECK.same("undo of 15", 13, x.undo());
    }

    /** "Throws IllegalStateException if none is remembered" */
    private static void promise19NoneRemembered() {
        CHECK.state("undo in a new object", NEW, x -> x.undo());
        CHECK.state("undo behind an action that throws", () -> {
            SignReforms x = new SignReforms();
            try {
                x.months(0);
            } catch (IllegalArgumentException e) {
                return x;
            }
            return new SignReforms();
        }, x -> x.undo());
        CHECK.state("undo behind 14 of 15", () -> {
            SignReforms x = new SignReforms();
            for (int i = 0; i < 15; i++) {
                x.set(0, i);
            }
            for (int i = 0; i < 14; i++) {
                x.undo();
            }
            return x;
        }, x -> x.undo());
    }

    /** "Stores the present state in a save slot." */
    private static void promise27Stores() {
        for (int slot = 0; slot <= 1; slot++) {
            SignReforms x = town();
            x.months(5);
            x.save(slot);
            x.save(1 - slot);
            x.months(5);
            x.paint(0);
            x.save(1 - slot);
            x.revoke(1);
            CHECK.same("the month in the slot", 7, x.restore(slot));
            CHECK.same("painted in it", 11, x.signOf(0, 2));
            CHECK.same("the month in the other slot", 12, x.restore(1 - slot));
            CHECK.same("painted in it", 3, x.signOf(0, 2));
            x.months(1);
            x.save(slot);
            CHECK.same("the slot has the latest state", 13, x.restore(slot));
        }
        SignReforms y = new SignReforms();
        y.save(0);
        y.sign(0, 1);
        y.restore(0);
        CHECK.same("a new object is a state, too", View.ofAll(savedIn(new SignReforms(), 0)), View.ofAll(y));
    }

    private static SignReforms savedIn(SignReforms x, int slot) {
        x.save(slot);
        return x;
    }

    /** "Returns the month." */
    private static void promise27Month() {
        CHECK.same("in a new object", 0, new SignReforms().save(0));
        CHECK.same("in a later month", 60, Towns.of("Rm60").save(1));
    }

    /** "Throws IndexOutOfBoundsException if there is no such save slot" */
    private static void promise27NoSuchSlot() {
        CHECK.indexRange("save", NEW, 0, 1, (x, slot) -> x.save(slot));
        CHECK.indexRange("save in slots that are used", () -> savedIn(savedIn(town(), 0), 1), 0, 1,
                (x, slot) -> x.save(slot));
    }

    /** "Replaces the state by the one in a save slot" */
    private static void promise28Replaces() {
        for (Consumer<SignReforms> action : actions()) {
            SignReforms x = savedIn(town(), 1);
            action.accept(x);
            x.restore(1);
            CHECK.same("all there is behind restore", View.ofAll(savedIn(town(), 1)), View.ofAll(x));
        }
        SignReforms y = savedIn(town(), 0);
        y.append('x');
        y.restore(0);
        CHECK.same("the text is no state", TEXT.length() + 1, y.clearText());
    }

    /** "and forgets all remembered states" */
    private static void promise28Forgets() {
        for (int actions = 0; actions <= 16; actions++) {
            int before = actions;
            Supplier<SignReforms> maker = () -> {
                SignReforms x = savedIn(town(), 0);
                for (int i = 0; i < before; i++) {
                    x.set(0, i);
                }
                x.restore(0);
                return x;
            };
            CHECK.state("undo behind restore behind " + actions, maker, x -> x.undo());
            SignReforms x = maker.get();
            x.set(0, 9);
            CHECK.same("undo of one action behind restore", 0, x.undo());
            CHECK.same("coins then", 4, x.setting(0));
        }
    }

    /** "The save slot keeps it." */
    private static void promise28SlotKeepsIt() {
        SignReforms x = savedIn(town(), 0);
        for (int i = 0; i < 3; i++) {
            x.months(5);
            x.set(1, 20 - i);
            x.sign(3, 66);
            CHECK.same("restore(0)", 2, x.restore(0));
            CHECK.same("the fine then", 3, x.setting(1));
            CHECK.same("signs then", 3, x.about(0));
        }
    }

    /** "Returns the month then." */
    private static void promise28Month() {
        SignReforms x = new SignReforms();
        x.save(0);
        x.months(60);
        x.save(1);
        x.months(1);
        CHECK.same("restore(0)", 0, x.restore(0));
        CHECK.same("restore(1)", 60, x.restore(1));
        CHECK.same("the month", 60, x.about(3));
    }

    /** "Throws IndexOutOfBoundsException if there is no such save slot" */
    private static void promise28NoSuchSlot() {
        CHECK.indexRange("restore", () -> savedIn(savedIn(town(), 0), 1), 0, 1, (x, slot) -> x.restore(slot));
        CHECK.index("restore of no slot when nothing is saved", NEW, x -> x.restore(2));
        CHECK.index("restore of no slot when nothing is saved", NEW, x -> x.restore(-1));
    }

    /** "Throws IllegalStateException if nothing has been saved in it" */
    private static void promise28NothingSaved() {
        CHECK.state("restore(0) in a new object", NEW, x -> x.restore(0));
        CHECK.state("restore(1) in a new object", NEW, x -> x.restore(1));
        CHECK.state("restore of the other slot", () -> savedIn(town(), 0), x -> x.restore(1));
        CHECK.state("restore of the other slot", () -> savedIn(town(), 1), x -> x.restore(0));
    }

    /** "since the last load" */
    private static void promise28SinceTheLastLoad() {
        for (int slot = 0; slot <= 1; slot++) {
            int s = slot;
            CHECK.state("restore(" + s + ") behind load", () -> {
                SignReforms x = savedIn(savedIn(town(), 0), 1);
                x.load();
                return savedIn(x, 1 - s);
            }, x -> x.restore(s));
            CHECK.accepted("restore(" + s + ") of what was saved behind load", () -> {
                SignReforms x = town();
                x.load();
                return savedIn(x, s);
            }, x -> x.restore(s));
            CHECK.accepted("restore(" + s + ") behind a load that throws", () -> {
                SignReforms x = savedIn(town(), s);
                x.append('x');
                try {
                    x.load();
                } catch (IllegalStateException e) {
                    return x;
                }
                return new SignReforms();
            }, x -> x.restore(s));
        }
    }

    /** "If several exceptions apply to a call, the one that its description names first is thrown." */
    private static void theFirstExceptionIsThrown() {
        Supplier<SignReforms> full = () -> {
            SignReforms x = Towns.of("Rs01.s02.s03.s04.s05.s06.s11.s12.o1o2o3o4o5o6o1o2o3o4y9");
            x.clearText();
            return Towns.write(x, "x".repeat(120));
        };
        CHECK.argument("append to a full text", full, x -> x.append(256));
        CHECK.index("signOf", full, x -> x.signOf(8, 8));
        CHECK.index("decreeOf", full, x -> x.decreeOf(10, 5));
        CHECK.index("guildOf", full, x -> x.guildOf(4, 4));
        CHECK.index("right", full, x -> x.right(8, 2));
        CHECK.index("sign for all reasons", full, x -> x.sign(4, 7));
        CHECK.index("sign of no guild in a full town", full, x -> x.sign(4, 1));
        CHECK.argument("sign of no word in a full town", full, x -> x.sign(3, 7));
        CHECK.argument("decree in a full town", full, x -> x.decree(0, 1, 1, 0));
        CHECK.argument("amnesty in another", full, x -> x.amnesty(10));
        CHECK.index("restore of no slot", full, x -> x.restore(2));
    }
}
