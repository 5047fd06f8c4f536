import java.util.ArrayList;
import java.util.List;
import java.util.function.Consumer;
import java.util.function.Supplier;

/** Promises 19, 27 and 28: what is remembered and what is saved. */
public final class UndoTest {
    private static final Check CHECK = new Check("UndoTest");
    private static final String TEXT = "Rs0112233.s112121212.o1j125d3m02p1";

    public static void main(String[] args) {
        promise19EachActionIsTakenBack();
        promise19FourteenStates();
        promise19WhatIsNoAction();
        promise19TextAndSlotsStay();
        promise27Save();
        promise28Restore();
        promise28Throws();
        CHECK.end();
    }

    private static void promise19EachActionIsTakenBack() {
        List<Consumer<SignReforms>> actions = new ArrayList<>();
        actions.add(x -> x.sign(2, 345));
        actions.add(x -> x.sign(0, 112233));
        actions.add(x -> x.decree(0, 5, 0, 0));
        actions.add(x -> x.decree(1, 5, 2, 4));
        actions.add(x -> x.revoke(1));
        actions.add(x -> x.paint(0));
        actions.add(x -> x.paint(1));
        actions.add(x -> x.months(7));
        actions.add(x -> x.amnesty(5));
        actions.add(x -> x.set(0, 7));
        actions.add(x -> x.set(0, 4));
        actions.add(x -> x.set(1, 17));
        for (int i = 0; i < actions.size(); i++) {
            SignReforms x = Towns.of(TEXT);
            actions.get(i).accept(x);
            CHECK.same("undo of action " + i, 0, x.undo());
            CHECK.same("undone action " + i, View.ofAll(Towns.of(TEXT)), View.ofAll(x));
        }
    }

    private static void promise19FourteenStates() {
        SignReforms x = new SignReforms();
        for (int v = 1; v <= 20; v++) {
            x.set(0, v);
        }
        for (int left = 13; left >= 0; left--) {
            CHECK.same("undo", left, x.undo());
            CHECK.same("setting behind undo", left + 6, x.setting(0));
        }
        CHECK.same("the setting when all is undone", 6, x.setting(0));
        CHECK.state("undo of the forgotten state", () -> Towns.of("R"), y -> y.undo());
        for (int n = 1; n <= 3; n++) {
            x.months(n);
            x.set(1, n);
        }
        CHECK.same("undo", 5, x.undo());
        CHECK.same("undo", 4, x.undo());
        x.months(9);
        CHECK.same("month", 12, x.about(3));
        CHECK.same("undo", 4, x.undo());
        CHECK.same("month", 3, x.about(3));
        CHECK.same("fine", 2, x.setting(1));
        for (int left = 3; left >= 0; left--) {
            CHECK.same("undo", left, x.undo());
        }
        CHECK.same("month", 0, x.about(3));
    }

    private static void promise19WhatIsNoAction() {
        Supplier<SignReforms> maker = () -> {
            SignReforms x = Towns.of(TEXT);
            x.right(0, 1);
            x.why(0, 1, 0, 0);
            x.droppable();
            x.apart(0, 1);
            x.payable(99);
            x.worthIn(0);
            x.runScript(1, 5012);
            x.simulate(7, 60);
            x.save(1);
            x.append('d');
            x.clearText();
            return x;
        };
        CHECK.state("undo behind calls that are no actions", maker, x -> x.undo());
    }

    private static void promise19TextAndSlotsStay() {
        SignReforms x = Towns.of("R");
        x.months(1);
        x.append('d');
        x.save(0);
        x.months(1);
        x.undo();
        x.undo();
        CHECK.same("month", 0, x.about(3));
        CHECK.same("text", 2, x.clearText());
        CHECK.same("month in the slot", 1, x.restore(0));
    }

    private static void promise27Save() {
        SignReforms x = Towns.of(TEXT);
        CHECK.same("save(0)", 2, x.save(0));
        String saved = View.of(x);
        x.months(3);
        x.revoke(2);
        x.paint(0);
        x.sign(3, 66);
        x.set(1, 8);
        CHECK.same("save(1)", 5, x.save(1));
        String later = View.of(x);
        x.months(1);
        CHECK.same("restore(0)", 2, x.restore(0));
        CHECK.same("as saved in 0", saved, View.of(x));
        CHECK.same("restore(1)", 5, x.restore(1));
        CHECK.same("as saved in 1", later, View.of(x));
        x.months(4);
        CHECK.same("save(0) again", 9, x.save(0));
        x.months(4);
        CHECK.same("restore(0)", 9, x.restore(0));
        CHECK.index("save(-1)", () -> Towns.of(TEXT), y -> y.save(-1));
        CHECK.index("save(2)", () -> Towns.of(TEXT), y -> y.save(2));
    }

    private static void promise28Restore() {
        SignReforms x = Towns.of(TEXT);
        x.save(1);
        x.months(9);
        x.set(0, 1);
        CHECK.same("restore(1)", 2, x.restore(1));
        CHECK.same("restored, and nothing is remembered", View.ofAll(savedIn1()), View.ofAll(x));
        SignReforms y = savedIn1();
        y.months(1);
        y.restore(1);
        y.months(2);
        CHECK.same("states behind restore", 0, y.undo());
        y.months(5);
        CHECK.same("restore(1) again", 2, y.restore(1));
    }

    private static SignReforms savedIn1() {
        SignReforms x = Towns.of(TEXT);
        x.save(1);
        return x;
    }

    private static void promise28Throws() {
        Supplier<SignReforms> maker = () -> {
            SignReforms x = Towns.of(TEXT);
            x.save(0);
            x.months(1);
            return x;
        };
        CHECK.index("restore(-1)", maker, x -> x.restore(-1));
        CHECK.index("restore(2)", maker, x -> x.restore(2));
        CHECK.state("restore(1)", maker, x -> x.restore(1));
        Supplier<SignReforms> loaded = () -> {
            SignReforms x = maker.get();
            x.save(1);
            x.load();
            return x;
        };
        CHECK.state("restore(0) behind load", loaded, x -> x.restore(0));
        CHECK.state("restore(1) behind load", loaded, x -> x.restore(1));
    }
}
