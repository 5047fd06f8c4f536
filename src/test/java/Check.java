import java.util.function.Consumer;
import java.util.function.ObjIntConsumer;
import java.util.function.Supplier;

/** Counts the answers that are not the ones that are due, and prints each. */
final class Check {
    private final String test;
    private int wrong;

    Check(String test) {
        this.test = test;
    }

    void same(String what, long due, long got) {
        if (due != got) {
            report(what + " answered " + got + ", due is " + due);
        }
    }

    void same(String what, String due, String got) {
        if (!due.equals(got)) {
            report(what + " answered\n" + got + "\ndue is\n" + due);
        }
    }

    /** The call throws that exception, and the object answers as its twin that was not called. */
    void refused(String what, Class<? extends RuntimeException> due, Supplier<SignReforms> maker,
            Consumer<SignReforms> call) {
        SignReforms called = maker.get();
        SignReforms twin = maker.get();
        String thrown = "nothing";
        try {
            call.accept(called);
        } catch (RuntimeException e) {
            thrown = e.getClass().getName();
        }
        same(what + " throws", due.getName(), thrown);
        same(what + " and then all there is", View.ofAll(twin), View.ofAll(called));
    }

    void index(String what, Supplier<SignReforms> maker, Consumer<SignReforms> call) {
        refused(what, IndexOutOfBoundsException.class, maker, call);
    }

    void argument(String what, Supplier<SignReforms> maker, Consumer<SignReforms> call) {
        refused(what, IllegalArgumentException.class, maker, call);
    }

    void state(String what, Supplier<SignReforms> maker, Consumer<SignReforms> call) {
        refused(what, IllegalStateException.class, maker, call);
    }

    /** The call is good for the least and the most number, and refused beside and far behind them. */
    void range(String what, Class<? extends RuntimeException> due, Supplier<SignReforms> maker, int least, int most,
            ObjIntConsumer<SignReforms> call) {
        for (int good : new int[] {least, most}) {
            accepted(what + " of " + good, maker, x -> call.accept(x, good));
        }
        for (int bad : new int[] {least - 1, most + 1, Integer.MIN_VALUE, Integer.MAX_VALUE}) {
            refused(what + " of " + bad, due, maker, x -> call.accept(x, bad));
        }
    }

    void indexRange(String what, Supplier<SignReforms> maker, int least, int most, ObjIntConsumer<SignReforms> call) {
        range(what, IndexOutOfBoundsException.class, maker, least, most, call);
    }

    void argumentRange(String what, Supplier<SignReforms> maker, int least, int most,
            ObjIntConsumer<SignReforms> call) {
        range(what, IllegalArgumentException.class, maker, least, most, call);
    }

    void accepted(String what, Supplier<SignReforms> maker, Consumer<SignReforms> call) {
        try {
            call.accept(maker.get());
        } catch (RuntimeException e) {
            report(what + " throws " + e.getClass().getName());
        }
    }

    private void report(String text) {
        wrong++;
        System.out.println(test + ": " + text);
    }

    void end() {
        System.out.println(test + ": " + (wrong == 0 ? "all answers are as due" : wrong + " wrong"));
        if (wrong != 0) {
            System.exit(1);
        }
    }
}
