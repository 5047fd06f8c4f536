import java.util.function.Consumer;
import java.util.function.Supplier;

/** Counts the answers that are not the ones that are due, and prints each. */
final class Check {
    private final String test;
    private int wrong;

    Check(String test) {
        this.test = test;
    }

    void same(String what, long due, long got) {
        if (due != got) {
            report(what + " answered " + got + ", due is " + due);
        }
    }

    void same(String what, String due, String got) {
        if (!due.equals(got)) {
            report(what + " answered\n" + got + "\ndue is\n" + due);
        }
    }

    /** The call throws that exception, and the object answers as its twin that was not called. */
    void refused(String what, Class<? extends RuntimeException> due, Supplier<SignReforms> maker,
            Consumer<SignReforms> call) {
        SignReforms called = maker.get();
        SignReforms twin = maker.get();
        String thrown = "nothing";
        try {
            call.accept(called);
        } catch (RuntimeException e) {
            thrown = e.getClass().getName();
        }
        same(what + " throws", due.getName(), thrown);
        same(what + " and then all there is", View.ofAll(twin), View.ofAll(called));
    }

    void index(String what, Supplier<SignReforms> maker, Consumer<SignReforms> call) {
        refused(what, IndexOutOfBoundsException.class, maker, call);
    }

    void argument(String what, Supplier<SignReforms> maker, Consumer<SignReforms> call) {
        refused(what, IllegalArgumentException.class, maker, call);
    }

    void state(String what, Supplier<SignReforms> maker, Consumer<SignReforms> call) {
        refused(what, IllegalStateException.class, maker, call);
    }

    private void report(String text) {
        wrong++;
        System.out.println(test + ": " + text);
    }

    void end() {
        System.out.println(test + ": " + (wrong == 0 ? "all answers are as due" : wrong + " wrong"));
        if (wrong != 0) {
            System.exit(1);
        }
    }
}
