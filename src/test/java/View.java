/** Tells what an object answers, as a text, in fewer calls than are promised. */
final class View {
    private View() {
    }

    /** All that can be seen without a change: some 170 calls. */
    static String of(SignReforms x) {
        StringBuilder view = new StringBuilder("about");
        view.append(sums(x));
        view.append("\nsettings ").append(x.setting(0)).append(' ').append(x.setting(1));
        view.append("\ntext error ").append(x.errorPosition());
        int signs = x.about(0);
        for (int s = 0; s < signs; s++) {
            view.append("\nsign ").append(s).append(':');
            for (int what = 0; what <= 7; what++) {
                view.append(' ').append(x.signOf(s, what));
            }
            view.append(" right ").append(x.right(s, 0)).append(' ').append(x.right(s, 1));
        }
        int decrees = x.about(1);
        for (int k = 0; k < decrees; k++) {
            view.append("\ndecree ").append(k).append(':');
            for (int what = 0; what <= 4; what++) {
                view.append(' ').append(x.decreeOf(k, what));
            }
        }
        for (int g = 0; g <= 3; g++) {
            view.append("\nguild ").append(g).append(':');
            for (int what = 0; what <= 3; what++) {
                view.append(' ').append(x.guildOf(g, what));
            }
        }
        return view.append('\n').toString();
    }

    /** Also the length of the text, what is remembered and what is saved; that changes the object. */
    static String ofAll(SignReforms x) {
        return of(x) + undone(x) + restored(x, 0) + restored(x, 1) + "text of " + x.clearText() + "\n";
    }

    private static String undone(SignReforms x) {
        StringBuilder view = new StringBuilder();
        try {
            for (int i = 0; i < 20; i++) {
                view.append("undo ").append(x.undo()).append(sums(x)).append('\n');
            }
        } catch (IllegalStateException e) {
            view.append("none is remembered\n");
        }
        return view.toString();
    }

    private static String restored(SignReforms x, int slot) {
        try {
            return "slot of month " + x.restore(slot) + sums(x) + "\n";
        } catch (IllegalStateException e) {
            return "empty slot\n";
        }
    }

    private static String sums(SignReforms x) {
        StringBuilder view = new StringBuilder();
        for (int what = 0; what <= 11; what++) {
            view.append(' ').append(x.about(what));
        }
        return view.toString();
    }
}
