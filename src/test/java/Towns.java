/** Makes objects for tests. */
final class Towns {
    private Towns() {
    }

    static SignReforms write(SignReforms x, String text) {
        for (int i = 0; i < text.length(); i++) {
            x.append(text.charAt(i));
        }
        return x;
    }

    /** The town that a text loads; no state is remembered in it. */
    static SignReforms of(String text) {
        SignReforms x = write(new SignReforms(), text);
        x.load();
        return x;
    }
}
