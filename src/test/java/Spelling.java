/** The right spelling once more, by replacing texts. */
final class Spelling {
    private Spelling() {
    }

    /** What the decrees in force make of a word; 0 if no letters are left. */
    static int of(String word, SignReforms x) {
        String spelling = word;
        int decrees = x.about(1);
        for (int k = 0; k < decrees; k++) {
            String a = String.valueOf(x.decreeOf(k, 1));
            if (x.decreeOf(k, 0) == 0) {
                spelling = spelling.replace(a, "");
            } else if (x.decreeOf(k, 0) == 2) {
                spelling = spelling.replaceAll(a + "+", a);
            } else {
                spelling = spelling.replace(a + x.decreeOf(k, 2), String.valueOf(x.decreeOf(k, 3)));
            }
        }
        return spelling.isEmpty() ? 0 : Integer.parseInt(spelling);
    }
}
