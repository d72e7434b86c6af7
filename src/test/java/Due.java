/** Counts the answers that are not as due, and prints them. */
final class Due {
    private final String where;
    private int wrong = 0;
    private int asked = 0;

    Due(String where) {
        this.where = where;
    }

    void is(String call, long got, long want) {
        asked++;
        if (got != want) {
            wrong++;
            System.out.println(where + ": " + call + " answered " + got + ", due is " + want);
        }
    }

    void is(String call, String got, String want) {
        asked++;
        if (!got.equals(want)) {
            wrong++;
            System.out.println(where + ": " + call + " answered '" + got + "', due is '" + want + "'");
        }
    }

    void holds(String what, boolean so) {
        is(what, so ? 1 : 0, 1);
    }

    int wrong() {
        return wrong;
    }

    int asked() {
        return asked;
    }

    /** Packs up to 8 characters as put wants them. */
    static long packed(String characters) {
        long number = 0;
        for (int i = 0; i < characters.length(); i++) {
            number = number << 8 | characters.charAt(i);
        }
        return number;
    }

    /** Puts a text of any length on the pad, and returns the last answer. */
    static int type(GenerationNames x, String text) {
        int answer = 0;
        for (int i = 0; i < text.length(); i += 8) {
            answer = x.put(packed(text.substring(i, Math.min(text.length(), i + 8))));
        }
        return answer;
    }
}
