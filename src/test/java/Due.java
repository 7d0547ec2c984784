/** Compares answers with those that are due, and counts what is wrong. */
final class Due {
    static final int BAD = -1, STATE = -2, FULL = -3, NONE = -9;

    private static int wrong = 0;
    private static int asked = 0;

    private Due() {
    }

    static void due(String what, long got, long want) {
        asked++;
        if (got != want) {
            wrong++;
            System.out.println(what + " answered " + got + ", due is " + want);
        }
    }

    static void finish() {
        System.out.println(asked + " answers, " + wrong + " wrong");
        if (wrong != 0) {
            System.exit(1);
        }
    }

    static HeadTables typed(HeadTables x, String text) {
        for (int i = 0; i < text.length(); i++) {
            x.type(text.charAt(i));
        }
        return x;
    }

    /** A new object that has been told a text. */
    static HeadTables told(String text) {
        HeadTables x = typed(new HeadTables(), text);
        int items = x.tells();
        if (items < 0) {
            due("tells() of " + text, items, 0);
        }
        return x;
    }

    /** The error position of a text, or -1 if it has no error. */
    static int fault(String text) {
        int answer = typed(new HeadTables(), text).tells();
        return answer >= 0 ? -1 : -10 - answer;
    }

    static void puts(HeadTables x, int... fields) {
        for (int i = 0; i < fields.length; i++) {
            due("puts " + fields[i], x.puts(fields[i]), i + 1);
        }
    }

    /** All octets of a row as a text, separated by blanks. */
    static String octets(HeadTables x, int row) {
        StringBuilder all = new StringBuilder();
        for (int i = 0; x.octet(row, i) >= 0; i++) {
            all.append(i == 0 ? "" : " ").append(x.octet(row, i));
        }
        return all.toString();
    }

    static void dueText(String what, String got, String want) {
        asked++;
        if (!got.equals(want)) {
            wrong++;
            System.out.println(what + " is \"" + got + "\", due is \"" + want + "\"");
        }
    }
}
