/** Compares answers with those that are due, and counts what is wrong. */
final class Due {
    static final int BAD = -1, STATE = -2, FULL = -3, NONE = -9;
    static final int LEAST = Integer.MIN_VALUE, MOST = Integer.MAX_VALUE;

    /** Calls on an object. */
    interface Run {
        void on(HeadTables x);

        default Run then(Run next) {
            return x -> {
                on(x);
                next.on(x);
            };
        }
    }

    /** One call, and its answer. */
    interface Call {
        long on(HeadTables x);
    }

    /** How many of the wrong answers are told. */
    private static final int TOLD = 50;

    private static int wrong = 0;
    private static int asked = 0;
    private static String sentence = "";
    private static String sentenceTold = "";

    /** A call that does not end is a wrong answer, too. */
    private static final int SECONDS = 300;

    static {
        Thread watch = new Thread(Due::watch);
        watch.setDaemon(true);
        watch.start();
    }

    private Due() {
    }

    private static void watch() {
        try {
            Thread.sleep(SECONDS * 1000L);
        } catch (InterruptedException e) {
            return;
        }
        System.out.println("\"" + sentence + "\": no end after " + SECONDS + " seconds");
        Runtime.getRuntime().halt(1);
    }

    /** The words of the document that the answers from here on are about; they must stand there. */
    static void sentence(String words) {
        sentence = words;
        asked++;
        if (!Document.says(words)) {
            tellWrong("the document does not say so");
        }
    }

    private static void tellWrong(String what) {
        wrong++;
        if (wrong > TOLD) {
            return;
        }
        if (!sentence.equals(sentenceTold)) {
            System.out.println("\"" + sentence + "\"");
            sentenceTold = sentence;
        }
        System.out.println(what);
    }

    static void due(String what, long got, long want) {
        asked++;
        if (got != want) {
            tellWrong(what + " answered " + got + ", due is " + want);
        }
    }

    static void dueText(String what, String got, String want) {
        asked++;
        if (!got.equals(want)) {
            tellWrong(what + " is \"" + got + "\", due is \"" + want + "\"");
        }
    }

    static void finish() {
        System.out.println(asked + " answers, " + wrong + " wrong");
        if (wrong != 0) {
            System.exit(1);
        }
    }

    /** A call that answers a code, and changes nothing: all other calls answer as if it had not been. */
    static void refused(Run run, String what, Call call, long code) {
        due(what, call.on(made(run)), code);
        unchanged(run, what, call);
    }

    /** A call that changes nothing. */
    static void unchanged(Run run, String what, Call call) {
        String with = Whole.after(run.then(x -> call.on(x)));
        dueText("all after " + what, with, Whole.after(run));
    }

    /** Two runs after which all calls answer the same. */
    static void alike(String what, Run one, Run other) {
        dueText("all after " + what, Whole.after(one), Whole.after(other));
    }

    static HeadTables made(Run run) {
        HeadTables x = new HeadTables();
        run.on(x);
        return x;
    }

    static HeadTables typed(HeadTables x, String text) {
        for (int i = 0; i < text.length(); i++) {
            x.type(text.charAt(i));
        }
        return x;
    }

    /** Tells an object a text; answers how many calls that took. */
    static int typedCalls(HeadTables x, String text) {
        due("tells() of " + text, typed(x, text).tells() >= 0 ? 1 : 0, 1);
        return text.length() + 1;
    }

    /** The calls that tell an object a text. */
    static Run text(String text) {
        return x -> {
            typed(x, text);
            int items = x.tells();
            if (items < 0) {
                due("tells() of " + text, items, 0);
            }
        };
    }

    /** A new object that has been told a text. */
    static HeadTables told(String text) {
        return made(text(text));
    }

    /** The error position of a text, or -1 if it has no error. */
    static int fault(String text) {
        int answer = typed(new HeadTables(), text).tells();
        return answer >= 0 ? -1 : -10 - answer;
    }

    static void puts(HeadTables x, int... fields) {
        for (int i = 0; i < fields.length; i++) {
            due("puts " + fields[i], x.puts(fields[i]), i + 1);
        }
    }

    /** Encodes fields as a section; answers its number. */
    static int sends(HeadTables x, int way, int... fields) {
        puts(x, fields);
        return x.sends(way);
    }

    /** Delivers all instructions, and acknowledges what is new. */
    static void settle(HeadTables x) {
        for (int i = 0; i < 3; i++) {
            x.feeds(99);
        }
        x.grows();
        x.hears(99);
    }

    /**
     * Writes capacities, none of which evicts, until so many octets wait in the instruction stream. If
     * more than one is written, the capacity is 40 or 41 then, or the sum of the sizes, if that is greater.
     */
    static void fill(HeadTables x, int octets) {
        int left = octets - x.count(9);
        int sum = x.table(0, 2);
        int now = x.table(0, 3);
        if (left % 2 == 1) {
            int length = left >= 3 && x.count(2) >= 160 ? 3 : 1;
            now = changeCapacity(x, now, Math.max(sum, length == 3 ? 159 : 29));
            left -= length;
        }
        for (; left > 0; left -= 2) {
            now = changeCapacity(x, now, Math.max(sum, 40));
        }
        due("octets that wait", x.count(9), octets);
    }

    private static int changeCapacity(HeadTables x, int now, int least) {
        int next = now == least ? least + 1 : least;
        due("capacity " + next, x.capacity(next), 0);
        return next;
    }

    /** All octets of a row as a text, separated by blanks. */
    static String octets(HeadTables x, int row) {
        StringBuilder all = new StringBuilder();
        for (int i = 0; i <= 200 && x.octet(row, i) >= 0; i++) {
            all.append(i == 0 ? "" : " ").append(x.octet(row, i));
        }
        return all.toString();
    }
}
