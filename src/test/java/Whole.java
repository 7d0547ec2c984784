/**
 * All that can be seen of an object after a run of calls: what each call of asking answers, and what
 * later calls of every sort answer. The run is made anew for each group of questions, so that no
 * object is used for more than the 512 calls for which the document promises something.
 */
final class Whole {
    /** With the run, and what a group does before it asks, this stays below 512. */
    private static final int GROUP = 100;

    private final Due.Run run;
    private final StringBuilder all = new StringBuilder();

    private Whole(Due.Run run) {
        this.run = run;
    }

    static String after(Due.Run run) {
        Whole whole = new Whole(run);
        whole.asks();
        whole.goesOn();
        return whole.all.toString();
    }

    private interface Question {
        long on(HeadTables x, int i);
    }

    /** Asks questions 0 to n - 1. */
    private void ask(String name, int n, Question question) {
        HeadTables x = null;
        all.append(name).append(':');
        for (int i = 0; i < n; i++) {
            if (i % GROUP == 0) {
                x = Due.made(run);
            }
            all.append(' ').append(question.on(x, i));
        }
        all.append('\n');
    }

    private void asks() {
        HeadTables first = Due.made(run);
        int sections = first.count(6);
        int places = Math.max(first.table(0, 0), first.table(1, 0)) + 1;
        ask("count", 13, HeadTables::count);
        ask("table", 10, (x, i) -> x.table(i / 5, i % 5));
        ask("loose", 1, (x, i) -> x.loose());
        ask("cost", 3, HeadTables::cost);
        ask("waits", first.count(7) + 1, HeadTables::waits);
        ask("number", 8, (x, i) -> x.number(i + 1));
        ask("entry", places * 4, (x, i) -> x.entry(i / 2 % 2, i / 4, i % 2));
        ask("holds", places, HeadTables::holds);
        ask("letter", sections * 7, (x, i) -> x.letter(i / 7, i % 7));
        ask("got", sections * 6, (x, i) -> x.got(i / 6, i % 6));
        ask("instructions", first.count(9) + 1, (x, i) -> x.octet(40, i));
        ask("acknowledgements", first.count(10) + 1, (x, i) -> x.octet(41, i));
        for (int k = 0; k < sections; k++) {
            int section = k;
            ask("section", first.letter(k, 0) + 1, (x, i) -> x.octet(section, i));
        }
        ask("fields", 7 * 14, (x, i) -> x.spells(0, i / 14, i / 7 % 2, i % 7 - 1));
        ask("static entries", 8 * 14, (x, i) -> x.spells(1, i / 14, i / 7 % 2, i % 7 - 1));
    }

    private void goesOn() {
        then("takes", 7, (x, i) -> x.takes());
        then("hears", Math.min(81, Due.made(run).count(10) + 1), (x, i) -> x.hears(1) + 10 * x.count(4) + 10000 * x.loose());
        then("feeds", Math.min(100, Due.made(run).count(9) + 1), (x, i) -> x.feeds(1) + 10 * x.table(1, 2) + 10000 * x.table(1, 0));
        then("gives", Due.made(run).count(6), (x, i) -> x.gives(i, i % 3 + 1) + 10 * x.gives(i, 99) + 1000 * x.quits(i));
        then("settles", 1, (x, i) -> {
            Due.settle(x);
            return x.loose() + 100 * x.count(4) + 100000 * x.count(8) + 1000000L * x.table(1, 2);
        });
        then("sends", 3, (x, i) -> {
            int k = x.sends(2 - i % 3);
            return k + 100 * x.letter(k, 0) + 10000 * x.letter(k, 1) + 1000000L * x.count(9);
        });
        then("inserts", 7, (x, i) -> x.inserts(i) + 1000 * x.count(9));
        then("capacity", 1, (x, i) -> x.capacity(x.count(2)) + 1000L * x.count(9));
        then("everything", 90, this::everything);
        then("type", 1, (x, i) -> x.type(';') + 1000L * x.tells());
        then("tells", 1, (x, i) -> x.tells() + 1000L * x.count(12) + 1000000L * x.count(0) + 10000000L * x.count(2));
        then("clear", 1, (x, i) -> x.clear());
    }

    /** Uses all that there is, as one would use a new object, and looks at it. */
    private long everything(HeadTables x, int i) {
        switch (i) {
            case 0: return x.capacity(x.count(2));
            case 1, 2, 3: return x.inserts(i - 1);
            case 4, 5, 6: return x.puts(6 - i);
            case 7: return x.sends(1);
            case 8: return x.puts(1);
            case 9: return x.sends(2);
            case 10: return x.feeds(5);
            case 11: return x.grows();
            case 12: return x.hears(1);
            case 13: return x.repeats(x.table(0, 4));
            case 14: return x.loose();
            default: break;
        }
        int last = x.count(6) - 1;
        if (i < 30) {
            return x.letter(last - i / 7 % 2, i % 7);
        }
        if (i < 50) {
            return x.holds(x.table(0, 0) - i % 10);
        }
        if (i < 60) {
            return x.gives(last - i % 2, i % 5 + 1);
        }
        if (i < 70) {
            return x.feeds(i - 59) + 1000L * x.hears(1) + 1000000L * x.waits(0);
        }
        if (i < 84) {
            return x.letter(last - i / 7 % 2, i % 7);
        }
        return x.got(last - i % 2, i % 3);
    }

    /** Makes calls that change the object, one after the other. */
    private void then(String name, int n, Question question) {
        HeadTables x = Due.made(run);
        all.append(name).append(':');
        for (int i = 0; i < n; i++) {
            all.append(' ').append(question.on(x, i));
        }
        all.append('\n');
    }
}
