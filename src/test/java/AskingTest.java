/** Promises 19 to 25 and 28: what is asked. */
public final class AskingTest {
    public static void main(String[] args) {
        table();
        entry();
        holds();
        letter();
        got();
        waits();
        octet();
        count();
        noArgumentThrows();
        Due.finish();
    }

    private static HeadTables busy() {
        HeadTables x = Due.told("table 70;blocked 3;still c=;field a=;field b=11;field c=222;");
        x.capacity(23);
        x.inserts(0);
        x.inserts(1);
        x.inserts(2);
        return x;
    }

    private static void dueTable(HeadTables x, int who, int... want) {
        for (int what = 0; what < want.length; what++) {
            Due.due("table " + who + " " + what, x.table(who, what), want[what]);
        }
    }

    private static void table() {
        HeadTables x = busy();
        dueTable(x, 0, 3, 3, 20, 23, 0);
        dueTable(x, 1, 0, 0, 0, 0, Due.NONE);
        x.feeds(99);
        dueTable(x, 1, 3, 3, 20, 23, 0);
        x.grows();
        x.hears(1);
        x.inserts(2);
        dueTable(x, 0, 4, 3, 23, 23, 1);
        dueTable(x, 1, 3, 3, 20, 23, 0);
        x.feeds(99);
        dueTable(x, 1, 4, 3, 23, 23, 1);
        x.grows();
        x.hears(1);
        x.capacity(0);
        dueTable(x, 0, 4, 0, 0, 0, Due.NONE);
        dueTable(x, 1, 4, 3, 23, 23, 1);
        x.feeds(99);
        dueTable(x, 1, 4, 0, 0, 0, Due.NONE);
        Due.due("who 2", x.table(2, 0), Due.BAD);
        Due.due("who -1", x.table(-1, 0), Due.BAD);
        Due.due("what 5", x.table(0, 5), Due.BAD);
        Due.due("what -1", x.table(0, -1), Due.BAD);
    }

    private static void entry() {
        HeadTables x = busy();
        Due.due("size", x.entry(0, 2, 0), 8);
        Due.due("field", x.entry(0, 2, 1), 2);
        Due.due("field", x.entry(0, 0, 1), 0);
        Due.due("behind", x.entry(0, 3, 0), Due.NONE);
        Due.due("far behind", x.entry(0, 2147483647, 1), Due.NONE);
        Due.due("not yet", x.entry(1, 0, 0), Due.NONE);
        x.feeds(99);
        x.grows();
        x.hears(1);
        x.inserts(1);
        Due.due("gone", x.entry(0, 0, 1), Due.NONE);
        Due.due("not yet gone", x.entry(1, 0, 1), 0);
        Due.due("who 2", x.entry(2, 0, 0), Due.BAD);
        Due.due("who -1", x.entry(-1, 0, 0), Due.BAD);
        Due.due("place -1", x.entry(0, -1, 0), Due.BAD);
        Due.due("what 2", x.entry(0, 1, 2), Due.BAD);
        Due.due("what -1", x.entry(0, 1, -1), Due.BAD);
        Due.due("BAD before NONE", x.entry(0, 9, 2), Due.BAD);
    }

    private static void holds() {
        HeadTables x = busy();
        for (int i = 0; i < 40; i++) {
            if (i == 3 || i == 39) {
                x.puts(1);
            }
            x.sends(1);
        }
        Due.due("sections 3 and 39", x.holds(1), (1L << 39) + 8);
        Due.due("none", x.holds(0), 0);
        Due.due("no entry", x.holds(3), Due.BAD);
        Due.due("place -1", x.holds(-1), Due.BAD);
        x.feeds(99);
        x.grows();
        x.hears(1);
        x.inserts(0);
        Due.due("gone", x.holds(0), Due.BAD);
        x.quits(39);
        x.hears(1);
        Due.due("section 3", x.holds(1), 8);
    }

    private static void dueLetter(HeadTables x, int letter, int... want) {
        for (int what = 0; what < want.length; what++) {
            Due.due("letter " + letter + " " + what, x.letter(letter, what), want[what]);
        }
    }

    private static void letter() {
        HeadTables x = busy();
        Due.puts(x, 0, 1, 2);
        x.sends(0);
        Due.puts(x, 1, 0);
        x.sends(1);
        dueLetter(x, 0, 2 + 3 + 5 + 5, 0, 3, 0, 0, 0, 3);
        dueLetter(x, 1, 4, 2, 3, 0, 0, 0, 2);
        x.gives(1, 3);
        dueLetter(x, 1, 4, 2, 3, 3, 0, 0, 2);
        x.gives(1, 9);
        dueLetter(x, 1, 4, 2, 3, 4, 1, 0, 2);
        x.feeds(99);
        dueLetter(x, 1, 4, 2, 3, 4, 2, 0, 2);
        x.hears(1);
        dueLetter(x, 1, 4, 2, 3, 4, 2, 1, 2);
        x.quits(0);
        dueLetter(x, 0, 15, 0, 3, 0, 3, 0, 3);
        Due.due("no such section", x.letter(2, 0), Due.BAD);
        Due.due("section -1", x.letter(-1, 0), Due.BAD);
        Due.due("what 7", x.letter(0, 7), Due.BAD);
        Due.due("what -1", x.letter(0, -1), Due.BAD);
    }

    private static void got() {
        HeadTables x = busy();
        Due.puts(x, 2, 0, 2, 1);
        x.sends(2);
        x.sends(0);
        x.feeds(99);
        Due.due("not decoded", x.got(0, 0), Due.STATE);
        Due.due("no such index, not decoded", x.got(0, 4), Due.BAD);
        x.gives(0, 99);
        int[] want = {2, 0, 2, 1};
        for (int i = 0; i < want.length; i++) {
            Due.due("got " + i, x.got(0, i), want[i]);
        }
        Due.due("no such index", x.got(0, 4), Due.BAD);
        Due.due("index -1", x.got(0, -1), Due.BAD);
        Due.due("no such section", x.got(2, 0), Due.BAD);
        Due.due("section -1", x.got(-1, 0), Due.BAD);
        Due.due("an empty section", x.got(1, 0), Due.BAD);
    }

    private static void waits() {
        HeadTables x = Due.told("blocked 9;field a=;field b=;field c=;");
        x.capacity(60);
        for (int i = 0; i < 3; i++) {
            x.inserts(i);
        }
        int[] drafts = {2, 1, 0, 2, 1};
        for (int i = 0; i < drafts.length; i++) {
            x.puts(drafts[i]);
            x.sends(1);
        }
        Due.due("none yet", x.waits(0), Due.NONE);
        for (int i = drafts.length - 1; i >= 0; i--) {
            x.gives(i, 99);
        }
        int[] want = {2, 1, 4, 0, 3};
        for (int i = 0; i < want.length; i++) {
            Due.due("waits " + i, x.waits(i), want[i]);
        }
        Due.due("no more", x.waits(5), Due.NONE);
        Due.due("far more", x.waits(2147483647), Due.NONE);
        Due.due("index -1", x.waits(-1), Due.BAD);
        x.quits(1);
        Due.due("one less", x.waits(1), 4);
        Due.due("no more", x.waits(4), Due.NONE);
    }

    private static void octet() {
        HeadTables x = busy();
        x.puts(0);
        x.sends(1);
        Due.dueText("instructions", Due.octets(x, 40), "55 65 97 0 65 98 2 49 49 192 3 50 50 50");
        Due.dueText("acknowledgements", Due.octets(x, 41), "");
        Due.dueText("section", Due.octets(x, 0), "2 2 130");
        x.feeds(5);
        Due.dueText("those that wait", Due.octets(x, 40), "98 2 49 49 192 3 50 50 50");
        x.gives(0, 2);
        Due.dueText("all of the section", Due.octets(x, 0), "2 2 130");
        x.gives(0, 1);
        Due.dueText("all of the section", Due.octets(x, 0), "2 2 130");
        x.sends(0);
        x.quits(1);
        Due.dueText("acknowledgements", Due.octets(x, 41), "128 65");
        x.hears(1);
        Due.dueText("those that wait", Due.octets(x, 41), "65");
        Due.due("behind", x.octet(0, 3), Due.NONE);
        Due.due("far behind", x.octet(40, 2147483647), Due.NONE);
        Due.due("no such section", x.octet(2, 0), Due.BAD);
        Due.due("no such section", x.octet(39, 0), Due.BAD);
        Due.due("no such stream", x.octet(42, 0), Due.BAD);
        Due.due("row -1", x.octet(-1, 0), Due.BAD);
        Due.due("index -1", x.octet(40, -1), Due.BAD);
        Due.due("index -1", x.octet(41, -1), Due.BAD);
        Due.due("index -1", x.octet(0, -1), Due.BAD);
    }

    private static void dueCounts(HeadTables x, int... want) {
        for (int what = 0; what < want.length; what++) {
            Due.due("count " + what, x.count(what), want[what]);
        }
    }

    private static void count() {
        HeadTables x = busy();
        dueCounts(x, 3, 1, 70, 3, 0, 0, 0, 0, 0, 14, 0, 0, 0);
        x.puts(0);
        x.puts(1);
        x.type(65);
        dueCounts(x, 3, 1, 70, 3, 0, 0, 0, 0, 0, 14, 0, 2, 1);
        x.sends(1);
        x.puts(0);
        x.sends(1);
        x.sends(1);
        dueCounts(x, 3, 1, 70, 3, 0, 0, 3, 0, 2, 14, 0, 0, 1);
        x.gives(0, 99);
        dueCounts(x, 3, 1, 70, 3, 0, 0, 3, 1, 2, 14, 0, 0, 1);
        x.feeds(12);
        dueCounts(x, 3, 1, 70, 3, 0, 2, 3, 0, 2, 2, 1, 0, 1);
        x.hears(9);
        dueCounts(x, 3, 1, 70, 3, 2, 2, 3, 0, 0, 2, 0, 0, 1);
        Due.due("what 13", x.count(13), Due.BAD);
        Due.due("what -1", x.count(-1), Due.BAD);
    }

    private static void noArgumentThrows() {
        int[] odd = {-2147483648, -2147483647, -10, -2, -1, 40, 41, 42, 63, 64, 127, 128, 255, 256, 2147483646, 2147483647};
        for (int a : odd) {
            HeadTables x = busy();
            x.puts(0);
            x.sends(2);
            x.type(a);
            x.capacity(a);
            x.inserts(a);
            x.repeats(a);
            x.puts(a);
            x.sends(a);
            x.cost(a);
            x.feeds(a);
            x.quits(a);
            x.hears(a);
            x.holds(a);
            x.waits(a);
            x.number(a);
            x.count(a);
            for (int b : odd) {
                x.gives(a, b);
                x.table(a, b);
                x.letter(a, b);
                x.got(a, b);
                x.octet(a, b);
                x.coded(a, b);
                x.entry(0, a, b);
                x.entry(a, b, 0);
                x.spells(0, a, 0, b);
                x.spells(1, a, b, 0);
            }
        }
        Due.due("nothing thrown", 1, 1);
    }
}
