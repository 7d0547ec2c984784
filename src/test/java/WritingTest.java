/** Promises 6 to 13: the encoder's instructions, the draft, and the sections that it encodes. */
public final class WritingTest {
    public static void main(String[] args) {
        capacity();
        capacityEvicts();
        capacityFull();
        inserts();
        insertsForms();
        insertsEvicts();
        insertsFull();
        repeats();
        repeatsEvictsItself();
        repeatsFar();
        repeatsFull();
        putsAndTakes();
        sendsStill();
        sendsSafe();
        sendsBold();
        sendsNames();
        sendsGreedy();
        sendsGreedyHolds();
        sendsGreedyFull();
        sendsFarPlaces();
        sendsRisk();
        sendsForty();
        requiredCountWraps();
        cost();
        loose();
        Due.finish();
    }

    /** Delivers all instructions and acknowledges them. */
    private static void acknowledge(HeadTables x) {
        for (int i = 0; i < 3; i++) {
            x.feeds(99);
        }
        x.grows();
        x.hears(99);
    }

    private static void capacity() {
        HeadTables x = Due.told("table 200;field a=;");
        Due.due("capacity 0 at first", x.capacity(0), Due.STATE);
        Due.due("capacity 201", x.capacity(201), Due.BAD);
        Due.due("capacity -1", x.capacity(-1), Due.BAD);
        Due.due("capacity 30", x.capacity(30), 0);
        Due.dueText("capacity 30", Due.octets(x, 40), "62");
        Due.due("capacity 30 again", x.capacity(30), Due.STATE);
        Due.due("capacity 31", x.capacity(31), 0);
        Due.due("capacity 158", x.capacity(158), 0);
        Due.due("capacity 159", x.capacity(159), 0);
        Due.due("capacity 200", x.capacity(200), 0);
        Due.dueText("capacities", Due.octets(x, 40), "62 63 0 63 127 63 128 1 63 169 1");
        Due.due("the table's capacity", x.table(0, 3), 200);
        Due.due("the decoder's capacity", x.table(1, 3), 0);
        HeadTables none = Due.told("table 0;");
        Due.due("capacity 0 of 0", none.capacity(0), Due.STATE);
        Due.due("capacity 1 of 0", none.capacity(1), Due.BAD);
    }

    private static void capacityEvicts() {
        HeadTables x = Due.told("field a=;field b=1;field c=22;");
        x.capacity(60);
        x.inserts(0);
        x.inserts(1);
        x.inserts(2);
        Due.due("sum", x.table(0, 2), 18);
        Due.due("capacity 17, nothing known", x.capacity(17), Due.STATE);
        Due.due("capacity 18", x.capacity(18), 0);
        Due.due("capacity 60", x.capacity(60), 0);
        acknowledge(x);
        Due.due("capacity 12 evicts 2", x.capacity(12), 2);
        Due.due("lowest", x.table(0, 4), 2);
        Due.due("count", x.table(0, 0), 3);
        Due.due("there", x.table(0, 1), 1);
        Due.due("sum", x.table(0, 2), 7);
        Due.due("capacity", x.table(0, 3), 12);
        Due.due("the decoder keeps", x.table(1, 1), 3);
        x.feeds(1);
        Due.due("the decoder evicts", x.table(1, 1), 1);
        Due.due("the decoder's capacity", x.table(1, 3), 12);
        x.puts(2);
        x.sends(0);
        Due.due("capacity 6, held", x.capacity(6), Due.STATE);
        Due.due("capacity 7, held", x.capacity(7), 0);
        Due.due("held", x.table(0, 1), 1);
    }

    private static void capacityFull() {
        HeadTables x = Due.told("table 200;");
        for (int i = 0; i < 100; i++) {
            Due.due("capacity", x.capacity(40 + i % 2), 0);
        }
        Due.due("octets", x.count(9), 200);
        Due.due("FULL", x.capacity(1), Due.FULL);
        Due.due("STATE before FULL", x.capacity(41), Due.STATE);
        Due.due("BAD before FULL", x.capacity(201), Due.BAD);
        x.feeds(1);
        Due.due("two octets for one", x.capacity(40), Due.FULL);
        Due.due("the capacity stays", x.table(0, 3), 41);
        Due.due("one octet for one", x.capacity(30), 0);
        Due.due("octets", x.count(9), 200);
    }

    private static void inserts() {
        HeadTables x = Due.told("table 30;field abcdef=123456;field a=;field bcdefg=12345;");
        Due.due("no such field", x.inserts(3), Due.BAD);
        Due.due("field -1", x.inserts(-1), Due.BAD);
        Due.due("capacity 0", x.inserts(1), Due.STATE);
        x.capacity(15);
        Due.due("size above the capacity", x.inserts(0), Due.STATE);
        Due.due("size equal to the capacity", x.inserts(2), 0);
        Due.due("nothing known", x.inserts(1), Due.STATE);
        Due.due("count", x.table(0, 0), 1);
        Due.dueText("octets", Due.octets(x, 40), "47 70 98 99 100 101 102 103 5 49 50 51 52 53");
        Due.due("sum", x.table(0, 2), 15);
    }

    private static void insertsForms() {
        HeadTables x = Due.told("table 100;still s=1;still s=2;still t=;field s=2;field t=x;field u=;field u=9;field v=;");
        x.capacity(100);
        x.feeds(9);
        x.inserts(0);
        Due.dueText("name of a static entry, the lowest", Due.octets(x, 40), "192 1 50");
        x.feeds(9);
        x.inserts(1);
        Due.dueText("another static entry", Due.octets(x, 40), "194 1 120");
        x.feeds(9);
        x.inserts(2);
        Due.dueText("a new name", Due.octets(x, 40), "65 117 0");
        x.feeds(9);
        x.inserts(4);
        x.feeds(9);
        x.inserts(3);
        Due.dueText("the name of an entry", Due.octets(x, 40), "129 1 57");
        x.feeds(9);
        x.inserts(2);
        Due.dueText("the highest entry with the name", Due.octets(x, 40), "128 0");
        Due.due("an entry like one that is there", x.table(0, 1), 6);
        x.feeds(9);
        Due.due("the decoder's entry", x.entry(1, 5, 1), 2);
        Due.due("static entries' names in the table", x.inserts(0), 6);
        Due.dueText("form a before form b", Due.octets(x, 40), "192 1 50");
        HeadTables y = Due.told("table 200;field a=;field b=;field b=1;");
        y.capacity(200);
        y.inserts(1);
        for (int i = 1; i < 38; i++) {
            y.repeats(i > 1 ? 1 : y.inserts(0));
        }
        y.feeds(99);
        Due.due("the count", y.table(0, 0), 39);
        y.grows();
        y.hears(1);
        y.inserts(2);
        Due.dueText("the name of the entry 38 before", Due.octets(y, 40), "166 1 49");
    }

    private static void insertsEvicts() {
        HeadTables x = Due.told("table 20;field a=1;field a=2;field b=;field cccccc=;field a=;");
        x.capacity(17);
        x.inserts(0);
        x.inserts(1);
        x.inserts(2);
        Due.due("sum", x.table(0, 2), 17);
        Due.due("place 3, nothing known", x.inserts(0), Due.STATE);
        acknowledge(x);
        Due.due("a new entry for an old one", x.inserts(1), 3);
        Due.dueText("the name of one that stays", Due.octets(x, 40), "129 1 50");
        Due.due("lowest", x.table(0, 4), 1);
        Due.due("size 10 evicts two", x.inserts(3), 4);
        Due.due("lowest", x.table(0, 4), 3);
        Due.due("sum", x.table(0, 2), 16);
        Due.due("above the known count", x.inserts(2), Due.STATE);
        acknowledge(x);
        Due.due("decoder's lowest", x.table(1, 4), 3);
        Due.due("the name of one that goes", x.inserts(4), 5);
        Due.dueText("it is told all the same", Due.octets(x, 40), "129 0");
        Due.due("lowest", x.table(0, 4), 4);
        x.feeds(9);
        Due.due("the decoder's entry", x.entry(1, 5, 1), 4);
        Due.due("the decoder's size", x.entry(1, 5, 0), 5);
    }

    private static void insertsFull() {
        HeadTables x = Due.told("table 200;field abcdef=12345;field b=1;field g=;");
        x.capacity(199);
        for (int i = 0; i < 13; i++) {
            Due.due("inserts", x.inserts(0), i);
        }
        Due.due("no room in the table", x.inserts(0), Due.STATE);
        // 3 octets of the capacity, 13 of the first insertion, 7 of each other
        Due.due("octets", x.count(9), 3 + 13 + 12 * 7);
        for (int i = 0; i < 33; i++) {
            x.capacity(200 - i % 2);
        }
        Due.due("octets", x.count(9), 199);
        Due.due("BAD", x.inserts(3), Due.BAD);
        Due.due("STATE before FULL", x.inserts(0), Due.STATE);
        Due.due("FULL", x.inserts(2), Due.FULL);
        Due.due("count", x.table(0, 0), 13);
        x.feeds(1);
        Due.due("still FULL", x.inserts(2), Due.FULL);
        x.feeds(1);
        Due.due("room", x.inserts(2), 13);
        Due.due("octets", x.count(9), 200);
    }

    private static void repeats() {
        HeadTables x = Due.told("field a=1;field b=;");
        Due.due("no entry", x.repeats(0), Due.BAD);
        x.capacity(23);
        x.inserts(0);
        x.inserts(1);
        x.feeds(99);
        Due.due("repeats", x.repeats(0), 2);
        Due.dueText("octets", Due.octets(x, 40), "1");
        Due.due("the field", x.entry(0, 2, 1), 0);
        Due.due("the size", x.entry(0, 2, 0), 6);
        Due.due("place -1", x.repeats(-1), Due.BAD);
        Due.due("place 3", x.repeats(3), Due.BAD);
        Due.due("sum", x.table(0, 2), 17);
        Due.due("repeats the last", x.repeats(2), 3);
        Due.dueText("octets", Due.octets(x, 40), "1 0");
        Due.due("no room", x.repeats(2), Due.STATE);
        acknowledge(x);
        Due.due("room by evicting", x.repeats(1), 4);
        Due.due("place 0 is gone", x.repeats(0), Due.BAD);
        x.feeds(9);
        Due.due("the decoder's entry", x.entry(1, 4, 1), 1);
    }

    private static void repeatsEvictsItself() {
        HeadTables x = Due.told("field abc=1;field d=;");
        x.capacity(12);
        x.inserts(0);
        acknowledge(x);
        Due.due("repeats the one that goes", x.repeats(0), 1);
        Due.due("there", x.table(0, 1), 1);
        Due.due("field", x.entry(0, 1, 1), 0);
        Due.due("place 0 is gone", x.entry(0, 0, 0), Due.NONE);
        x.feeds(9);
        Due.due("the decoder's", x.entry(1, 1, 1), 0);
        Due.due("unknown yet", x.repeats(1), Due.STATE);
    }

    private static void repeatsFar() {
        HeadTables x = Due.told("table 200;field a=;");
        x.capacity(200);
        x.inserts(0);
        for (int i = 1; i < 40; i++) {
            Due.due("repeats", x.repeats(i - 1), i);
        }
        Due.due("sum", x.table(0, 2), 200);
        x.feeds(99);
        x.grows();
        x.hears(9);
        Due.due("40 are known", x.count(4), 40);
        Due.due("none waits", x.count(9), 0);
        Due.due("repeats 9", x.repeats(9), 40);
        Due.due("repeats 9 again", x.repeats(9), 41);
        Due.due("repeats 12", x.repeats(12), 42);
        Due.dueText("30, 31, and 29", Due.octets(x, 40), "30 31 0 29");
        Due.due("repeats 3", x.repeats(3), 43);
        Due.dueText("and 39", Due.octets(x, 40), "30 31 0 29 31 8");
    }

    private static void repeatsFull() {
        HeadTables x = Due.told("table 200;field a=;");
        x.capacity(12);
        x.inserts(0);
        for (int i = 0; i < 98; i++) {
            x.capacity(40 + i % 2);
        }
        Due.due("octets", x.count(9), 200);
        Due.due("BAD before FULL", x.repeats(1), Due.BAD);
        Due.due("FULL", x.repeats(0), Due.FULL);
        Due.due("count", x.table(0, 0), 1);
        x.feeds(1);
        Due.due("room", x.repeats(0), 1);
        x.feeds(2);
        x.capacity(12);
        Due.due("octets", x.count(9), 199);
        x.capacity(11);
        Due.due("octets", x.count(9), 200);
        Due.due("STATE before FULL", x.repeats(1), Due.STATE);
    }

    private static void putsAndTakes() {
        HeadTables x = Due.told("field a=;field b=;");
        Due.due("takes from nothing", x.takes(), Due.STATE);
        Due.due("puts 2", x.puts(2), Due.BAD);
        Due.due("puts -1", x.puts(-1), Due.BAD);
        Due.due("puts", x.puts(1), 1);
        Due.due("puts", x.puts(0), 2);
        Due.due("takes", x.takes(), 0);
        Due.due("puts", x.puts(1), 2);
        for (int i = 3; i <= 6; i++) {
            Due.due("puts", x.puts(0), i);
        }
        Due.due("puts a 7th", x.puts(0), Due.FULL);
        Due.due("puts a bad 7th", x.puts(2), Due.BAD);
        Due.due("draft", x.count(11), 6);
        int[] want = {0, 0, 0, 0, 1, 1};
        for (int i = 0; i < 6; i++) {
            Due.due("takes", x.takes(), want[i]);
        }
        Due.due("takes from nothing", x.takes(), Due.STATE);
    }

    private static void sendsStill() {
        HeadTables x = Due.told("still n=1;still a=2;still a=3;still a=3;field a=3;field a=4;field bc=56;field n=;");
        x.capacity(60);
        Due.puts(x, 0, 1, 2, 3);
        Due.due("way 3", x.sends(3), Due.BAD);
        Due.due("way -1", x.sends(-1), Due.BAD);
        Due.due("sends", x.sends(0), 0);
        Due.due("draft", x.count(11), 0);
        Due.dueText("octets", Due.octets(x, 0), "0 0 194 81 1 52 34 98 99 2 53 54 80 0");
        Due.due("required", x.letter(0, 1), 0);
        Due.due("base", x.letter(0, 2), 0);
        x.inserts(0);
        Due.puts(x, 0);
        x.sends(1);
        Due.dueText("a static entry before an entry", Due.octets(x, 1), "0 0 194");
        x.inserts(1);
        Due.puts(x, 1);
        x.sends(1);
        Due.dueText("an entry before a static name", Due.octets(x, 2), "3 0 128");
        Due.puts(x);
        x.sends(2);
        Due.dueText("an empty section", Due.octets(x, 3), "0 0");
        Due.due("base", x.letter(3, 2), 2);
        HeadTables y = Due.told("still a=;still a=;still a=;still a=;still a=;still a=;still b=;still c=;field c=1;field c=;");
        Due.puts(y, 0, 1);
        y.sends(0);
        Due.dueText("the last static entry", Due.octets(y, 0), "0 0 87 1 49 199");
    }

    private static void sendsSafe() {
        HeadTables x = Due.told("field a=1;field b=2;");
        x.capacity(60);
        x.inserts(0);
        Due.puts(x, 0, 1);
        x.sends(0);
        Due.dueText("nothing known", Due.octets(x, 0), "0 0 33 97 1 49 33 98 1 50");
        acknowledge(x);
        x.inserts(0);
        x.inserts(1);
        Due.puts(x, 0, 1);
        x.sends(0);
        Due.dueText("one known", Due.octets(x, 1), "2 2 130 33 98 1 50");
        Due.due("required", x.letter(1, 1), 1);
        Due.due("base", x.letter(1, 2), 3);
        Due.due("holds 0", x.holds(0), 2);
        Due.due("holds 1", x.holds(1), 0);
        Due.due("at risk", x.count(8), 0);
    }

    private static void sendsBold() {
        HeadTables x = Due.told("field a=1;field b=2;field c=3;");
        x.capacity(60);
        x.inserts(0);
        x.inserts(1);
        x.inserts(0);
        Due.puts(x, 0, 1, 2);
        x.sends(1);
        Due.dueText("the highest places", Due.octets(x, 0), "4 0 128 129 33 99 1 51");
        Due.due("required", x.letter(0, 1), 3);
        Due.due("holds 0", x.holds(0), 0);
        Due.due("holds 1", x.holds(1), 1);
        Due.due("holds 2", x.holds(2), 1);
        Due.due("nothing was inserted", x.table(0, 0), 3);
        Due.due("number of fields", x.letter(0, 6), 3);
    }

    private static void sendsNames() {
        HeadTables x = Due.told("table 100;field a=1;field a=2;field b=;field b=3;field c=;");
        x.capacity(100);
        x.inserts(0);
        x.inserts(4);
        x.inserts(0);
        x.inserts(2);
        acknowledge(x);
        Due.puts(x, 1, 3);
        x.sends(0);
        Due.dueText("names of entries", Due.octets(x, 0), "5 0 65 1 50 64 1 51");
        Due.due("required", x.letter(0, 1), 4);
        Due.due("holds 0", x.holds(0), 0);
        Due.due("holds 2", x.holds(2), 1);
        Due.due("holds 3", x.holds(3), 1);
        x.inserts(0);
        Due.puts(x, 1);
        x.sends(0);
        Due.dueText("safe: a lower one", Due.octets(x, 1), "4 2 66 1 50");
        Due.puts(x, 1);
        x.sends(1);
        Due.dueText("bold: the highest", Due.octets(x, 2), "6 0 64 1 50");
    }

    private static void sendsGreedy() {
        HeadTables x = Due.told("still a=;field a=1;field b=2;field a=;field b=3;");
        x.capacity(19);
        x.feeds(9);
        Due.puts(x, 0, 1, 2, 0, 3);
        Due.due("cost", x.cost(2), 2 + 5 + 3 + 4 + 3);
        x.sends(2);
        Due.dueText("section", Due.octets(x, 0), "4 130 16 17 192 16 18");
        Due.dueText("instructions", Due.octets(x, 40), "192 1 49 65 98 1 50 128 1 51");
        Due.due("count", x.table(0, 0), 3);
        Due.due("base", x.letter(0, 2), 0);
        Due.due("required", x.letter(0, 1), 3);
        for (int place = 0; place < 3; place++) {
            Due.due("holds", x.holds(place), 1);
        }
        HeadTables y = Due.told("field a=1;field a=2;field bbb=345;");
        y.capacity(15);
        y.inserts(0);
        Due.puts(y, 0, 1, 2);
        y.sends(2);
        Due.dueText("no room for the third", Due.octets(y, 0), "3 128 128 16 35 98 98 98 3 51 52 53");
        HeadTables z = Due.told("field a=1;field a=2;field bbb=345;field a=3;");
        z.capacity(12);
        Due.puts(z, 0, 1, 3);
        z.sends(2);
        Due.dueText("the name of a place from the base on", Due.octets(z, 0), "3 129 16 17 1 1 51");
        Due.due("holds", z.holds(1), 1);
        HeadTables u = Due.told("field a=1;field a=2;");
        u.capacity(6);
        Due.puts(u, 0, 1);
        u.sends(2);
        Due.dueText("the name of the place at the base", Due.octets(u, 0), "2 128 16 0 1 50");
        HeadTables v = Due.told("field a=;field b=;field c=;field d=;field e=;field e=12;");
        v.capacity(25);
        Due.puts(v, 0, 1, 2, 3, 4, 5);
        v.sends(2);
        Due.dueText("the name of the fifth place", Due.octets(v, 0), "6 132 16 17 18 19 20 4 2 49 50");
    }

    private static void sendsGreedyHolds() {
        HeadTables x = Due.told("field a=1;field b=2;field c=3;field d=4;");
        x.capacity(12);
        x.inserts(0);
        x.inserts(1);
        acknowledge(x);
        Due.puts(x, 0, 2, 1);
        x.sends(2);
        Due.dueText("what is referred to stays", Due.octets(x, 0), "3 0 129 33 99 1 51 128");
        HeadTables y = Due.told("field a=1;field b=2;field c=3;field d=4;");
        y.capacity(12);
        y.inserts(0);
        y.inserts(1);
        acknowledge(y);
        Due.puts(y, 2, 0, 3, 1);
        y.sends(2);
        Due.dueText("the rest is evicted", Due.octets(y, 0), "5 129 16 17 33 100 1 52 33 98 1 50");
        Due.due("lowest", y.table(0, 4), 2);
        HeadTables z = Due.told("field a=1;field a=2;field b=3;");
        z.capacity(6);
        z.inserts(0);
        acknowledge(z);
        Due.puts(z, 1, 2);
        z.sends(2);
        Due.dueText("the name of an entry that goes", Due.octets(z, 0), "3 128 16 33 98 1 51");
        Due.dueText("the instruction", Due.octets(z, 40), "128 1 50");
    }

    private static void sendsGreedyFull() {
        HeadTables x = Due.told("table 200;field abcdef=1;field g=;");
        for (int i = 0; i < 98; i++) {
            x.capacity(100 + i % 2);
        }
        Due.due("octets", x.count(9), 196);
        Due.puts(x, 0, 1);
        Due.due("cost", x.cost(2), 2 + 9 + 1 + 3);
        x.sends(2);
        Due.dueText("too long for the stream, then short enough", Due.octets(x, 0), "2 128 38 97 98 99 100 101 102 1 49 16");
        Due.due("octets", x.count(9), 199);
        Due.due("count", x.table(0, 0), 1);
        Due.puts(x, 0);
        Due.due("cost", x.cost(2), 11);
    }

    private static void sendsFarPlaces() {
        HeadTables x = Due.told("table 200;blocked 9;field a=;field a=1;field b=;");
        x.capacity(200);
        x.inserts(2);
        x.inserts(0);
        for (int i = 2; i < 40; i++) {
            Due.due("repeats", x.repeats(1), i);
        }
        x.feeds(99);
        x.grows();
        x.hears(1);
        Due.puts(x, 2);
        x.sends(0);
        Due.dueText("39 before the base", Due.octets(x, 0), "2 39 167");
        HeadTables y = Due.told("table 200;field a=;field b=;field b=1;field a=22;");
        y.capacity(200);
        y.inserts(1);
        for (int i = 0; i < 16; i++) {
            y.inserts(0);
        }
        Due.puts(y, 2);
        y.sends(1);
        Due.dueText("16 before the base, by name", Due.octets(y, 0), "2 16 79 1 1 49");
        y.repeats(0);
        for (int i = 0; i < 14; i++) {
            y.inserts(0);
        }
        Due.puts(y, 2);
        y.sends(1);
        Due.dueText("14 before the base, by name", Due.octets(y, 1), "19 14 78 1 49");
    }

    private static void sendsRisk() {
        HeadTables x = Due.told("blocked 1;field a=1;field b=2;");
        x.capacity(60);
        x.inserts(0);
        Due.puts(x, 0);
        x.sends(1);
        Due.due("one at risk", x.count(8), 1);
        Due.puts(x, 0);
        x.sends(1);
        Due.dueText("bold as safe", Due.octets(x, 1), "0 0 33 97 1 49");
        Due.puts(x, 0, 1);
        x.sends(2);
        Due.dueText("greedy as safe", Due.octets(x, 2), "0 0 33 97 1 49 33 98 1 50");
        Due.due("nothing inserted", x.table(0, 0), 1);
        x.feeds(99);
        x.gives(0, 99);
        Due.due("at risk until it is heard", x.count(8), 1);
        x.hears(1);
        Due.due("none at risk", x.count(8), 0);
        Due.puts(x, 1, 0);
        x.sends(2);
        Due.dueText("greedy again", Due.octets(x, 3), "3 128 16 128");
        HeadTables y = Due.told("blocked 0;field a=1;");
        y.capacity(60);
        y.inserts(0);
        Due.puts(y, 0);
        y.sends(2);
        Due.dueText("limit 0", Due.octets(y, 0), "0 0 33 97 1 49");
        HeadTables z = Due.told("blocked 1;field a=1;field b=2;");
        z.capacity(60);
        z.inserts(0);
        Due.puts(z, 0);
        z.sends(1);
        z.quits(0);
        Due.due("at risk until the end is heard", z.count(8), 1);
        z.hears(1);
        Due.due("none at risk", z.count(8), 0);
        Due.puts(z, 0);
        z.sends(1);
        z.feeds(99);
        z.grows();
        z.hears(1);
        Due.due("known, so not at risk", z.count(8), 0);
        Due.due("but not settled", z.letter(1, 5), 0);
    }

    private static void sendsForty() {
        HeadTables x = Due.told("field a=1;");
        x.capacity(60);
        x.inserts(0);
        for (int i = 0; i < 40; i++) {
            x.puts(0);
            Due.due("sends", x.sends(1), i);
        }
        x.puts(0);
        x.puts(0);
        Due.due("a 41st", x.sends(1), Due.FULL);
        Due.due("a bad 41st", x.sends(3), Due.BAD);
        Due.due("the draft stays", x.count(11), 2);
        Due.due("sections", x.count(6), 40);
        Due.due("holds, two at risk", x.holds(0), 3);
        Due.due("cost of a 41st", x.cost(1), 10);
        x.feeds(99);
        x.grows();
        x.hears(1);
        Due.due("cost of a 41st", x.cost(1), 4);
        Due.due("holds", x.holds(0), 3);
    }

    private static void requiredCountWraps() {
        // span is 3, so the required count is told modulo 6
        HeadTables x = Due.told("table 15;field a=;");
        x.capacity(15);
        int[] want = {2, 3, 4, 5, 6, 1, 2, 3};
        dueRequired(x, want);
        // span is 4, rounded down, though no more than 3 entries have room
        HeadTables y = Due.told("table 19;field a=;");
        y.capacity(19);
        int[] wantOf8 = {2, 3, 4, 5, 6, 7, 8, 1, 2, 3};
        dueRequired(y, wantOf8);
    }

    private static void dueRequired(HeadTables x, int... want) {
        for (int i = 0; i < want.length; i++) {
            Due.due("inserts", x.inserts(0), i);
            x.puts(0);
            x.sends(1);
            Due.due("required count " + (i + 1), x.octet(i, 0), want[i]);
            x.feeds(99);
            x.gives(i, 99);
            x.hears(99);
            Due.due("decoded", x.letter(i, 4), 2);
        }
    }

    private static void cost() {
        HeadTables x = Due.told("field a=1;field b=2;field abcdef=123456;");
        x.capacity(28);
        x.inserts(0);
        Due.due("way 3", x.cost(3), Due.BAD);
        Due.due("way -1", x.cost(-1), Due.BAD);
        Due.due("nothing", x.cost(0), 2);
        Due.puts(x, 0, 1, 0, 2);
        Due.due("safe", x.cost(0), 2 + 4 + 4 + 4 + 14);
        Due.due("bold", x.cost(1), 2 + 1 + 4 + 1 + 14);
        Due.due("greedy", x.cost(2), 2 + 1 + 1 + 1 + 4 + 1 + 14);
        Due.due("greedy again", x.cost(2), 24);
        Due.due("draft", x.count(11), 4);
        Due.due("table", x.table(0, 0), 1);
        Due.due("instructions", x.count(9), 1 + 4);
        Due.due("sections", x.count(6), 0);
        Due.due("holds", x.holds(0), 0);
        Due.due("loose", x.loose(), 0);
        int before = x.count(9);
        x.sends(2);
        Due.due("it costs that", x.letter(0, 0) + x.count(9) - before, 24);
        HeadTables y = Due.told("field a=1;field b=2;");
        y.capacity(6);
        y.inserts(0);
        acknowledge(y);
        Due.puts(y, 1);
        Due.due("greedy, with evicting", y.cost(2), 2 + 1 + 4);
        Due.due("nothing evicted", y.entry(0, 0, 1), 0);
        Due.due("sum", y.table(0, 2), 6);
        Due.due("loose", y.loose(), 1);
    }

    private static void loose() {
        HeadTables x = Due.told("field a=1;field b=2;field c=3;field d=4;");
        x.capacity(60);
        Due.due("nothing there", x.loose(), 0);
        for (int i = 0; i < 4; i++) {
            x.inserts(i);
        }
        Due.due("nothing known", x.loose(), 0);
        x.feeds(1 + 1 + 8);
        Due.due("grows", x.grows(), 2);
        Due.due("not heard", x.loose(), 0);
        x.hears(1);
        Due.due("two known", x.loose(), 2);
        acknowledge(x);
        Due.due("all known", x.loose(), 4);
        Due.puts(x, 2);
        x.sends(0);
        Due.due("one held, one behind it", x.loose(), 2);
        Due.puts(x, 0);
        x.sends(0);
        Due.due("the lowest held", x.loose(), 0);
        x.quits(1);
        Due.due("until it is heard", x.loose(), 0);
        x.hears(1);
        Due.due("until it is settled", x.loose(), 2);
        x.gives(0, 99);
        x.hears(1);
        Due.due("all settled", x.loose(), 4);
    }
}
