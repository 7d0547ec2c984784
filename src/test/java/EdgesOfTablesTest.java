/** The edges that the document names for the tables and instructions, and those of promises 6 to 8 and 13, a test for each sentence. */
public final class EdgesOfTablesTest {
    public static void main(String[] args) {
        placesNeverAgain();
        countOfAll();
        sumUpToTheCapacity();
        capacityAtFirst();
        lowestFirst();
        asManyAsNecessary();
        belowTheKnownCount();
        notHeld();
        heldByTwo();
        impossibleInTheMiddle();
        sizeAboveTheCapacity();
        streamOf200();
        writtenAndNotDelivered();
        capacityOctets();
        formA();
        formB();
        countBefore();
        formBFar();
        formC();
        repetition();
        repetitionFar();
        repetitionEvicts();
        evictsItself();
        evictsWhatIsNamed();
        carriedOutWhenWritten();
        capacityRange();
        capacityEvicts();
        capacityState();
        capacityFull();
        insertsRefused();
        insertsFull();
        repeatsRefused();
        repeatsFull();
        loose();
        Due.finish();
    }

    private static void settled(HeadTables x) {
        Due.settle(x);
    }

    private static void dueTable(HeadTables x, int who, int... want) {
        for (int what = 0; what < want.length; what++) {
            Due.due("table " + who + " " + what, x.table(who, what), want[what]);
        }
    }

    // ---- the tables

    private static void placesNeverAgain() {
        Due.sentence("The entries that are inserted into a table get the places 0, 1, 2, ...; a place is never used again.");
        HeadTables x = Due.told("field a=;");
        x.capacity(5);
        for (int place = 0; place < 66; place++) {
            Due.due("place", x.inserts(0), place);
            Due.due("the lowest", x.table(0, 4), place);
            x.feeds(9);
            x.grows();
            x.hears(1);
            Due.due("the decoder's lowest", x.table(1, 4), place);
        }
        Due.due("the one before is gone", x.entry(0, 64, 0), Due.NONE);
        x.capacity(0);
        Due.due("none is there", x.table(0, 4), Due.NONE);
        x.capacity(5);
        Due.due("the place behind all that are gone", x.inserts(0), 66);
        x.feeds(99);
        Due.due("the decoder's", x.table(1, 4), 66);
        Due.due("place 65", x.entry(1, 65, 0), Due.NONE);
    }

    private static void countOfAll() {
        Due.sentence("The count of a table is the number of all entries that have been inserted into it, including those that are gone.");
        HeadTables x = Due.told("field a=;field b=;field c=;");
        x.capacity(10);
        Due.due("none", x.table(0, 0), 0);
        x.inserts(0);
        x.inserts(1);
        settled(x);
        x.inserts(2);
        dueTable(x, 0, 3, 2, 10, 10, 1);
        dueTable(x, 1, 2, 2, 10, 10, 0);
        settled(x);
        dueTable(x, 1, 3, 2, 10, 10, 1);
        x.capacity(0);
        dueTable(x, 0, 3, 0, 0, 0, Due.NONE);
        x.feeds(1);
        dueTable(x, 1, 3, 0, 0, 0, Due.NONE);
    }

    private static void sumUpToTheCapacity() {
        Due.sentence("The sum of the sizes of the entries that are there is never above the capacity of the table, which is 0 at first.");
        for (int capacity = 9; capacity <= 12; capacity++) {
            HeadTables x = Due.told("field a=;field b=1;");
            x.capacity(capacity);
            x.inserts(0);
            // 5 and 6 are 11: one below, the capacity itself, and one above.
            Due.due("a second entry in " + capacity, x.inserts(1), capacity < 11 ? Due.STATE : 1);
            settled(x);
            Due.due("a second entry when the first may go", x.inserts(1), capacity < 11 ? 1 : 2);
            x.feeds(99);
            for (int who = 0; who < 2; who++) {
                Due.due("there", x.table(who, 1), capacity < 12 ? 1 : 2);
                Due.due("sum", x.table(who, 2), capacity < 12 ? 6 : 12);
            }
        }
    }

    private static void capacityAtFirst() {
        Due.sentence("The sum of the sizes of the entries that are there is never above the capacity of the table, which is 0 at first.");
        HeadTables x = Due.told("field a=;");
        Due.due("encoder's", x.table(0, 3), 0);
        Due.due("decoder's", x.table(1, 3), 0);
        Due.due("capacity 0", x.capacity(0), Due.STATE);
        Due.due("nothing has room", x.inserts(0), Due.STATE);
        Due.sends(x, 2, 0);
        Due.due("nothing is inserted", x.table(0, 0), 0);
        x.capacity(5);
        Due.due("encoder's", x.table(0, 3), 5);
        Due.due("decoder's until it is delivered", x.table(1, 3), 0);
        x.feeds(1);
        Due.due("decoder's", x.table(1, 3), 5);
    }

    /** Entries of 5, 6, 7 and 8 octets, of which so many are known. */
    private static Due.Run four(int known) {
        return Due.text("field a=;field b=1;field c=22;field d=333;field abcdef=654321;field ab=4321;").then(x -> {
            x.capacity(26);
            for (int f = 0; f < 4; f++) {
                x.inserts(f);
                if (f == known - 1) {
                    settled(x);
                }
            }
            x.feeds(99);
            Due.due("known", x.count(4), known);
        });
    }

    private static void lowestFirst() {
        Due.sentence("To make room, entries are evicted, the one with the lowest place first, as many as necessary.");
        HeadTables x = Due.made(four(4));
        for (int place = 0; place < 4; place++) {
            Due.due("lowest", x.table(0, 4), place);
            Due.due("capacity", x.capacity(x.table(0, 2) - 1), 1);
            Due.due("it is gone", x.entry(0, place, 0), Due.NONE);
            for (int other = place + 1; other < 4; other++) {
                Due.due("the others stay", x.entry(0, other, 1), other);
            }
            x.feeds(99);
            Due.due("the decoder's lowest", x.table(1, 4), place == 3 ? Due.NONE : place + 1);
        }
    }

    private static void asManyAsNecessary() {
        Due.sentence("An insertion evicts entries until there is room, and inserts an entry like f");
        // The entry has 10 octets: with 26 + n octets of capacity, 10 - n have to be freed of 5, 6, 7 and 8.
        int[] gone = {2, 2, 2, 2, 2, 1, 1, 1, 1, 1, 0, 0};
        for (int n = 0; n < gone.length; n++) {
            HeadTables x = Due.made(four(4));
            if (n > 0) {
                x.capacity(26 + n);
            }
            Due.due("inserts", x.inserts(5), 4);
            Due.due("lowest with " + (26 + n), x.table(0, 4), gone[n]);
            Due.due("there", x.table(0, 1), 5 - gone[n]);
            x.feeds(99);
            Due.due("the decoder's lowest", x.table(1, 4), gone[n]);
            Due.due("the decoder's sum", x.table(1, 2), x.table(0, 2));
        }
        HeadTables x = Due.made(four(4));
        x.capacity(16);
        Due.due("lowest", x.table(0, 4), 2);
        Due.due("all have to go", x.inserts(4), 4);
        dueTable(x, 0, 5, 1, 16, 16, 4);
    }

    private static void belowTheKnownCount() {
        Due.sentence("An entry of the encoder's table can be evicted if its place is below the known count (see below) and no section holds it.");
        int[] sums = {26, 21, 15, 8, 0};
        for (int known = 0; known <= 4; known++) {
            Due.due("loose", Due.made(four(known)).loose(), known);
            for (int gone = 0; gone <= 4; gone++) {
                int n = sums[gone];
                HeadTables x = Due.made(four(known));
                if (n < 26) {
                    Due.due("capacity " + n + " with " + known + " known", x.capacity(n), gone <= known ? gone : Due.STATE);
                } else {
                    Due.due("capacity 26 again", x.capacity(26), Due.STATE);
                }
            }
            HeadTables x = Due.made(four(known));
            Due.due("an insertion that evicts one, with " + known + " known", x.inserts(0), known < 1 ? Due.STATE : 4);
            x = Due.made(four(known));
            Due.due("an insertion that evicts two, with " + known + " known", x.inserts(5), known < 2 ? Due.STATE : 4);
            x = Due.made(four(known));
            Due.due("an insertion that evicts three, with " + known + " known", x.inserts(4), known < 3 ? Due.STATE : 4);
            x = Due.made(four(known));
            Due.due("a repetition that evicts one, with " + known + " known", x.repeats(0), known < 1 ? Due.STATE : 4);
        }
    }

    private static void notHeld() {
        Due.sentence("An entry of the encoder's table can be evicted if its place is below the known count (see below) and no section holds it.");
        for (int held = 0; held < 4; held++) {
            int place = held;
            Due.Run run = four(4).then(x -> Due.sends(x, 0, place));
            HeadTables x = Due.made(run);
            Due.due("held", x.holds(held), 1);
            Due.due("loose", x.loose(), held);
            int[] sums = {26, 21, 15, 8, 0};
            for (int gone = 1; gone <= 4; gone++) {
                x = Due.made(run);
                Due.due("capacity " + sums[gone] + ", " + held + " is held", x.capacity(sums[gone]), gone <= held ? gone : Due.STATE);
            }
            x = Due.made(run);
            Due.due("inserts, " + held + " is held", x.inserts(0), held < 1 ? Due.STATE : 4);
            x = Due.made(run);
            Due.due("repeats, " + held + " is held", x.repeats(3), held < 2 ? Due.STATE : 4);
            Due.due("decoded and not heard: repeats", Due.made(run.then(y -> y.gives(0, 99))).repeats(3), held < 2 ? Due.STATE : 4);
            x = Due.made(run);
            x.gives(0, 99);
            x.hears(1);
            Due.due("settled: capacity 0", x.capacity(0), 4);
        }
    }

    private static void heldByTwo() {
        Due.sentence("An entry of the encoder's table can be evicted if its place is below the known count (see below) and no section holds it.");
        HeadTables x = Due.made(four(4));
        Due.sends(x, 0, 0);
        Due.sends(x, 0, 0, 1);
        Due.due("both", x.holds(0), 3);
        x.quits(0);
        x.hears(1);
        Due.due("one", x.holds(0), 2);
        Due.due("inserts", x.inserts(0), Due.STATE);
        x.gives(1, 99);
        x.hears(1);
        Due.due("none", x.holds(0), 0);
        Due.due("inserts", x.inserts(0), 4);
    }

    private static void impossibleInTheMiddle() {
        Due.sentence("If an insertion or a change of the capacity would have to evict an entry that cannot be evicted, it is impossible");
        Due.Run run = four(4).then(x -> Due.sends(x, 0, 1));
        Due.refused(run, "an insertion that has to evict a free and a held one", x -> x.inserts(5), Due.STATE);
        Due.refused(run, "a repetition that has to", x -> x.repeats(2), Due.STATE);
        Due.refused(run, "a capacity that has to", x -> x.capacity(20), Due.STATE);
        Due.due("an insertion that has to evict the free one", Due.made(run).inserts(0), 4);
        Due.due("a capacity that has to evict the free one", Due.made(run).capacity(21), 1);
        Due.Run unknown = four(1);
        Due.refused(unknown, "an insertion that has to evict a known and an unknown one", x -> x.inserts(5), Due.STATE);
        Due.refused(unknown, "a repetition that has to", x -> x.repeats(3), Due.STATE);
        Due.refused(unknown, "a capacity that has to", x -> x.capacity(20), Due.STATE);
        Due.due("an insertion that has to evict the known one", Due.made(unknown).inserts(0), 4);
        Due.due("a capacity that has to evict the known one", Due.made(unknown).capacity(21), 1);
    }

    private static void sizeAboveTheCapacity() {
        Due.sentence("so is an insertion of an entry whose size is above the capacity.");
        String[] pairs = {"a=", "abcdef=123456", "abc=12"};
        int[] sizes = {5, 16, 9};
        for (int i = 0; i < pairs.length; i++) {
            String text = "field " + pairs[i] + ";";
            for (int capacity = sizes[i] - 1; capacity <= sizes[i] + 1; capacity++) {
                HeadTables x = Due.told(text);
                x.capacity(capacity);
                Due.due("size " + sizes[i] + " in " + capacity, x.inserts(0), capacity < sizes[i] ? Due.STATE : 0);
            }
            int below = sizes[i] - 1;
            Due.refused(Due.text(text).then(x -> x.capacity(below)), "above", x -> x.inserts(0), Due.STATE);
            Due.refused(Due.text(text), "above a capacity of 0", x -> x.inserts(0), Due.STATE);
        }
        // Though all that is there could be evicted.
        Due.Run run = Due.text("field a=;field b=1;").then(x -> {
            x.capacity(5);
            x.inserts(0);
            settled(x);
        });
        Due.refused(run, "above, with an entry that may go", x -> x.inserts(1), Due.STATE);
        Due.due("equal to the capacity", Due.made(run).inserts(0), 1);
    }

    // ---- instructions

    private static void streamOf200() {
        Due.sentence("At most 200 octets of it may wait there, that is, have been written and not yet been delivered.");
        for (int waiting = 196; waiting <= 200; waiting++) {
            int n = waiting;
            Due.Run run = Due.text("table 200;field g=;").then(x -> Due.fill(x, n));
            Due.due("one octet behind " + n, Due.made(run).capacity(30), n <= 199 ? 0 : Due.FULL);
            Due.due("two octets behind " + n, Due.made(run).capacity(31), n <= 198 ? 0 : Due.FULL);
            Due.due("three octets behind " + n, Due.made(run).capacity(159), n <= 197 ? 0 : Due.FULL);
            Due.due("three octets of an insertion behind " + n, Due.made(run).inserts(0), n <= 197 ? 0 : Due.FULL);
        }
    }

    private static void writtenAndNotDelivered() {
        Due.sentence("At most 200 octets of it may wait there, that is, have been written and not yet been delivered.");
        HeadTables x = Due.told("table 200;");
        Due.fill(x, 200);
        Due.due("full", x.capacity(5), Due.FULL);
        x.feeds(1);
        Due.due("one delivered: two octets", x.capacity(80), Due.FULL);
        Due.due("one delivered: one octet", x.capacity(5), 0);
        Due.due("full again", x.capacity(6), Due.FULL);
        x.feeds(2);
        Due.due("two octets", x.capacity(80), 0);
        Due.due("full again", x.capacity(6), Due.FULL);
        x.feeds(99);
        x.feeds(99);
        x.feeds(99);
        Due.due("none waits", x.count(9), 0);
        Due.due("three octets", x.capacity(200), 0);
        Due.due("they wait", x.count(9), 3);
    }

    private static void capacityOctets() {
        Due.sentence("capacity n: an integer n with the head 32 and a prefix of 5 bits.");
        int[] capacities = {1, 29, 30, 31, 32, 158, 159, 160, 199, 200};
        String[] octets = {"33", "61", "62", "63 0", "63 1", "63 127", "63 128 1", "63 129 1", "63 168 1", "63 169 1"};
        for (int i = 0; i < capacities.length; i++) {
            HeadTables x = Due.told("table 200;");
            x.capacity(capacities[i]);
            Due.dueText("capacity " + capacities[i], Due.octets(x, 40), octets[i]);
            Due.due("feeds", x.feeds(99), 1);
            Due.due("the decoder's", x.table(1, 3), capacities[i]);
            x.capacity(0);
            Due.dueText("capacity 0", Due.octets(x, 40), "32");
        }
    }

    /** There are at most 8 static entries: no run reaches the number 63, from which on there would be two octets. */
    private static void formA() {
        Due.sentence("a. if a static entry has the name of f: the number of the lowest such entry, with the head 192 and a prefix of 6 bits; then "
            + "the value of f.");
        HeadTables x = Due.told("still b=;still a=1;still c=;still c=;still d=;still e=;still a=;still f=;field a=;field b=123456;field f=0;field g=;");
        x.capacity(60);
        x.feeds(9);
        x.inserts(0);
        x.inserts(1);
        x.inserts(2);
        x.inserts(3);
        Due.dueText("the lowest, number 0, the last one, and none", Due.octets(x, 40), "193 0 192 6 49 50 51 52 53 54 199 1 48 65 103 0");
        x.feeds(99);
        x.inserts(0);
        Due.dueText("a. before b.", Due.octets(x, 40), "193 0");
        HeadTables y = Due.told("still ab=;still a=;field a=1;field abc=;");
        y.capacity(60);
        y.feeds(9);
        y.inserts(0);
        y.inserts(1);
        Due.dueText("a name that begins alike", Due.octets(y, 40), "193 1 49 67 97 98 99 0");
    }

    private static void formB() {
        Due.sentence("b. if an entry of the encoder's table has the name of f: for the one with the highest place, p, the integer (count - 1 - p), "
            + "with the head 128 and a prefix of 6 bits; then the value of f.");
        HeadTables x = Due.told("table 100;field a=1;field b=;field a=;field ab=;field a=123456;");
        x.capacity(100);
        x.feeds(9);
        x.inserts(0);
        Due.dueText("no entry", Due.octets(x, 40), "65 97 1 49");
        x.feeds(9);
        x.inserts(2);
        Due.dueText("the last entry", Due.octets(x, 40), "128 0");
        x.feeds(9);
        x.inserts(3);
        Due.dueText("a name that begins alike", Due.octets(x, 40), "66 97 98 0");
        x.feeds(9);
        x.inserts(4);
        Due.dueText("the highest of two", Due.octets(x, 40), "129 6 49 50 51 52 53 54");
        x.feeds(99);
        x.inserts(4);
        Due.dueText("an entry like it", Due.octets(x, 40), "128 6 49 50 51 52 53 54");
        x.feeds(99);
        x.inserts(1);
        x.feeds(99);
        settled(x);
        x.capacity(15);
        x.feeds(9);
        Due.due("only the last is there", x.table(0, 4), 5);
        x.inserts(0);
        Due.dueText("an entry that is gone has no name", Due.octets(x, 40), "65 97 1 49");
    }

    private static void countBefore() {
        Due.sentence("Here count is the count of the encoder's table before the instruction.");
        HeadTables x = Due.told("field a=;field a=1;");
        x.capacity(60);
        x.inserts(0);
        x.feeds(99);
        x.inserts(1);
        Due.dueText("the name of place 0 with the count 1", Due.octets(x, 40), "128 1 49");
        x.feeds(99);
        x.repeats(1);
        Due.dueText("the repetition of place 1 with the count 2", Due.octets(x, 40), "0");
        x.feeds(99);
        x.repeats(0);
        Due.dueText("the repetition of place 0 with the count 3", Due.octets(x, 40), "2");
    }

    /**
     * With at most 40 entries, which have 5 octets at least, count - 1 - p is at most 39: no run reaches
     * the 63 from which on it would have two octets. This is the 39.
     */
    private static void formBFar() {
        Due.sentence("for the one with the highest place, p, the integer (count - 1 - p), with the head 128 and a prefix of 6 bits");
        HeadTables x = Due.told("table 200;field a=;field b=;field b=1;");
        x.capacity(200);
        x.inserts(1);
        for (int i = 1; i < 40; i++) {
            x.inserts(0);
        }
        settled(x);
        Due.due("known", x.count(4), 40);
        Due.due("inserts", x.inserts(2), 40);
        Due.dueText("39 behind the name", Due.octets(x, 40), "167 1 49");
        Due.due("the one with the name is gone", x.table(0, 4), 2);
        x.feeds(9);
        Due.due("the decoder's entry", x.entry(1, 40, 1), 2);
    }

    /** A name has at most 6 letters: no run reaches the length 31, from which on there would be two octets. */
    private static void formC() {
        Due.sentence("c. the length of the name with the head 64 and a prefix of 5 bits, the letters of the name; then the value of f.");
        HeadTables x = Due.told("table 100;field a=;field abcdef=;field bcdefg=123456;field az=0;");
        x.capacity(100);
        x.feeds(9);
        String[] octets = {"65 97 0", "70 97 98 99 100 101 102 0", "70 98 99 100 101 102 103 6 49 50 51 52 53 54", "66 97 122 1 48"};
        for (int f = 0; f < 4; f++) {
            x.inserts(f);
            Due.dueText("field " + f, Due.octets(x, 40), octets[f]);
            x.feeds(99);
            Due.due("the decoder's", x.entry(1, f, 1), f);
        }
    }

    private static void repetition() {
        Due.sentence("repetition of the entry at place p: the integer (count - 1 - p) with the head 0 and a prefix of 5 bits.");
        for (int place = 0; place < 4; place++) {
            HeadTables x = Due.made(four(4));
            x.capacity(60);
            x.feeds(9);
            Due.due("repeats", x.repeats(place), 4);
            Due.dueText("octets", Due.octets(x, 40), "" + (3 - place));
            Due.due("like the one at " + place, x.entry(0, 4, 1), place);
            Due.due("size", x.entry(0, 4, 0), 5 + place);
            x.feeds(9);
            Due.due("the decoder's", x.entry(1, 4, 1), place);
            Due.due("the decoder's size", x.entry(1, 4, 0), 5 + place);
            x.repeats(4);
            Due.dueText("the last one", Due.octets(x, 40), "0");
        }
    }

    private static void repetitionFar() {
        Due.sentence("repetition of the entry at place p: the integer (count - 1 - p) with the head 0 and a prefix of 5 bits.");
        int[] backs = {0, 1, 29, 30, 31, 32, 33, 39};
        String[] octets = {"0", "1", "29", "30", "31 0", "31 1", "31 2", "31 8"};
        for (int i = 0; i < backs.length; i++) {
            HeadTables x = Due.told("table 200;field a=;");
            x.capacity(200);
            for (int k = 0; k < 40; k++) {
                x.inserts(0);
            }
            settled(x);
            Due.due("repeats", x.repeats(39 - backs[i]), 40);
            Due.dueText(backs[i] + " back", Due.octets(x, 40), octets[i]);
            Due.due("one was evicted", x.table(0, 4), 1);
            Due.due("feeds", x.feeds(99), 1);
            Due.due("the decoder's count", x.table(1, 0), 41);
        }
    }

    private static void repetitionEvicts() {
        Due.sentence("a repetition does the same with an entry like the one at p.");
        int[] lowest = {1, 2, 2, 2};
        for (int place = 0; place < 4; place++) {
            HeadTables x = Due.made(four(4));
            Due.due("repeats", x.repeats(place), 4);
            Due.due("lowest behind the repetition of " + place, x.table(0, 4), lowest[place]);
            Due.due("like it", x.entry(0, 4, 1), place);
            x.feeds(9);
            Due.due("the decoder's", x.entry(1, 4, 1), place);
            Due.due("the decoder's lowest", x.table(1, 4), lowest[place]);
        }
    }

    private static void evictsItself() {
        Due.sentence("The entry that is repeated, or whose name is used, may itself be one of those that are evicted by this.");
        for (int capacity = 8; capacity <= 16; capacity++) {
            HeadTables x = Due.told("field ab=12;");
            x.capacity(capacity);
            x.inserts(0);
            settled(x);
            Due.due("repeats in " + capacity, x.repeats(0), 1);
            Due.due("place 0", x.entry(0, 0, 1), capacity < 16 ? Due.NONE : 0);
            Due.due("place 1", x.entry(0, 1, 1), 0);
            Due.due("size of place 1", x.entry(0, 1, 0), 8);
            x.feeds(9);
            Due.due("the decoder's place 0", x.entry(1, 0, 1), capacity < 16 ? Due.NONE : 0);
            Due.due("the decoder's place 1", x.entry(1, 1, 1), 0);
            Due.due("the decoder's size", x.entry(1, 1, 0), 8);
        }
    }

    private static void evictsWhatIsNamed() {
        Due.sentence("The entry that is repeated, or whose name is used, may itself be one of those that are evicted by this.");
        for (int capacity = 7; capacity <= 13; capacity++) {
            HeadTables x = Due.told("field ab=;field ab=1;");
            x.capacity(capacity);
            x.inserts(0);
            settled(x);
            Due.due("inserts in " + capacity, x.inserts(1), 1);
            Due.dueText("the name of the one that goes", Due.octets(x, 40), "128 1 49");
            Due.due("place 0", x.entry(0, 0, 1), capacity < 13 ? Due.NONE : 0);
            x.feeds(9);
            Due.due("the decoder's place 0", x.entry(1, 0, 1), capacity < 13 ? Due.NONE : 0);
            Due.due("the decoder's place 1", x.entry(1, 1, 1), 1);
        }
    }

    private static void carriedOutWhenWritten() {
        Due.sentence("An instruction is carried out in the encoder's table when it is written.");
        HeadTables x = Due.told("field a=;field b=;");
        x.capacity(9);
        Due.due("capacity", x.table(0, 3), 9);
        x.inserts(0);
        dueTable(x, 0, 1, 1, 5, 9, 0);
        dueTable(x, 1, 0, 0, 0, 0, Due.NONE);
        x.feeds(1);
        dueTable(x, 1, 0, 0, 0, 9, Due.NONE);
        x.feeds(2);
        dueTable(x, 1, 0, 0, 0, 9, Due.NONE);
        x.feeds(1);
        dueTable(x, 1, 1, 1, 5, 9, 0);
        x.grows();
        x.hears(1);
        x.repeats(0);
        dueTable(x, 0, 2, 1, 5, 9, 1);
        dueTable(x, 1, 1, 1, 5, 9, 0);
        x.feeds(1);
        dueTable(x, 1, 2, 1, 5, 9, 1);
    }

    // ---- promise 6

    private static void capacityRange() {
        Due.sentence("n: the new capacity, 0 to the maximum capacity");
        for (int most : new int[] {0, 1, 4, 5, 59, 60, 61, 199, 200}) {
            Due.Run run = Due.text("table " + most + ";field a=;");
            Due.due("the maximum " + most, Due.made(run).capacity(most), most == 0 ? Due.STATE : 0);
            Due.due("below " + most, Due.made(run).capacity(most - 1), most == 0 ? Due.BAD : most == 1 ? Due.STATE : 0);
            Due.refused(run, "above the maximum " + most, x -> x.capacity(most + 1), Due.BAD);
            Due.refused(run, "-1", x -> x.capacity(-1), Due.BAD);
            Due.refused(run, "the most", x -> x.capacity(Due.MOST), Due.BAD);
            Due.refused(run, "the least", x -> x.capacity(Due.LEAST), Due.BAD);
            Due.due("0 behind the maximum", Due.made(run.then(x -> x.capacity(most))).capacity(0), most == 0 ? Due.STATE : 0);
        }
    }

    private static void capacityEvicts() {
        Due.sentence("Returns how many entries are evicted");
        // Sums: 26, without the first 21, 15, 8, 0.
        for (int n = 0; n <= 60; n++) {
            int gone = n >= 26 ? 0 : n >= 21 ? 1 : n >= 15 ? 2 : n >= 8 ? 3 : 4;
            HeadTables x = Due.made(four(4));
            Due.due("capacity " + n, x.capacity(n), n == 26 ? Due.STATE : gone);
            Due.due("there", x.table(0, 1), 4 - gone);
            Due.due("the capacity", x.table(0, 3), n);
            x.feeds(9);
            Due.due("there in the decoder's", x.table(1, 1), 4 - gone);
        }
    }

    private static void capacityState() {
        Due.sentence("STATE if the capacity is n already or the change is impossible");
        Due.refused(x -> { }, "0 at first", x -> x.capacity(0), Due.STATE);
        Due.refused(four(4), "the capacity already", x -> x.capacity(26), Due.STATE);
        Due.due("one below", Due.made(four(4)).capacity(25), 1);
        Due.due("one above", Due.made(four(4)).capacity(27), 0);
        Due.refused(four(0), "nothing is known", x -> x.capacity(25), Due.STATE);
        Due.refused(four(3), "one is not known", x -> x.capacity(7), Due.STATE);
        Due.due("it may stay", Due.made(four(3)).capacity(8), 3);
        Due.refused(four(4).then(x -> Due.sends(x, 0, 0)), "the first is held", x -> x.capacity(25), Due.STATE);
        Due.refused(four(4).then(x -> Due.sends(x, 0, 3)), "the last is held", x -> x.capacity(7), Due.STATE);
        Due.sentence("If several of them apply to a call, the first one in this order is returned.");
        Due.refused(four(0), "BAD before STATE", x -> x.capacity(-1), Due.BAD);
        Due.Run full = four(0).then(x -> Due.fill(x, 200));
        Due.refused(full, "BAD before STATE and FULL", x -> x.capacity(-1), Due.BAD);
        Due.refused(full, "BAD before FULL", x -> x.capacity(61), Due.BAD);
        Due.refused(full, "STATE before FULL, impossible", x -> x.capacity(25), Due.STATE);
        Due.refused(full, "STATE before FULL, the capacity already", x -> x.capacity(x.table(0, 3)), Due.STATE);
        Due.refused(full, "FULL alone", x -> x.capacity(60), Due.FULL);
    }

    private static void capacityFull() {
        Due.sentence("FULL if more than 200 octets of the instruction stream would wait.");
        Due.refused(Due.text("table 200;").then(x -> Due.fill(x, 200)), "one octet behind 200", x -> x.capacity(30), Due.FULL);
        Due.refused(Due.text("table 200;").then(x -> Due.fill(x, 199)), "two octets behind 199", x -> x.capacity(31), Due.FULL);
        Due.refused(Due.text("table 200;").then(x -> Due.fill(x, 198)), "three octets behind 198", x -> x.capacity(159), Due.FULL);
        Due.due("one octet behind 199", Due.made(Due.text("table 200;").then(x -> Due.fill(x, 199))).capacity(30), 0);
        Due.due("two octets behind 198", Due.made(Due.text("table 200;").then(x -> Due.fill(x, 198))).capacity(158), 0);
        Due.due("three octets behind 197", Due.made(Due.text("table 200;").then(x -> Due.fill(x, 197))).capacity(200), 0);
        Due.refused(four(4).then(x -> Due.fill(x, 200)), "one that would evict", x -> x.capacity(0), Due.FULL);
    }

    // ---- promise 7

    private static void insertsRefused() {
        Due.sentence("Returns the place of the new entry; BAD if there is no such field; STATE if the insertion is impossible");
        for (int field : new int[] {-1, 6, 7, 8, Due.LEAST, Due.MOST}) {
            Due.refused(four(4), "inserts " + field, x -> x.inserts(field), Due.BAD);
            Due.refused(four(4).then(x -> Due.fill(x, 200)), "BAD before FULL", x -> x.inserts(field), Due.BAD);
            Due.refused(four(0), "BAD before STATE", x -> x.inserts(field), Due.BAD);
        }
        Due.refused(x -> { }, "no field at all", x -> x.inserts(0), Due.BAD);
        Due.due("the last field", Due.made(four(4)).inserts(5), 4);
        Due.refused(four(0), "nothing may go", x -> x.inserts(0), Due.STATE);
        Due.refused(four(4).then(x -> Due.sends(x, 0, 0)), "the first is held", x -> x.inserts(0), Due.STATE);
        Due.refused(four(2), "the third is not known", x -> x.inserts(4), Due.STATE);
        Due.refused(four(4).then(x -> x.capacity(15)), "size above the capacity", x -> x.inserts(4), Due.STATE);
        Due.refused(four(0).then(x -> Due.fill(x, 200)).then(EdgesOfTablesTest::less), "STATE before FULL", x -> x.inserts(4), Due.STATE);
    }

    /** Makes the capacity the sum of the sizes again, and fills the stream again. */
    private static void less(HeadTables x) {
        x.feeds(1);
        x.capacity(26);
        Due.due("octets that wait", x.count(9), 200);
    }

    private static void insertsFull() {
        Due.sentence("FULL if more than 200 octets of the instruction stream would wait.");
        // Octets of an insertion: with a new name, with the name of a static entry, with the name of an entry.
        String text = "table 200;still s=;field abc=12;field s=123456;field t=1;field t=;";
        int[] octets = {1 + 3 + 1 + 2, 1 + 1 + 6, 1 + 1 + 1 + 1, 1 + 1};
        for (int f = 0; f < 4; f++) {
            int field = f;
            for (int waiting = 200 - octets[f] - 1; waiting <= 200 - octets[f] + 1; waiting++) {
                int n = waiting;
                Due.Run run = Due.text(text).then(x -> {
                    x.capacity(100);
                    if (field == 3) {
                        x.inserts(2);
                    }
                    x.feeds(99);
                    Due.fill(x, n);
                });
                int place = field == 3 ? 1 : 0;
                if (n + octets[f] > 200) {
                    Due.refused(run, "inserts field " + f + " behind " + n, x -> x.inserts(field), Due.FULL);
                } else {
                    HeadTables x = Due.made(run);
                    Due.due("inserts field " + f + " behind " + n, x.inserts(field), place);
                    Due.due("octets that wait", x.count(9), n + octets[f]);
                }
            }
        }
        Due.refused(four(4).then(x -> Due.fill(x, 198)).then(x -> x.capacity(26)), "one that would evict", x -> x.inserts(4), Due.FULL);
    }

    // ---- promise 8

    private static void repeatsRefused() {
        Due.sentence("Returns the place of the new entry; BAD if there is no entry at this place now; STATE if the insertion is impossible");
        Due.refused(x -> { }, "no entry at all", x -> x.repeats(0), Due.BAD);
        Due.Run two = four(4).then(x -> x.capacity(15));
        for (int place : new int[] {-1, 0, 1, 4, 5, 64, 66, 67, 68, Due.LEAST, Due.MOST}) {
            Due.refused(two, "repeats " + place, x -> x.repeats(place), Due.BAD);
        }
        for (int place : new int[] {2, 3}) {
            Due.due("repeats " + place, Due.made(two).repeats(place), 4);
        }
        Due.refused(four(0), "nothing may go", x -> x.repeats(0), Due.STATE);
        Due.refused(four(4).then(x -> Due.sends(x, 0, 0)), "the first is held", x -> x.repeats(0), Due.STATE);
        Due.refused(four(1), "the second is not known", x -> x.repeats(1), Due.STATE);
        Due.due("it need not go", Due.made(four(1)).repeats(0), 4);
        Due.refused(four(0).then(x -> Due.fill(x, 200)), "BAD before FULL", x -> x.repeats(4), Due.BAD);
        Due.refused(four(0), "BAD before STATE", x -> x.repeats(4), Due.BAD);
        Due.refused(four(0).then(x -> Due.fill(x, 200)).then(EdgesOfTablesTest::less), "STATE before FULL", x -> x.repeats(0), Due.STATE);
    }

    private static void repeatsFull() {
        Due.sentence("FULL if more than 200 octets of the instruction stream would wait.");
        Due.refused(four(4).then(x -> Due.fill(x, 200)), "one octet behind 200", x -> x.repeats(0), Due.FULL);
        Due.refused(four(4).then(x -> Due.fill(x, 200)), "one octet behind 200, of the last entry", x -> x.repeats(3), Due.FULL);
        Due.due("one octet behind 199", Due.made(four(4).then(x -> Due.fill(x, 199))).repeats(0), 4);
        Due.refused(four(4).then(x -> Due.fill(x, 199)).then(x -> x.capacity(26)), "one that would evict", x -> x.repeats(0), Due.FULL);
        // 33 entries of 5 octets need a capacity of 165, which is 3 octets long.
        Due.Run far = Due.text("table 200;field a=;").then(x -> {
            x.capacity(200);
            for (int i = 0; i < 32; i++) {
                x.inserts(0);
            }
            settled(x);
            for (int i = 0; i < 66; i++) {
                x.capacity(199 + i % 2);
            }
            x.repeats(31);
            Due.due("octets that wait", x.count(9), 199);
        });
        Due.refused(far, "two octets behind 199", x -> x.repeats(1), Due.FULL);
        Due.due("one octet behind 199", Due.made(far).repeats(2), 33);
    }

    // ---- promise 13

    private static void loose() {
        Due.sentence("Returns how many entries of the encoder's table could be evicted, the one with the lowest place first, until one is reached "
            + "that cannot be evicted.");
        Due.due("an empty table", new HeadTables().loose(), 0);
        for (int known = 0; known <= 4; known++) {
            Due.due(known + " known", Due.made(four(known)).loose(), known);
        }
        for (int held = 0; held < 4; held++) {
            int place = held;
            Due.Run run = four(4).then(x -> Due.sends(x, 0, place));
            Due.due(held + " held", Due.made(run).loose(), held);
            Due.due("one behind it held, too", Due.made(run.then(x -> Due.sends(x, 0, 3))).loose(), held);
            Due.due("one before it held, too", Due.made(run.then(x -> Due.sends(x, 0, 0))).loose(), 0);
            Due.due("settled", Due.made(run.then(x -> x.quits(0)).then(x -> x.hears(1))).loose(), 4);
            Due.due("cancelled and not heard", Due.made(run.then(x -> x.quits(0))).loose(), held);
        }
        HeadTables x = Due.made(four(4));
        x.capacity(15);
        Due.due("two are gone", x.loose(), 2);
        x.inserts(0);
        Due.due("one is new", x.loose(), 1);
        Due.due("it was evicted", x.table(0, 4), 3);
        settled(x);
        Due.due("it is known", x.loose(), 2);
        x.capacity(0);
        Due.due("none is there", x.loose(), 0);
        Due.unchanged(four(4), "loose", HeadTables::loose);
    }
}
