/** The edges that the document names for errors, and those of promises 19 to 25 and 28, a test for each sentence. */
public final class EdgesOfAskingTest {
    private static final int[] ODD = {Due.LEAST, Due.LEAST + 1, -64, -9, -3, -2, -1};

    public static void main(String[] args) {
        tableProperties();
        tableNone();
        tableRefused();
        entryProperties();
        entryNone();
        entryRefused();
        holdsBits();
        holdsRefused();
        letterProperties();
        letterStates();
        letterRefused();
        gotFields();
        gotRefused();
        waitsOrder();
        waitsNone();
        octetRows();
        octetNone();
        octetRefused();
        countNumbers();
        countRefused();
        askingChangesNothing();
        noneOnlyIfNoError();
        the512thCall();
        Due.finish();
    }

    /** Places 0 to 3, of which 0 is gone, 1 and 2 are known, and 3 is written; the decoder still has 0, and has not 3. */
    private static void busy(HeadTables x) {
        Due.text("table 70;blocked 9;still c=;field a=;field b=1;field c=22;field d=333;").on(x);
        x.capacity(18);
        x.inserts(0);
        x.inserts(1);
        x.inserts(2);
        Due.settle(x);
        Due.due("inserts", x.inserts(0), 3);
    }

    /** The sections of a busy object: 0 being delivered, 1 blocked, 2 decoded, 3 cancelled, 4 decoded and empty. */
    private static void sections(HeadTables x) {
        busy(x);
        Due.sends(x, 1, 0, 1, 3);
        Due.sends(x, 1, 0);
        Due.sends(x, 0, 2, 1);
        Due.sends(x, 1, 1);
        x.sends(0);
        x.gives(0, 2);
        x.gives(1, 99);
        x.gives(2, 99);
        x.gives(3, 1);
        x.quits(3);
        x.gives(4, 99);
    }

    // ---- promise 19

    private static void tableProperties() {
        Due.sentence("what: 0 for its count, 1 for the number of entries that are there, 2 for the sum of their sizes, 3 for the capacity, 4 for the lowest "
            + "place of an entry that is there (NONE if there is none)");
        HeadTables x = Due.made(EdgesOfAskingTest::busy);
        int[][] want = {{4, 3, 18, 18, 1}, {3, 3, 18, 18, 0}};
        for (int who = 0; who < 2; who++) {
            for (int what = 0; what < 5; what++) {
                Due.due("table " + who + " " + what, x.table(who, what), want[who][what]);
            }
        }
        x.feeds(99);
        for (int what = 0; what < 5; what++) {
            Due.due("the decoder's " + what, x.table(1, what), want[0][what]);
        }
    }

    private static void tableNone() {
        Due.sentence("4 for the lowest place of an entry that is there (NONE if there is none)");
        HeadTables x = Due.told("field a=;");
        Due.due("at first", x.table(0, 4), Due.NONE);
        Due.due("at first", x.table(1, 4), Due.NONE);
        x.capacity(5);
        x.inserts(0);
        Due.due("place 0", x.table(0, 4), 0);
        Due.due("not yet", x.table(1, 4), Due.NONE);
        Due.settle(x);
        Due.due("place 0", x.table(1, 4), 0);
        x.capacity(0);
        Due.due("gone", x.table(0, 4), Due.NONE);
        Due.due("not yet gone", x.table(1, 4), 0);
        x.feeds(1);
        Due.due("gone", x.table(1, 4), Due.NONE);
        x.capacity(5);
        x.inserts(0);
        Due.due("place 1", x.table(0, 4), 1);
    }

    private static void tableRefused() {
        Due.sentence("Returns the property; BAD if who or what is out of range.");
        for (int odd : ODD) {
            dueBadTable(odd, 0);
            dueBadTable(0, odd);
        }
        for (int odd : new int[] {2, 3, 40, Due.MOST}) {
            dueBadTable(odd, 0);
            dueBadTable(odd, 4);
            dueBadTable(odd, 5);
        }
        for (int odd : new int[] {5, 6, 40, Due.MOST}) {
            dueBadTable(0, odd);
            dueBadTable(1, odd);
        }
    }

    private static void dueBadTable(int who, int what) {
        Due.due("table " + who + " " + what, Due.made(EdgesOfAskingTest::busy).table(who, what), Due.BAD);
        Due.due("table " + who + " " + what + " of nothing", new HeadTables().table(who, what), Due.BAD);
    }

    // ---- promise 20

    private static void entryProperties() {
        Due.sentence("what: 0 for its size, 1 for the number of the field that it is like");
        HeadTables x = Due.made(EdgesOfAskingTest::busy);
        int[] sizes = {5, 6, 7, 5};
        int[] fields = {0, 1, 2, 0};
        for (int place = 0; place < 4; place++) {
            Due.due("size", x.entry(0, place, 0), place == 0 ? Due.NONE : sizes[place]);
            Due.due("field", x.entry(0, place, 1), place == 0 ? Due.NONE : fields[place]);
            Due.due("the decoder's size", x.entry(1, place, 0), place == 3 ? Due.NONE : sizes[place]);
            Due.due("the decoder's field", x.entry(1, place, 1), place == 3 ? Due.NONE : fields[place]);
        }
        HeadTables y = Due.told("field a=;field b=;field c=;field d=;field e=;field f=;field g=123456;");
        y.capacity(16);
        y.inserts(6);
        Due.due("the last field", y.entry(0, 0, 1), 6);
        Due.due("its size", y.entry(0, 0, 0), 11);
    }

    private static void entryNone() {
        Due.sentence("Returns the property; NONE if there is no entry at this place now");
        HeadTables x = Due.made(EdgesOfAskingTest::busy);
        int[] lowest = {1, 0};
        int[] count = {4, 3};
        for (int who = 0; who < 2; who++) {
            for (int place : new int[] {0, 1, 2, 3, 4, 5, 62, 63, 64, 65, 66, 67, 68, 128, 255, 256, 257, 1 << 30, Due.MOST - 1, Due.MOST}) {
                boolean there = place >= lowest[who] && place < count[who];
                Due.due("entry " + who + " " + place, x.entry(who, place, 0) > 0 ? 1 : 0, there ? 1 : 0);
                if (!there) {
                    Due.due("size of " + who + " " + place, x.entry(who, place, 0), Due.NONE);
                    Due.due("field of " + who + " " + place, x.entry(who, place, 1), Due.NONE);
                }
            }
        }
        Due.due("an empty table", new HeadTables().entry(0, 0, 0), Due.NONE);
        Due.due("an empty table", new HeadTables().entry(1, 0, 1), Due.NONE);
    }

    private static void entryRefused() {
        Due.sentence("BAD if who or what is not 0 or 1, or place is negative.");
        for (int odd : ODD) {
            dueBadEntry(odd, 1, 0);
            dueBadEntry(0, odd, 0);
            dueBadEntry(1, odd, 1);
            dueBadEntry(1, 1, odd);
        }
        for (int odd : new int[] {2, 3, 40, Due.MOST}) {
            dueBadEntry(odd, 1, 0);
            dueBadEntry(0, 1, odd);
            dueBadEntry(1, 1, odd);
        }
        Due.sentence("NONE means that there is no such value; it is not an error, and it is returned only if no error applies.");
        dueBadEntry(2, 9, 0);
        dueBadEntry(-1, 9, 0);
        dueBadEntry(0, 9, 2);
        dueBadEntry(0, 9, -1);
    }

    private static void dueBadEntry(int who, int place, int what) {
        Due.due("entry " + who + " " + place + " " + what, Due.made(EdgesOfAskingTest::busy).entry(who, place, what), Due.BAD);
    }

    // ---- promise 21

    private static void holdsBits() {
        Due.sentence("Returns a bit set: bit k is 1 if section k holds it");
        HeadTables x = Due.made(EdgesOfAskingTest::sections);
        Due.due("place 1", x.holds(1), 1 + 4 + 8);
        Due.due("place 2", x.holds(2), 4);
        Due.due("place 3", x.holds(3), 1 + 2);
        for (int k = 5; k < 40; k++) {
            if (k == 31 || k == 32 || k == 39) {
                x.puts(2);
            }
            Due.due("sends", x.sends(0), k);
        }
        Due.due("place 2", x.holds(2), (1L << 39) + (1L << 32) + (1L << 31) + 4);
        x.hears(9);
        Due.due("place 2, when the third and the fourth are settled", x.holds(2), (1L << 39) + (1L << 32) + (1L << 31));
        Due.due("place 1, too", x.holds(1), 1);
        Due.due("an entry that nobody holds", Due.made(EdgesOfAskingTest::busy).holds(1), 0);
    }

    private static void holdsRefused() {
        Due.sentence("BAD if there is no entry at this place now.");
        HeadTables x = Due.made(EdgesOfAskingTest::sections);
        for (int odd : ODD) {
            Due.due("holds " + odd, x.holds(odd), Due.BAD);
        }
        for (int place : new int[] {4, 5, 63, 64, 65, 66, 67, 68, 256, 257, Due.MOST}) {
            Due.due("holds " + place, x.holds(place), Due.BAD);
        }
        Due.due("gone from the encoder's table, though not from the decoder's", x.holds(0), Due.BAD);
        Due.due("there, though not in the decoder's", x.holds(3) > 0 ? 1 : 0, 1);
        Due.due("an empty table", new HeadTables().holds(0), Due.BAD);
    }

    // ---- promise 22

    private static void letterProperties() {
        Due.sentence("what: 0 for the number of its octets, 1 for its required count, 2 for its base, 3 for how many of its octets have been delivered, 4 for its "
            + "state (0: it is being delivered, 1: blocked, 2: decoded, 3: cancelled), 5 for whether it is settled (1 or 0), 6 for the number of its fields");
        HeadTables x = Due.made(EdgesOfAskingTest::sections);
        int[][] want = {
            {2 + 1 + 1 + 6, 4, 4, 2, 0, 0, 3},
            {2 + 1, 4, 4, 3, 1, 0, 1},
            {2 + 1 + 1, 3, 4, 4, 2, 0, 2},
            {2 + 1, 2, 4, 1, 3, 0, 1},
            {2, 0, 4, 2, 2, 0, 0},
        };
        for (int k = 0; k < 5; k++) {
            for (int what = 0; what < 7; what++) {
                Due.due("letter " + k + " " + what, x.letter(k, what), want[k][what]);
            }
        }
        x.hears(9);
        int[] settled = {0, 0, 1, 1, 0};
        for (int k = 0; k < 5; k++) {
            Due.due("settled " + k, x.letter(k, 5), settled[k]);
        }
    }

    private static void letterStates() {
        Due.sentence("4 for its state (0: it is being delivered, 1: blocked, 2: decoded, 3: cancelled)");
        HeadTables x = Due.made(EdgesOfAskingTest::busy);
        Due.sends(x, 1, 0);
        Due.due("nothing is delivered", x.letter(0, 4), 0);
        x.gives(0, 2);
        Due.due("all but one are", x.letter(0, 4), 0);
        x.gives(0, 1);
        Due.due("all are", x.letter(0, 4), 1);
        HeadTables y = Due.made(z -> {
            busy(z);
            Due.sends(z, 1, 0);
            z.gives(0, 99);
            z.quits(0);
        });
        Due.due("cancelled", y.letter(0, 4), 3);
        y.feeds(99);
        y.hears(99);
        Due.due("it stays cancelled", y.letter(0, 4), 3);
        x.feeds(99);
        Due.due("decoded", x.letter(0, 4), 2);
        x.hears(99);
        Due.due("it stays decoded", x.letter(0, 4), 2);
    }

    private static void letterRefused() {
        Due.sentence("Returns the property; BAD if there is no such section or what is not 0 to 6.");
        HeadTables x = Due.made(EdgesOfAskingTest::sections);
        for (int odd : ODD) {
            Due.due("letter " + odd, x.letter(odd, 0), Due.BAD);
            Due.due("what " + odd, x.letter(0, odd), Due.BAD);
        }
        for (int k : new int[] {5, 6, 39, 40, 41, Due.MOST}) {
            Due.due("letter " + k, x.letter(k, 0), Due.BAD);
            Due.due("letter " + k, x.letter(k, 4), Due.BAD);
            Due.due("letter " + k + " and what 7", x.letter(k, 7), Due.BAD);
        }
        for (int what : new int[] {7, 8, 12, Due.MOST}) {
            Due.due("what " + what, x.letter(4, what), Due.BAD);
        }
        Due.due("the last section", x.letter(4, 0), 2);
        Due.due("no section at all", new HeadTables().letter(0, 0), Due.BAD);
    }

    // ---- promise 23

    private static void gotFields() {
        Due.sentence("Returns a field of a section as it was decoded.");
        // A section in which every form is used, with entries that are gone from the decoder's table soon after.
        HeadTables x = Due.told("table 24;still d=;still e=;field a=1;field a=2;field b=;field d=;field e=5;field fgh=678;");
        x.capacity(12);
        x.inserts(0);
        Due.settle(x);
        int[][] drafts = {{0, 1, 2, 3, 4, 5}, {5, 4, 3, 2, 1, 0}, {2, 2, 2}, {4, 0}};
        int[] ways = {0, 2, 1, 2};
        for (int k = 0; k < drafts.length; k++) {
            Due.due("sends", Due.sends(x, ways[k], drafts[k]), k);
            Due.settle(x);
            x.gives(k, 99);
            for (int i = 0; i < drafts[k].length; i++) {
                Due.due("got " + k + " " + i, x.got(k, i), drafts[k][i]);
            }
            x.hears(9);
        }
        x.capacity(0);
        x.feeds(99);
        for (int k = 0; k < drafts.length; k++) {
            for (int i = 0; i < drafts[k].length; i++) {
                Due.due("got " + k + " " + i + " later", x.got(k, i), drafts[k][i]);
            }
        }
    }

    private static void gotRefused() {
        Due.sentence("Returns the number of the field; BAD if there is no such section or index; STATE if the section is not decoded.");
        HeadTables x = Due.made(EdgesOfAskingTest::sections);
        int[] fields = {3, 1, 2, 1, 0};
        int[][] got = {{Due.STATE, Due.STATE, Due.STATE}, {Due.STATE}, {2, 1}, {Due.STATE}, {}};
        for (int k = 0; k < 5; k++) {
            for (int i = 0; i < fields[k]; i++) {
                Due.due("got " + k + " " + i, x.got(k, i), got[k][i]);
            }
            for (int i : new int[] {fields[k], fields[k] + 1, 6, 7, Due.MOST}) {
                Due.due("got " + k + " " + i, x.got(k, i), Due.BAD);
            }
            for (int odd : ODD) {
                Due.due("got " + k + " " + odd, x.got(k, odd), Due.BAD);
            }
        }
        for (int k : new int[] {-1, 5, 6, 39, 40, Due.LEAST, Due.MOST}) {
            Due.due("got " + k, x.got(k, 0), Due.BAD);
        }
        Due.due("no section at all", new HeadTables().got(0, 0), Due.BAD);
    }

    // ---- promise 24

    private static void waitsOrder() {
        Due.sentence("i: the index, from 0, in the order of their required counts, those with the same required count ordered by their numbers");
        HeadTables x = Due.told("blocked 9;field a=;field b=;field c=;");
        x.capacity(30);
        x.feeds(1);
        for (int f = 0; f < 3; f++) {
            x.inserts(f);
        }
        int[] last = {2, 0, 1, 2, 0, 1, 2, 0};
        for (int k = 0; k < last.length; k++) {
            Due.sends(x, 1, last[k]);
        }
        int[] given = {6, 5, 7, 0, 1, 3, 2, 4};
        for (int k : given) {
            x.gives(k, 99);
        }
        dueWaiting(x, 1, 4, 7, 2, 5, 0, 3, 6);
        x.quits(7);
        dueWaiting(x, 1, 4, 2, 5, 0, 3, 6);
        x.quits(1);
        dueWaiting(x, 4, 2, 5, 0, 3, 6);
        x.feeds(3);
        dueWaiting(x, 2, 5, 0, 3, 6);
        x.feeds(3);
        dueWaiting(x, 0, 3, 6);
        x.quits(6);
        dueWaiting(x, 0, 3);
        x.feeds(3);
        dueWaiting(x);
    }

    private static void dueWaiting(HeadTables x, int... want) {
        for (int i = 0; i < want.length; i++) {
            Due.due("waits " + i, x.waits(i), want[i]);
        }
        Due.due("no more", x.waits(want.length), Due.NONE);
        Due.due("blocked", x.count(7), want.length);
    }

    private static void waitsNone() {
        Due.sentence("Returns the section; NONE if there are not so many blocked sections; BAD if i is negative.");
        for (int odd : ODD) {
            Due.due("waits " + odd, Due.made(EdgesOfAskingTest::sections).waits(odd), Due.BAD);
            Due.due("waits " + odd + " of nothing", new HeadTables().waits(odd), Due.BAD);
        }
        HeadTables x = Due.made(EdgesOfAskingTest::sections);
        Due.due("the only one", x.waits(0), 1);
        for (int i : new int[] {1, 2, 39, 40, 41, Due.MOST}) {
            Due.due("waits " + i, x.waits(i), Due.NONE);
        }
        Due.due("none is blocked", Due.made(EdgesOfAskingTest::busy).waits(0), Due.NONE);
        Due.due("no section at all", new HeadTables().waits(0), Due.NONE);
        // As many as the blocking limit lets be at risk.
        HeadTables most = Due.told("blocked 9;field a=;");
        most.capacity(5);
        most.inserts(0);
        for (int k = 0; k < 10; k++) {
            Due.sends(most, 1, 0);
            Due.due("gives", most.gives(k, 99), k < 9 ? 1 : 2);
        }
        dueWaiting(most, 0, 1, 2, 3, 4, 5, 6, 7, 8);
    }

    // ---- promise 25

    private static void octetRows() {
        Due.sentence("row: 40 for the octets that wait in the instruction stream, 41 for those that wait in the acknowledgement stream, 0 to 39 for all octets of "
            + "the section with this number");
        HeadTables x = Due.made(EdgesOfAskingTest::sections);
        Due.dueText("instructions", Due.octets(x, 40), "130 0");
        Due.dueText("acknowledgements", Due.octets(x, 41), "130 67");
        // Each begins with its required count % 34 + 1, and its base, 4, minus its required count.
        String[] octets = {"5 0 128 130 33 100 3 51 51 51", "5 0 128", "4 1 129 130", "3 2 130", "0 0"};
        for (int k = 0; k < 5; k++) {
            Due.dueText("section " + k, Due.octets(x, k), octets[k]);
        }
        x.feeds(1);
        x.hears(1);
        Due.dueText("instructions that still wait", Due.octets(x, 40), "0");
        Due.dueText("acknowledgements that still wait", Due.octets(x, 41), "67");
        for (int k = 5; k < 40; k++) {
            x.sends(0);
        }
        Due.dueText("section 39", Due.octets(x, 39), "0 0");
    }

    private static void octetNone() {
        Due.sentence("Returns the octet; NONE if there are not so many");
        HeadTables x = Due.made(EdgesOfAskingTest::sections);
        int[] rows = {40, 41, 0, 1, 2, 3, 4};
        int[] octets = {2, 2, 10, 3, 4, 3, 2};
        for (int r = 0; r < rows.length; r++) {
            Due.due("the last of row " + rows[r], x.octet(rows[r], octets[r] - 1) >= 0 ? 1 : 0, 1);
            for (int i : new int[] {octets[r], octets[r] + 1, 86, 96, 100, 160, 199, 200, 201, Due.MOST}) {
                Due.due("octet " + rows[r] + " " + i, x.octet(rows[r], i), Due.NONE);
            }
        }
        Due.due("no instruction", new HeadTables().octet(40, 0), Due.NONE);
        Due.due("no acknowledgement", new HeadTables().octet(41, 0), Due.NONE);
        HeadTables full = Due.told("table 200;");
        Due.fill(full, 200);
        Due.due("the last of 200", full.octet(40, 199) >= 0 ? 1 : 0, 1);
        Due.due("behind 200", full.octet(40, 200), Due.NONE);
    }

    private static void octetRefused() {
        Due.sentence("BAD if there is no such section or stream, or i is negative.");
        HeadTables x = Due.made(EdgesOfAskingTest::sections);
        for (int odd : ODD) {
            Due.due("row " + odd, x.octet(odd, 0), Due.BAD);
            for (int row : new int[] {0, 4, 40, 41}) {
                Due.due("row " + row + " " + odd, x.octet(row, odd), Due.BAD);
            }
        }
        for (int row : new int[] {5, 6, 38, 39, 42, 43, 64, Due.MOST}) {
            Due.due("row " + row, x.octet(row, 0), Due.BAD);
            Due.due("row " + row + ", far behind", x.octet(row, 999), Due.BAD);
            Due.due("row " + row + " -1", x.octet(row, -1), Due.BAD);
        }
        Due.due("section 0 of none", new HeadTables().octet(0, 0), Due.BAD);
        Due.due("section 39 of none", new HeadTables().octet(39, 0), Due.BAD);
        Due.due("an empty stream -1", new HeadTables().octet(40, -1), Due.BAD);
        Due.due("an empty stream -1", new HeadTables().octet(41, -1), Due.BAD);
    }

    // ---- promise 28

    private static void countNumbers() {
        Due.sentence("what: 0 for the number of fields, 1 for the number of static entries, 2 for the maximum capacity, 3 for the blocking limit, 4 for the known "
            + "count, 5 for the reported count, 6 for the number of sections, 7 for the number of blocked sections, 8 for the number of sections at risk, 9 for the "
            + "number of octets that wait in the instruction stream, 10 for those in the acknowledgement stream, 11 for the number of fields of the draft, 12 for "
            + "the length of the text");
        HeadTables x = Due.made(EdgesOfAskingTest::sections);
        Due.puts(x, 0, 1);
        Due.typed(x, "table");
        int[] want = {4, 1, 70, 9, 3, 3, 5, 1, 2, 2, 2, 2, 5};
        for (int what = 0; what < 13; what++) {
            Due.due("count " + what, x.count(what), want[what]);
        }
        x.feeds(99);
        x.grows();
        int[] later = {4, 1, 70, 9, 3, 4, 5, 0, 2, 0, 3, 2, 5};
        for (int what = 0; what < 13; what++) {
            Due.due("count " + what + " later", x.count(what), later[what]);
        }
    }

    private static void countRefused() {
        Due.sentence("Returns the number; BAD if what is not 0 to 12.");
        HeadTables x = Due.made(EdgesOfAskingTest::sections);
        for (int odd : ODD) {
            Due.due("count " + odd, x.count(odd), Due.BAD);
        }
        for (int what : new int[] {13, 14, 64, Due.MOST}) {
            Due.due("count " + what, x.count(what), Due.BAD);
        }
        Due.due("count 0", x.count(0), 4);
        Due.due("count 12", x.count(12), 0);
    }

    // ---- errors

    private static void askingChangesNothing() {
        Due.sentence("A call that returns an error code changes nothing.");
        Due.Call[] asks = {
            x -> x.table(0, 4), x -> x.table(2, 0), x -> x.table(0, 5), x -> x.entry(0, 2, 1), x -> x.entry(0, 9, 1), x -> x.entry(2, 2, 1), x -> x.entry(0, -1, 1),
            x -> x.holds(2), x -> x.holds(0), x -> x.letter(1, 4), x -> x.letter(5, 0), x -> x.letter(1, 7), x -> x.got(2, 0), x -> x.got(2, 2),
            x -> x.got(0, 0), x -> x.got(5, 0), x -> x.waits(0), x -> x.waits(1), x -> x.waits(-1), x -> x.octet(40, 0), x -> x.octet(40, 9), x -> x.octet(42, 0),
            x -> x.octet(0, -1), x -> x.count(4), x -> x.count(13), x -> x.count(-1), x -> x.spells(0, 0, 0, 0), x -> x.loose(),
        };
        Due.Run made = EdgesOfAskingTest::sections;
        Due.Run run = made.then(x -> Due.puts(x, 0, 1)).then(x -> Due.typed(x, "table 9"));
        for (int i = 0; i < asks.length; i++) {
            Due.unchanged(run, "asking " + i, asks[i]);
        }
    }

    private static void noneOnlyIfNoError() {
        Due.sentence("NONE means that there is no such value; it is not an error, and it is returned only if no error applies.");
        HeadTables x = Due.made(EdgesOfAskingTest::sections);
        Due.due("spells", x.spells(0, 0, 0, 1), Due.NONE);
        Due.due("spells of no such field", x.spells(0, 4, 0, 1), Due.BAD);
        Due.due("table", new HeadTables().table(1, 4), Due.NONE);
        Due.due("table of nobody", new HeadTables().table(2, 4), Due.BAD);
        Due.due("entry", x.entry(0, 0, 1), Due.NONE);
        Due.due("entry of nobody", x.entry(2, 0, 1), Due.BAD);
        Due.due("entry and no such property", x.entry(0, 0, 2), Due.BAD);
        Due.due("waits", x.waits(1), Due.NONE);
        Due.due("octet", x.octet(4, 2), Due.NONE);
        Due.due("octet of no section", x.octet(5, 2), Due.BAD);
        // Where the document speaks of an error, there is no NONE.
        Due.due("holds", x.holds(0), Due.BAD);
        Due.due("got", x.got(2, 2), Due.BAD);
        Due.due("got of one that is not decoded", x.got(0, 3), Due.BAD);
        Due.due("letter", x.letter(5, 0), Due.BAD);
    }

    private static void the512thCall() {
        Due.sentence("An object is used for at most 512 calls after it has been made; what later calls answer is free.");
        HeadTables x = new HeadTables();
        int calls = Due.typedCalls(x, "field a=;");
        Due.due("capacity", x.capacity(10), 0);
        calls++;
        for (int place = 0; calls < 508; place++) {
            Due.due("inserts", x.inserts(0), place);
            Due.due("feeds", x.feeds(99), place == 0 ? 2 : 1);
            Due.due("grows", x.grows(), 1);
            Due.due("hears", x.hears(1), 1);
            calls += 4;
        }
        int places = (508 - 11) / 4 + 1;
        while (calls < 511) {
            Due.due("count", x.count(4), places);
            calls++;
        }
        Due.due("the 512th", x.table(1, 0), places);
    }
}
