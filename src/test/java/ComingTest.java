/** Promises 14 to 18: what is delivered, decoded, cancelled and acknowledged. */
public final class ComingTest {
    public static void main(String[] args) {
        feeds();
        feedsInParts();
        feedsDecodes();
        gives();
        givesDecodes();
        quits();
        quitsFrees();
        grows();
        growsOften();
        hears();
        hearsHolds();
        hearsOrder();
        Due.finish();
    }

    private static void feeds() {
        HeadTables x = Due.told("table 200;field abcdef=123456;field a=;");
        Due.due("feeds 0", x.feeds(0), Due.BAD);
        Due.due("feeds -1", x.feeds(-1), Due.BAD);
        Due.due("feeds 100", x.feeds(100), Due.BAD);
        Due.due("feeds from nothing", x.feeds(99), 0);
        for (int i = 0; i < 50; i++) {
            x.capacity(100 + i % 2);
        }
        x.inserts(1);
        Due.due("octets", x.count(9), 103);
        Due.due("feeds 99", x.feeds(99), 49);
        Due.due("octets", x.count(9), 4);
        Due.dueText("octets", Due.octets(x, 40), "70 65 97 0");
        Due.due("capacity", x.table(1, 3), 100);
        Due.due("feeds the rest", x.feeds(99), 2);
        Due.due("capacity", x.table(1, 3), 101);
        Due.due("count", x.table(1, 0), 1);
        Due.due("octets", x.count(9), 0);
    }

    private static void feedsInParts() {
        HeadTables x = Due.told("field abc=12;field d=;");
        x.capacity(60);
        x.inserts(0);
        x.repeats(0);
        x.inserts(1);
        int[] carriedOut = {0, 1, 0, 0, 0, 0, 0, 0, 1, 1, 0, 0, 1, 0};
        int[] inserted = {0, 0, 0, 0, 0, 0, 0, 0, 1, 2, 2, 2, 3, 3};
        // 63 29, 67 97 98 99 2 49 50, 0, 65 100 0
        Due.due("octets", x.count(9), 13);
        for (int i = 0; i < carriedOut.length; i++) {
            Due.due("feeds octet " + i, x.feeds(1), carriedOut[i]);
            Due.due("inserted " + i, x.table(1, 0), inserted[i]);
        }
        Due.due("field 0", x.entry(1, 0, 1), 0);
        Due.due("field 1", x.entry(1, 1, 1), 0);
        Due.due("field 2", x.entry(1, 2, 1), 1);
        Due.due("size 1", x.entry(1, 1, 0), 9);
    }

    private static void feedsDecodes() {
        HeadTables x = Due.told("blocked 9;field a=;field b=;field c=;");
        x.capacity(60);
        x.inserts(0);
        x.inserts(1);
        x.inserts(2);
        int[][] drafts = {{2}, {1}, {0}, {1}, {0, 2}};
        for (int i = 0; i < drafts.length; i++) {
            Due.puts(x, drafts[i]);
            x.sends(1);
            Due.due("blocked", x.gives(i, 99), 1);
        }
        Due.due("blocked", x.count(7), 5);
        Due.due("feeds the capacity and one entry", x.feeds(2 + 3), 2);
        Due.dueText("the one that needs one entry", Due.octets(x, 41), "130");
        Due.due("blocked", x.count(7), 4);
        Due.due("feeds a part", x.feeds(2), 0);
        Due.due("feeds two more", x.feeds(4), 2);
        Due.dueText("in the order of required counts, then of numbers", Due.octets(x, 41), "130 129 131 128 132");
        Due.due("blocked", x.count(7), 0);
        Due.due("reported", x.count(5), 3);
        Due.due("got", x.got(4, 1), 2);
        HeadTables y = Due.told("blocked 9;field a=;field b=;");
        y.capacity(60);
        y.inserts(0);
        y.inserts(1);
        Due.puts(y, 1);
        y.sends(1);
        Due.puts(y, 0);
        y.sends(1);
        y.gives(0, 99);
        y.gives(1, 99);
        Due.due("all at once", y.feeds(99), 3);
        Due.dueText("each after its instruction", Due.octets(y, 41), "129 128");
    }

    private static void gives() {
        HeadTables x = Due.told("field abcdef=123456;");
        Due.due("no such section", x.gives(0, 1), Due.BAD);
        Due.puts(x, 0, 0, 0, 0, 0, 0);
        x.sends(0);
        Due.due("octets", x.letter(0, 0), 86);
        Due.due("section -1", x.gives(-1, 1), Due.BAD);
        Due.due("section 1", x.gives(1, 1), Due.BAD);
        Due.due("gives 0", x.gives(0, 0), Due.BAD);
        Due.due("gives 100", x.gives(0, 100), Due.BAD);
        Due.due("gives 1", x.gives(0, 1), 0);
        Due.due("gives 84", x.gives(0, 84), 0);
        Due.due("delivered", x.letter(0, 3), 85);
        Due.due("not decoded", x.got(0, 0), Due.STATE);
        Due.due("gives the last", x.gives(0, 1), 2);
        Due.due("delivered", x.letter(0, 3), 86);
        Due.due("gives more", x.gives(0, 1), Due.STATE);
        Due.due("gives 0 more", x.gives(0, 0), Due.BAD);
        Due.due("no acknowledgement with required count 0", x.count(10), 0);
        Due.due("never settled", x.letter(0, 5), 0);
    }

    private static void givesDecodes() {
        HeadTables x = Due.told("blocked 9;field a=;field b=;");
        x.capacity(60);
        x.inserts(0);
        x.feeds(99);
        x.inserts(1);
        Due.puts(x, 0);
        x.sends(1);
        Due.puts(x, 1);
        x.sends(1);
        Due.due("the count is sufficient", x.gives(0, 99), 2);
        Due.due("the count is not sufficient", x.gives(1, 99), 1);
        Due.due("more of a blocked one", x.gives(1, 1), Due.STATE);
        Due.dueText("acknowledgements", Due.octets(x, 41), "128");
        Due.due("reported", x.count(5), 1);
        x.feeds(99);
        Due.dueText("acknowledgements", Due.octets(x, 41), "128 129");
        Due.due("reported", x.count(5), 2);
        Due.puts(x, 0);
        x.sends(1);
        x.gives(2, 99);
        Due.due("reported stays", x.count(5), 2);
        Due.due("more of a decoded one", x.gives(1, 1), Due.STATE);
    }

    private static void quits() {
        HeadTables x = Due.told("field a=;");
        x.capacity(60);
        Due.due("no such section", x.quits(0), Due.BAD);
        Due.due("section -1", x.quits(-1), Due.BAD);
        for (int i = 0; i < 4; i++) {
            Due.puts(x, 0);
            x.sends(0);
        }
        x.gives(0, 3);
        Due.due("a part was delivered", x.quits(0), 3);
        Due.due("nothing was delivered", x.quits(1), 0);
        x.gives(2, 99);
        Due.due("decoded", x.quits(2), Due.STATE);
        Due.due("cancelled", x.quits(0), Due.STATE);
        Due.due("gives a cancelled one", x.gives(0, 1), Due.STATE);
        Due.due("gives a cancelled one 0", x.gives(0, 0), Due.BAD);
        Due.due("delivered", x.letter(0, 3), 3);
        Due.due("state", x.letter(0, 4), 3);
        Due.dueText("acknowledgements", Due.octets(x, 41), "64 65");
        Due.due("not settled", x.letter(0, 5), 0);
        Due.due("hears", x.hears(1), 1);
        Due.due("settled", x.letter(0, 5), 1);
        Due.due("not settled", x.letter(1, 5), 0);
        Due.due("got", x.got(0, 0), Due.STATE);
        Due.due("the others stay", x.letter(3, 4), 0);
    }

    private static void quitsFrees() {
        HeadTables x = Due.told("field a=;");
        x.capacity(60);
        x.inserts(0);
        Due.puts(x, 0);
        x.sends(1);
        Due.due("blocked", x.gives(0, 99), 1);
        Due.due("quits a blocked one", x.quits(0), 3);
        Due.due("blocked", x.count(7), 0);
        x.feeds(99);
        Due.due("not decoded", x.letter(0, 4), 3);
        Due.dueText("acknowledgements", Due.octets(x, 41), "64");
        Due.due("reported", x.count(5), 0);
        Due.due("held", x.holds(0), 1);
        x.hears(1);
        Due.due("not held", x.holds(0), 0);
        Due.due("known", x.count(4), 0);
    }

    private static void grows() {
        HeadTables x = Due.told("field a=;");
        Due.due("grows by nothing", x.grows(), Due.STATE);
        x.capacity(60);
        x.inserts(0);
        Due.due("grows by what is not there", x.grows(), Due.STATE);
        x.inserts(0);
        x.inserts(0);
        x.feeds(99);
        Due.due("grows", x.grows(), 3);
        Due.dueText("octets", Due.octets(x, 41), "3");
        Due.due("reported", x.count(5), 3);
        Due.due("known", x.count(4), 0);
        Due.due("grows again", x.grows(), Due.STATE);
        x.inserts(0);
        x.inserts(0);
        x.feeds(99);
        Due.puts(x, 0);
        x.sends(1);
        x.inserts(0);
        x.feeds(99);
        x.gives(0, 99);
        Due.due("reported by a section", x.count(5), 5);
        Due.due("grows by the rest", x.grows(), 1);
        Due.dueText("octets", Due.octets(x, 41), "3 128 1");
        x.hears(1);
        Due.due("known", x.count(4), 3);
        x.hears(1);
        Due.due("known", x.count(4), 5);
        x.hears(1);
        Due.due("known", x.count(4), 6);
    }

    /**
     * No run reaches the 100 octets with which grows() is FULL: 40 sections give one each, and more
     * than 40 growths would need more than 40 unknown entries in the encoder's table. These are the 80.
     */
    private static void growsOften() {
        HeadTables x = Due.told("table 200;field a=;");
        x.capacity(200);
        for (int i = 0; i < 40; i++) {
            x.sends(0);
            x.quits(i);
        }
        for (int i = 0; i < 40; i++) {
            x.inserts(0);
            x.feeds(99);
            Due.due("grows", x.grows(), 1);
        }
        Due.due("octets", x.count(10), 80);
        Due.due("first", x.octet(41, 0), 64);
        Due.due("last end", x.octet(41, 39), 64 + 39);
        Due.due("first growth", x.octet(41, 40), 1);
        Due.due("behind", x.octet(41, 80), Due.NONE);
        Due.due("grows by nothing", x.grows(), Due.STATE);
        Due.due("all are unknown", x.inserts(0), Due.STATE);
        Due.due("hears all", x.hears(99), 80);
        Due.due("known", x.count(4), 40);
        x.capacity(0);
        x.capacity(200);
        for (int i = 0; i < 40; i++) {
            x.inserts(0);
            x.feeds(99);
        }
        Due.due("grows by the most", x.grows(), 40);
        Due.dueText("in one octet", Due.octets(x, 41), "40");
        Due.due("hears it", x.hears(1), 1);
        Due.due("known", x.count(4), 80);
    }

    private static void hears() {
        HeadTables x = Due.told("field a=;");
        Due.due("hears 0", x.hears(0), Due.BAD);
        Due.due("hears -1", x.hears(-1), Due.BAD);
        Due.due("hears 100", x.hears(100), Due.BAD);
        Due.due("hears nothing", x.hears(99), 0);
        for (int i = 0; i < 4; i++) {
            x.sends(0);
            x.quits(i);
        }
        Due.due("hears one", x.hears(1), 1);
        Due.dueText("octets", Due.octets(x, 41), "65 66 67");
        Due.due("section 0 is settled", x.letter(0, 5), 1);
        Due.due("section 1 is not", x.letter(1, 5), 0);
        Due.due("hears all", x.hears(99), 3);
        Due.due("octets", x.count(10), 0);
        Due.due("section 3 is settled", x.letter(3, 5), 1);
    }

    private static void hearsHolds() {
        HeadTables x = Due.told("blocked 9;field a=;field b=;field c=;");
        x.capacity(60);
        for (int i = 0; i < 3; i++) {
            x.inserts(i);
        }
        Due.puts(x, 0, 1);
        x.sends(1);
        Due.puts(x, 1, 2, 1);
        x.sends(1);
        Due.puts(x, 1);
        x.sends(1);
        Due.due("holds 0", x.holds(0), 1);
        Due.due("holds 1", x.holds(1), 7);
        Due.due("holds 2", x.holds(2), 2);
        x.feeds(99);
        x.gives(1, 99);
        Due.due("still", x.holds(1), 7);
        x.hears(1);
        Due.due("known", x.count(4), 3);
        Due.due("holds 0", x.holds(0), 1);
        Due.due("holds 1", x.holds(1), 5);
        Due.due("holds 2", x.holds(2), 0);
        Due.due("loose", x.loose(), 0);
        x.gives(0, 99);
        x.hears(1);
        Due.due("known does not become less", x.count(4), 3);
        Due.due("loose", x.loose(), 1);
        Due.due("settled", x.letter(0, 5), 1);
        x.quits(2);
        x.hears(1);
        Due.due("holds 1", x.holds(1), 0);
        Due.due("loose", x.loose(), 3);
    }

    private static void hearsOrder() {
        HeadTables x = Due.told("blocked 9;field a=;field b=;");
        x.capacity(60);
        x.inserts(0);
        x.inserts(1);
        Due.puts(x, 1);
        x.sends(1);
        x.feeds(4);
        Due.due("no instruction but the capacity", x.table(1, 0), 0);
        x.feeds(1);
        x.grows();
        x.feeds(99);
        x.gives(0, 99);
        Due.dueText("octets", Due.octets(x, 41), "1 128");
        Due.due("reported", x.count(5), 2);
        Due.due("hears", x.hears(99), 2);
        Due.due("known", x.count(4), 2);
    }
}
