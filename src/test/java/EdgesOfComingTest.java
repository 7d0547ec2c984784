/** The edges that the document names for decoding and acknowledgements, and those of promises 14 to 18, a test for each sentence. */
public final class EdgesOfComingTest {
    public static void main(String[] args) {
        wholeInstructions();
        inTheirOrder();
        sameEffect();
        wholeSections();
        decodedOrBlocked();
        decodedWhenSufficient();
        orderOfSeveral();
        orderAfterOneInstruction();
        cancelled();
        cancelledIsNotBlocked();
        decodedIsWritten();
        decodedOfNothing();
        reportedBecomes();
        cancelledIsWritten();
        grownIsWritten();
        heardInTheirOrder();
        heardDecoded();
        heardCancelled();
        heardGrown();
        neverSettled();
        oneOctetEach();
        feedsRefused();
        feedsAll();
        feedsInstructions();
        givesRefused();
        givesAll();
        givesAnswers();
        quitsRefused();
        quitsDelivered();
        growsInteger();
        growsState();
        growsFull();
        hearsRefused();
        hearsAll();
        Due.finish();
    }

    /** Entries 0, 1, 2, 3 of 5 octets each are written, and wait behind the octet of the capacity; each has 3 octets. */
    private static Due.Run written(String settings, int n) {
        return Due.text(settings + "field a=;field b=;field c=;field d=;field e=;").then(x -> {
            x.capacity(30);
            x.feeds(1);
            for (int f = 0; f < n; f++) {
                x.inserts(f);
            }
            Due.due("octets that wait", x.count(9), 3 * n);
        });
    }

    // ---- decoding

    private static void wholeInstructions() {
        Due.sentence("As soon as all octets of an instruction have been delivered, it is carried out in the decoder's table, with the same effect that it "
            + "had in the encoder's table.");
        HeadTables x = Due.told("table 200;still b=;field abcdef=123456;field abcdef=7;field b=9;");
        Due.Call[] written = {y -> y.capacity(159), y -> y.inserts(0), y -> y.inserts(1), y -> y.inserts(2), y -> y.repeats(0), y -> y.capacity(60),
            y -> y.capacity(200), y -> y.repeats(3)};
        int[] octets = {3, 1 + 6 + 1 + 6, 1 + 1 + 1, 1 + 1 + 1, 1, 2, 3, 1};
        for (int i = 0; i < written.length; i++) {
            Due.due("instruction " + i, written[i].on(x) >= 0 ? 1 : 0, 1);
            Due.due("octets of instruction " + i, x.count(9), octets[i]);
            int count = x.table(1, 0);
            int capacity = x.table(1, 3);
            for (int k = 1; k < octets[i]; k++) {
                Due.due("octet " + k + " of instruction " + i, x.feeds(1), 0);
            }
            Due.due("not carried out: count", x.table(1, 0), count);
            Due.due("not carried out: capacity", x.table(1, 3), capacity);
            Due.due("the last octet of instruction " + i, x.feeds(1), 1);
            for (int what = 0; what < 5; what++) {
                Due.due("carried out: table", x.table(1, what), x.table(0, what));
            }
        }
    }

    private static void inTheirOrder() {
        Due.sentence("The octets of the instruction stream are delivered to the decoder in their order.");
        HeadTables x = Due.made(written("", 3));
        Due.dueText("they wait", Due.octets(x, 40), "65 97 0 65 98 0 65 99 0");
        x.feeds(4);
        Due.dueText("the first four are delivered", Due.octets(x, 40), "98 0 65 99 0");
        Due.due("the first entry", x.entry(1, 0, 1), 0);
        x.inserts(3);
        Due.dueText("a new one is behind them", Due.octets(x, 40), "98 0 65 99 0 65 100 0");
        x.feeds(8);
        for (int f = 0; f < 4; f++) {
            Due.due("entry " + f, x.entry(1, f, 1), f);
        }
    }

    private static void sameEffect() {
        Due.sentence("As soon as all octets of an instruction have been delivered, it is carried out in the decoder's table, with the same effect that it "
            + "had in the encoder's table.");
        HeadTables x = Due.told("table 30;still c=9;field a=;field a=1;field b=22;field c=;field d=;");
        x.capacity(17);
        int[] calls = {0, 1, 2, 0, -2, 3, 1, -6, 4, 0, 2};
        for (int call : calls) {
            int place = call >= 0 ? x.inserts(call) : x.repeats(-call);
            Due.due("call " + call, place >= 0 ? 1 : 0, 1);
            String after = table(x, 0);
            x.feeds(99);
            Due.dueText("the decoder's table", table(x, 1), after);
            x.grows();
            x.hears(1);
        }
        Due.due("capacity", x.capacity(7), 2);
        x.feeds(1);
        Due.dueText("the decoder's table", table(x, 1), table(x, 0));
    }

    private static String table(HeadTables x, int who) {
        StringBuilder all = new StringBuilder();
        for (int what = 0; what < 5; what++) {
            all.append(x.table(who, what)).append(' ');
        }
        int lowest = Math.max(0, x.table(who, 4));
        for (int place = lowest; place < lowest + 4; place++) {
            all.append(x.entry(who, place, 0)).append(' ').append(x.entry(who, place, 1)).append(' ');
        }
        return all.toString();
    }

    private static void wholeSections() {
        Due.sentence("When all octets of a section have been delivered, it is decoded if its required count is at most the count of the decoder's table; "
            + "otherwise it is blocked.");
        HeadTables x = Due.made(written("", 1));
        Due.sends(x, 1, 0, 1);
        Due.dueText("section", Due.octets(x, 0), "2 0 128 33 98 0");
        for (int n = 1; n <= 5; n++) {
            Due.due("octet " + n, x.gives(0, 1), 0);
            Due.due("delivered", x.letter(0, 3), n);
            Due.due("being delivered", x.letter(0, 4), 0);
            Due.due("not blocked", x.count(7), 0);
            Due.due("not decoded", x.got(0, 0), Due.STATE);
        }
        Due.due("the last octet", x.gives(0, 1), 1);
        Due.due("delivered", x.letter(0, 3), 6);
        Due.due("blocked", x.letter(0, 4), 1);
        HeadTables y = Due.made(written("", 0));
        y.sends(0);
        Due.due("an empty section: its first octet", y.gives(0, 1), 0);
        Due.due("its last octet", y.gives(0, 1), 2);
    }

    private static void decodedOrBlocked() {
        Due.sentence("When all octets of a section have been delivered, it is decoded if its required count is at most the count of the decoder's table; "
            + "otherwise it is blocked.");
        for (int count = 0; count <= 4; count++) {
            for (int required = 0; required <= 4; required++) {
                HeadTables x = Due.made(written("", 4));
                x.feeds(count == 0 ? 1 : 3 * count);
                Due.due("count", x.table(1, 0), count);
                Due.sends(x, required == 0 ? 0 : 1, Math.max(0, required - 1));
                Due.due("required count", x.letter(0, 1), required);
                Due.due("required " + required + " with the count " + count, x.gives(0, 99), required <= count ? 2 : 1);
                Due.due("state", x.letter(0, 4), required <= count ? 2 : 1);
                Due.due("blocked", x.count(7), required <= count ? 0 : 1);
                Due.due("waits", x.waits(0), required <= count ? Due.NONE : 0);
            }
        }
        // The count is that of all that have been inserted, not of those that are there.
        HeadTables x = Due.made(written("", 1));
        Due.settle(x);
        Due.sends(x, 0, 0);
        x.inserts(1);
        x.feeds(2);
        Due.due("one is inserted, one is not", x.gives(0, 99), 2);
    }

    private static void decodedWhenSufficient() {
        Due.sentence("Blocked sections are decoded as soon as the count is sufficient");
        for (int required = 1; required <= 4; required++) {
            HeadTables x = Due.made(written("", 4));
            Due.sends(x, 1, required - 1);
            Due.due("gives", x.gives(0, 99), 1);
            for (int octets = 1; octets <= 12; octets++) {
                Due.due("state with " + (octets - 1) + " octets", x.letter(0, 4), octets - 1 < 3 * required ? 1 : 2);
                Due.due("acknowledgements", x.count(10), octets - 1 < 3 * required ? 0 : 1);
                x.feeds(1);
            }
            Due.due("got", x.got(0, 0), required - 1);
        }
        // A change of the capacity carries something out, too, but the count stays.
        HeadTables x = Due.made(written("", 0));
        x.capacity(20);
        x.inserts(0);
        Due.sends(x, 1, 0);
        x.gives(0, 99);
        Due.due("feeds the capacity", x.feeds(1), 1);
        Due.due("blocked", x.letter(0, 4), 1);
        x.feeds(3);
        Due.due("decoded", x.letter(0, 4), 2);
    }

    private static void orderOfSeveral() {
        Due.sentence("of several, after one instruction, the one with the smallest required count first, of equal ones the one with the lowest number.");
        HeadTables x = Due.made(written("blocked 9;", 4));
        int[] last = {3, 0, 2, 0, 3, 1, 2};
        for (int k = 0; k < last.length; k++) {
            Due.sends(x, 1, last[k]);
        }
        for (int k = last.length - 1; k >= 0; k--) {
            Due.due("gives", x.gives(k, 99), 1);
        }
        Due.due("all in one call", x.feeds(99), 4);
        Due.dueText("in the order of the required counts, and of the numbers", Due.octets(x, 41), "129 131 133 130 134 128 132");
    }

    /**
     * The count grows by one with an instruction, and what it suffices for is decoded at once: so no
     * run has sections with different required counts to be decoded after one and the same instruction.
     * Of equal ones there can be several.
     */
    private static void orderAfterOneInstruction() {
        Due.sentence("of several, after one instruction, the one with the smallest required count first, of equal ones the one with the lowest number.");
        HeadTables x = Due.made(written("blocked 9;", 2));
        for (int k = 0; k < 6; k++) {
            Due.sends(x, 1, k % 2);
        }
        int[] order = {3, 4, 1, 0, 5, 2};
        for (int k : order) {
            x.gives(k, 99);
        }
        x.feeds(2);
        Due.dueText("before the instruction", Due.octets(x, 41), "");
        x.feeds(1);
        Due.dueText("those with the required count 1", Due.octets(x, 41), "128 130 132");
        x.feeds(3);
        Due.dueText("those with the required count 2", Due.octets(x, 41), "128 130 132 129 131 133");
        Due.due("none is blocked", x.count(7), 0);
    }

    private static void cancelled() {
        Due.sentence("A section that has not been decoded can be cancelled; nothing more of it is delivered then, and it is not blocked any more.");
        for (int n = 0; n <= 2; n++) {
            HeadTables x = Due.made(written("", 1));
            Due.sends(x, 1, 0);
            if (n > 0) {
                x.gives(0, n);
            }
            Due.due("quits", x.quits(0), n);
            Due.due("gives", x.gives(0, 1), Due.STATE);
            Due.due("gives", x.gives(0, 99), Due.STATE);
            Due.due("delivered", x.letter(0, 3), n);
            Due.due("state", x.letter(0, 4), 3);
            Due.due("got", x.got(0, 0), Due.STATE);
        }
        HeadTables x = Due.made(written("", 1));
        Due.sends(x, 0, 0);
        x.gives(0, 99);
        Due.due("a decoded one", x.quits(0), Due.STATE);
        Due.due("it stays decoded", x.letter(0, 4), 2);
    }

    private static void cancelledIsNotBlocked() {
        Due.sentence("A section that has not been decoded can be cancelled; nothing more of it is delivered then, and it is not blocked any more.");
        HeadTables x = Due.made(written("blocked 9;", 1));
        for (int k = 0; k < 3; k++) {
            Due.sends(x, 1, 0);
            x.gives(k, 99);
        }
        Due.due("blocked", x.count(7), 3);
        Due.due("quits", x.quits(1), 3);
        Due.due("blocked", x.count(7), 2);
        Due.due("waits 0", x.waits(0), 0);
        Due.due("waits 1", x.waits(1), 2);
        Due.due("waits 2", x.waits(2), Due.NONE);
        x.feeds(99);
        Due.dueText("only the others are decoded", Due.octets(x, 41), "65 128 130");
        Due.due("state", x.letter(1, 4), 3);
        Due.due("got", x.got(1, 0), Due.STATE);
        Due.due("got", x.got(2, 0), 0);
    }

    // ---- acknowledgements

    private static void decodedIsWritten() {
        Due.sentence("decoded: when a section with a required count above 0 is decoded, its number with the head 128 and a prefix of 7 bits.");
        HeadTables x = Due.made(written("blocked 9;", 1));
        x.feeds(99);
        for (int k = 0; k < 40; k++) {
            if (k == 0 || k == 1 || k == 39) {
                x.puts(0);
            }
            x.sends(1);
        }
        x.gives(1, 99);
        x.gives(39, 99);
        x.gives(0, 99);
        Due.dueText("sections 1, 39 and 0", Due.octets(x, 41), "129 167 128");
    }

    private static void decodedOfNothing() {
        Due.sentence("decoded: when a section with a required count above 0 is decoded, its number with the head 128 and a prefix of 7 bits.");
        HeadTables x = Due.made(written("still b=;", 1));
        x.feeds(99);
        Due.sends(x, 0, 0, 1);
        Due.due("required count 0", x.gives(0, 99), 2);
        x.sends(2);
        Due.due("an empty section", x.gives(1, 99), 2);
        Due.dueText("nothing is written", Due.octets(x, 41), "");
        Due.sends(x, 1, 0);
        Due.due("required count 1", x.gives(2, 99), 2);
        Due.dueText("it is written", Due.octets(x, 41), "130");
    }

    private static void reportedBecomes() {
        Due.sentence("The reported count, 0 at first, becomes the required count if it is less.");
        for (int before = 0; before <= 4; before++) {
            for (int required = 1; required <= 4; required++) {
                HeadTables x = Due.made(written("", 4));
                Due.due("at first", x.count(5), 0);
                x.feeds(before == 0 ? 1 : 3 * before);
                x.grows();
                Due.due("before", x.count(5), before);
                x.feeds(99);
                Due.due("feeds change nothing", x.count(5), before);
                Due.sends(x, 1, required - 1);
                x.gives(0, 2);
                Due.due("nor does a part of a section", x.count(5), before);
                x.gives(0, 1);
                Due.due("reported " + before + ", required " + required, x.count(5), Math.max(before, required));
                x.hears(9);
                Due.due("hears change nothing", x.count(5), Math.max(before, required));
            }
        }
    }

    private static void cancelledIsWritten() {
        Due.sentence("cancelled: when a section is cancelled, its number with the head 64 and a prefix of 6 bits.");
        HeadTables x = Due.made(written("", 1));
        Due.sends(x, 1, 0);
        for (int k = 1; k < 40; k++) {
            x.sends(1);
        }
        x.quits(39);
        x.quits(0);
        x.quits(1);
        Due.dueText("sections 39, 0 and 1", Due.octets(x, 41), "103 64 65");
        Due.due("reported", x.count(5), 0);
        x.hears(9);
        Due.due("known", x.count(4), 0);
    }

    private static void grownIsWritten() {
        Due.sentence("grown: the integer (count of the decoder's table - reported count) with the head 0 and a prefix of 6 bits. The reported count becomes "
            + "the count of the decoder's table.");
        for (int before = 0; before <= 3; before++) {
            for (int after = before; after <= 4; after++) {
                HeadTables x = Due.made(written("", 4));
                x.feeds(before == 0 ? 1 : 3 * before);
                x.grows();
                x.hears(9);
                if (after > before) {
                    x.feeds(3 * (after - before));
                }
                Due.due("grows from " + before + " to " + after, x.grows(), after == before ? Due.STATE : after - before);
                Due.dueText("octets", Due.octets(x, 41), after == before ? "" : "" + (after - before));
                Due.due("reported", x.count(5), after);
                Due.due("known", x.count(4), before);
            }
        }
    }

    private static void heardInTheirOrder() {
        Due.sentence("They are delivered to the encoder in their order; each of them consists of one octet.");
        HeadTables x = Due.made(written("blocked 9;", 3));
        Due.sends(x, 1, 0);
        Due.sends(x, 1, 1);
        Due.sends(x, 1, 2);
        x.feeds(3);
        x.gives(0, 99);
        x.quits(2);
        x.feeds(99);
        x.grows();
        x.gives(1, 99);
        Due.dueText("they wait", Due.octets(x, 41), "128 66 2 129");
        int[] known = {1, 1, 3, 3};
        int[] settled = {1, 5, 5, 7};
        for (int i = 0; i < 4; i++) {
            Due.due("hears", x.hears(1), 1);
            Due.due("known", x.count(4), known[i]);
            for (int k = 0; k < 3; k++) {
                Due.due("settled", x.letter(k, 5), settled[i] >> k & 1);
            }
            Due.due("they wait", x.count(10), 3 - i);
        }
    }

    private static void heardDecoded() {
        Due.sentence("decoded: the section is settled, and the known count, 0 at first, becomes the required count of the section if it is less");
        for (int before = 0; before <= 4; before++) {
            for (int required = 1; required <= 4; required++) {
                HeadTables x = Due.made(written("", 4));
                Due.due("at first", x.count(4), 0);
                x.feeds(before == 0 ? 1 : 3 * before);
                x.grows();
                x.hears(1);
                x.feeds(99);
                Due.sends(x, 1, required - 1);
                x.gives(0, 99);
                Due.due("not heard", x.count(4), before);
                Due.due("not settled", x.letter(0, 5), 0);
                Due.due("hears", x.hears(1), 1);
                Due.due("known " + before + ", required " + required, x.count(4), Math.max(before, required));
                Due.due("settled", x.letter(0, 5), 1);
                Due.due("not held", x.holds(required - 1), 0);
            }
        }
    }

    private static void heardCancelled() {
        Due.sentence("cancelled: the section is settled");
        HeadTables x = Due.made(written("", 2));
        Due.sends(x, 1, 1);
        Due.sends(x, 1, 1);
        x.quits(0);
        Due.due("not heard", x.letter(0, 5), 0);
        Due.due("held by both", x.holds(1), 3);
        Due.due("hears", x.hears(1), 1);
        Due.due("settled", x.letter(0, 5), 1);
        Due.due("the other is not", x.letter(1, 5), 0);
        Due.due("held by the other", x.holds(1), 2);
        Due.due("known", x.count(4), 0);
        Due.due("at risk", x.count(8), 1);
    }

    private static void heardGrown() {
        Due.sentence("grown: the known count increases by the integer.");
        HeadTables x = Due.made(written("", 4));
        x.feeds(6);
        x.grows();
        x.feeds(3);
        x.grows();
        x.feeds(3);
        Due.dueText("they wait", Due.octets(x, 41), "2 1");
        Due.due("known", x.count(4), 0);
        x.hears(1);
        Due.due("known", x.count(4), 2);
        x.hears(1);
        Due.due("known", x.count(4), 3);
        x.grows();
        x.hears(1);
        Due.due("known", x.count(4), 4);
        // A section is decoded between two growths: they add up to the count all the same.
        HeadTables y = Due.made(written("", 4));
        Due.sends(y, 1, 2);
        y.feeds(3);
        y.grows();
        y.feeds(6);
        y.gives(0, 99);
        y.feeds(3);
        y.grows();
        Due.dueText("they wait", Due.octets(y, 41), "1 128 1");
        y.hears(99);
        Due.due("known", y.count(4), 4);
    }

    private static void neverSettled() {
        Due.sentence("(A section with the required count 0 that is decoded is never settled.)");
        HeadTables x = Due.made(written("", 1));
        Due.sends(x, 0, 0);
        x.sends(2);
        Due.sends(x, 0, 0);
        x.gives(0, 99);
        x.gives(1, 99);
        x.quits(2);
        Due.settle(x);
        x.hears(99);
        Due.due("decoded", x.letter(0, 4), 2);
        Due.due("not settled", x.letter(0, 5), 0);
        Due.due("an empty one is not settled", x.letter(1, 5), 0);
        Due.due("a cancelled one is", x.letter(2, 5), 1);
        Due.due("not at risk", x.count(8), 0);
    }

    /**
     * Numbers of sections are at most 39, below 127 and 63. At most 40 entries can be unknown, as they have
     * 5 octets at least and none of them can be evicted: so an integer is at most 40, and no run reaches
     * the 63 from which on it would have two octets.
     */
    private static void oneOctetEach() {
        Due.sentence("They are delivered to the encoder in their order; each of them consists of one octet.");
        HeadTables x = Due.told("table 200;field a=;");
        x.capacity(200);
        for (int i = 0; i < 41; i++) {
            Due.due("inserts", x.inserts(0), i < 40 ? i : Due.STATE);
        }
        for (int i = 0; i < 3; i++) {
            x.feeds(99);
        }
        Due.due("the most", x.grows(), 40);
        Due.dueText("one octet", Due.octets(x, 41), "40");
        for (int k = 0; k < 39; k++) {
            x.sends(0);
        }
        Due.sends(x, 1, 0);
        x.gives(39, 99);
        x.quits(38);
        Due.dueText("one octet each", Due.octets(x, 41), "40 167 102");
        Due.due("three acknowledgements", x.hears(99), 3);
    }

    // ---- promise 14

    private static void feedsRefused() {
        Due.sentence("Returns how many instructions are carried out by this in the decoder's table; BAD if n is out of range.");
        for (int n : new int[] {0, -1, 100, 101, Due.LEAST, Due.MOST}) {
            Due.refused(written("", 3), "feeds " + n, x -> x.feeds(n), Due.BAD);
            Due.refused(x -> { }, "feeds " + n + " from nothing", x -> x.feeds(n), Due.BAD);
        }
        Due.due("feeds 1", Due.made(written("", 3)).feeds(1), 0);
        Due.due("feeds 99", Due.made(written("", 3)).feeds(99), 3);
        HeadTables x = Due.told("table 200;");
        Due.fill(x, 200);
        Due.due("feeds 99", x.feeds(99), 49);
        Due.due("octets that wait", x.count(9), 101);
    }

    private static void feedsAll() {
        Due.sentence("Delivers the next n octets that wait in the instruction stream, or all if there are fewer.");
        for (int n = 1; n <= 12; n++) {
            HeadTables x = Due.made(written("", 3));
            Due.due("feeds " + n + " of 9", x.feeds(n), Math.min(n, 9) / 3);
            Due.due("octets that wait", x.count(9), 9 - Math.min(n, 9));
            Due.due("the decoder's count", x.table(1, 0), Math.min(n, 9) / 3);
        }
        Due.due("from nothing", new HeadTables().feeds(99), 0);
        Due.unchanged(written("", 0), "feeds from nothing", x -> x.feeds(99));
        for (int waiting = 98; waiting <= 100; waiting++) {
            HeadTables x = Due.told("table 200;");
            Due.fill(x, waiting);
            x.feeds(99);
            Due.due("99 of " + waiting, x.count(9), Math.max(0, waiting - 99));
        }
    }

    private static void feedsInstructions() {
        Due.sentence("Returns how many instructions are carried out by this in the decoder's table");
        HeadTables x = Due.told("table 200;field ab=12;");
        x.capacity(200);
        x.inserts(0);
        x.repeats(0);
        x.repeats(1);
        // 3 octets, 1 + 2 + 1 + 2 octets, 1 and 1.
        int[] pieces = {2, 1, 5, 2, 9};
        int[] done = {0, 1, 0, 2, 1};
        for (int i = 0; i < pieces.length; i++) {
            Due.due("feeds " + pieces[i], x.feeds(pieces[i]), done[i]);
        }
        HeadTables y = Due.told("table 200;");
        for (int i = 0; i < 99; i++) {
            y.capacity(1 + i % 2);
        }
        Due.due("99 instructions of one octet", y.feeds(99), 99);
    }

    // ---- promise 15

    private static Due.Run sections() {
        // 0: being delivered, 1: blocked, 2: decoded, 3: cancelled, 4: blocked and cancelled.
        return written("blocked 9;", 2).then(x -> {
            Due.sends(x, 1, 0, 1);
            Due.sends(x, 1, 1);
            Due.sends(x, 0, 0);
            Due.sends(x, 1, 0);
            Due.sends(x, 1, 0);
            x.gives(0, 2);
            x.gives(1, 99);
            x.gives(2, 99);
            x.gives(3, 1);
            x.quits(3);
            x.gives(4, 99);
            x.quits(4);
        });
    }

    private static void givesRefused() {
        Due.sentence("BAD if there is no such section or n is out of range; STATE if all its octets have been delivered before, or it is cancelled.");
        for (int k : new int[] {-1, 5, 6, 39, 40, 41, Due.LEAST, Due.MOST}) {
            Due.refused(sections(), "gives " + k, x -> x.gives(k, 1), Due.BAD);
            Due.refused(sections(), "gives " + k + " 0", x -> x.gives(k, 0), Due.BAD);
        }
        Due.refused(x -> { }, "no section at all", x -> x.gives(0, 1), Due.BAD);
        for (int n : new int[] {0, -1, 100, 101, Due.LEAST, Due.MOST}) {
            Due.refused(sections(), "gives 0 " + n, x -> x.gives(0, n), Due.BAD);
            for (int k = 1; k <= 4; k++) {
                int section = k;
                Due.refused(sections(), "BAD before STATE", x -> x.gives(section, n), Due.BAD);
            }
        }
        Due.refused(sections(), "a blocked one", x -> x.gives(1, 1), Due.STATE);
        Due.refused(sections(), "a decoded one", x -> x.gives(2, 1), Due.STATE);
        Due.refused(sections(), "a cancelled one", x -> x.gives(3, 1), Due.STATE);
        Due.refused(sections(), "one that was blocked and is cancelled", x -> x.gives(4, 99), Due.STATE);
        Due.refused(sections().then(x -> x.feeds(99)), "one that was blocked and is decoded", x -> x.gives(1, 1), Due.STATE);
        Due.due("1 of one that is being delivered", Due.made(sections()).gives(0, 1), 0);
        Due.due("99 of one that is being delivered", Due.made(sections()).gives(0, 99), 1);
    }

    private static void givesAll() {
        Due.sentence("Delivers the next n octets of a section, or all that are left if there are fewer.");
        for (int first = 1; first <= 5; first++) {
            for (int n = 1; n <= 7; n++) {
                HeadTables x = Due.made(written("", 2));
                Due.sends(x, 0, 0, 1);
                Due.due("octets", x.letter(0, 0), 8);
                x.gives(0, first);
                Due.due(n + " behind " + first, x.gives(0, n), first + n < 8 ? 0 : 2);
                Due.due("delivered", x.letter(0, 3), Math.min(8, first + n));
            }
        }
        HeadTables x = Due.told("field abcdef=123456;");
        Due.sends(x, 0, 0, 0, 0, 0, 0, 0);
        Due.due("99 of 86", x.gives(0, 99), 2);
        Due.due("delivered", x.letter(0, 3), 86);
    }

    private static void givesAnswers() {
        Due.sentence("Returns 0 if not all octets of the section have been delivered, 1 if it is blocked, 2 if it is decoded");
        HeadTables x = Due.made(written("blocked 9;", 2));
        Due.sends(x, 1, 0);
        Due.sends(x, 1, 1);
        Due.sends(x, 0, 1);
        x.feeds(3);
        for (int k = 0; k < 3; k++) {
            Due.due("the first octet", x.gives(k, 1), 0);
            Due.due("all but one", x.gives(k, x.letter(k, 0) - 2), 0);
            Due.due("the last one", x.gives(k, 1), k == 1 ? 1 : 2);
        }
    }

    // ---- promise 16

    private static void quitsRefused() {
        Due.sentence("Returns how many of its octets have been delivered; BAD if there is no such section; STATE if it is decoded or cancelled.");
        for (int k : new int[] {-1, 5, 6, 39, 40, 41, Due.LEAST, Due.MOST}) {
            Due.refused(sections(), "quits " + k, x -> x.quits(k), Due.BAD);
        }
        Due.refused(x -> { }, "no section at all", x -> x.quits(0), Due.BAD);
        Due.refused(sections(), "a decoded one", x -> x.quits(2), Due.STATE);
        Due.refused(sections(), "a cancelled one", x -> x.quits(3), Due.STATE);
        Due.refused(sections(), "one that was blocked and is cancelled", x -> x.quits(4), Due.STATE);
        Due.refused(sections().then(x -> x.feeds(99)), "one that was blocked and is decoded", x -> x.quits(1), Due.STATE);
        Due.refused(sections().then(x -> x.hears(9)), "one that is cancelled and settled", x -> x.quits(3), Due.STATE);
        Due.due("one that is being delivered", Due.made(sections()).quits(0), 2);
        Due.due("one that is blocked", Due.made(sections()).quits(1), 3);
    }

    private static void quitsDelivered() {
        Due.sentence("Returns how many of its octets have been delivered");
        for (int n = 0; n <= 5; n++) {
            HeadTables x = Due.made(written("", 2));
            Due.sends(x, 1, 0, 4);
            if (n > 0) {
                x.gives(0, n);
            }
            Due.due("quits behind " + n, x.quits(0), n);
        }
        HeadTables x = Due.made(written("", 2));
        Due.sends(x, 1, 0, 4);
        x.gives(0, 99);
        Due.due("quits a blocked one", x.quits(0), 6);
        x.sends(0);
        Due.due("quits an empty one", x.quits(1), 0);
    }

    // ---- promise 17

    private static void growsInteger() {
        Due.sentence("Returns its integer; STATE if that would be 0; FULL if 100 or more octets wait in the acknowledgement stream.");
        for (int n = 1; n <= 4; n++) {
            HeadTables x = Due.made(written("", 4));
            x.feeds(3 * n);
            Due.due("grows", x.grows(), n);
            Due.due("grows again", x.grows(), Due.STATE);
            Due.due("one octet", x.count(10), 1);
        }
    }

    private static void growsState() {
        Due.sentence("Returns its integer; STATE if that would be 0; FULL if 100 or more octets wait in the acknowledgement stream.");
        Due.refused(x -> { }, "nothing is there", HeadTables::grows, Due.STATE);
        Due.refused(written("", 2), "nothing is delivered", HeadTables::grows, Due.STATE);
        Due.refused(written("", 2).then(x -> x.feeds(2)), "not all of one instruction", HeadTables::grows, Due.STATE);
        Due.refused(written("", 2).then(x -> x.feeds(99)).then(HeadTables::grows), "grown already", HeadTables::grows, Due.STATE);
        Due.refused(written("", 2).then(Due::settle), "grown and heard already", HeadTables::grows, Due.STATE);
        Due.refused(written("", 2).then(x -> Due.sends(x, 1, 1)).then(x -> x.feeds(99)).then(x -> x.gives(0, 99)), "reported by a section", HeadTables::grows,
            Due.STATE);
        Due.due("all of one instruction", Due.made(written("", 2).then(x -> x.feeds(3))).grows(), 1);
        Due.due("one more than a section reported",
            Due.made(written("", 2).then(x -> Due.sends(x, 1, 0)).then(x -> x.feeds(99)).then(x -> x.gives(0, 99))).grows(), 1);
    }

    /**
     * No run of calls reaches the 100 octets. A growth that waits reports an entry at least that the
     * encoder does not know; it cannot evict it, and so has room for 40 of them at most, of 5 octets. Each
     * of the 40 sections is decoded or cancelled once. That makes 80, which ComingTest reaches. So the
     * number of octets is set from within; what they are does not matter here.
     */
    private static void growsFull() {
        Due.sentence("FULL if 100 or more octets wait in the acknowledgement stream.");
        for (int waiting : new int[] {0, 1, 80, 98, 99, 100, 101, 140}) {
            HeadTables x = Due.made(written("", 2));
            x.feeds(99);
            if (!Inside.set(x, "reader.replies.size", waiting)) {
                return;
            }
            Due.due("octets that wait", x.count(10), waiting);
            Due.due("grows behind " + waiting, x.grows(), waiting < 100 ? 2 : Due.FULL);
            Due.due("octets that wait", x.count(10), waiting < 100 ? waiting + 1 : waiting);
            Due.due("the octet", x.octet(41, waiting), waiting < 100 ? 2 : Due.NONE);
            Due.due("reported", x.count(5), waiting < 100 ? 2 : 0);
            Due.due("STATE before FULL", Inside.set(x, "reader.reported", 2) ? x.grows() : 0, Due.STATE);
        }
    }

    // ---- promise 18

    private static Due.Run replies(int n) {
        return x -> {
            for (int k = 0; k < n; k++) {
                x.sends(0);
                x.quits(k);
            }
        };
    }

    private static void hearsRefused() {
        Due.sentence("Returns how many acknowledgements are delivered by this; BAD if n is out of range.");
        for (int n : new int[] {0, -1, 100, 101, Due.LEAST, Due.MOST}) {
            Due.refused(replies(3), "hears " + n, x -> x.hears(n), Due.BAD);
            Due.refused(x -> { }, "hears " + n + " of nothing", x -> x.hears(n), Due.BAD);
        }
        Due.due("hears 1", Due.made(replies(3)).hears(1), 1);
        Due.due("hears 99", Due.made(replies(3)).hears(99), 3);
    }

    private static void hearsAll() {
        Due.sentence("Delivers the next n octets that wait in the acknowledgement stream, or all if there are fewer.");
        for (int n = 1; n <= 8; n++) {
            HeadTables x = Due.made(replies(6));
            Due.due("hears " + n + " of 6", x.hears(n), Math.min(n, 6));
            Due.due("octets that wait", x.count(10), 6 - Math.min(n, 6));
            for (int k = 0; k < 6; k++) {
                Due.due("settled", x.letter(k, 5), k < n ? 1 : 0);
            }
        }
        Due.unchanged(written("", 2), "hears of nothing", x -> x.hears(99));
        Due.due("40 of 40", Due.made(replies(40)).hears(40), 40);
        Due.due("99 of 40", Due.made(replies(40)).hears(99), 40);
        Due.due("39 of 40", Due.made(replies(40)).hears(39), 39);
    }
}
