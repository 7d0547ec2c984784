/** The edges that the document names for sections, and those of promises 9 to 12, a test for each sentence. */
public final class EdgesOfSectionsTest {
    public static void main(String[] args) {
        sectionsUpTo40();
        fieldsOfASection();
        base();
        safe();
        bold();
        boldLimits();
        boldWhenEncodingBegins();
        greedy();
        greedyNotAllowed();
        atRiskUntilSettled();
        atRiskUntilKnown();
        holdsUntilSettled();
        holdsWhileEncoded();
        holdsByName();
        formA();
        formB();
        formBFar();
        formBInserts();
        formBImpossible();
        formBStreamFull();
        formC();
        formD();
        formDFar();
        formE();
        firstPossibleForm();
        requiredCount();
        requiredCountWraps();
        requiredCountWrapsLate();
        baseTold();
        baseToldFar();
        putsRefused();
        takes();
        sendsRefused();
        costOfNothing();
        costIsWhatItTakes();
        costOf40();
        costRefused();
        Due.finish();
    }

    private static final String SIX = "field a=1;field b=2;field c=3;field d=4;field e=5;field f=6;field a=7;";

    /** The first so many fields inserted, of which so many are known. Each has 6 octets. */
    private static Due.Run entries(String settings, int known, int all) {
        return Due.text(settings + SIX).then(x -> {
            x.capacity(Math.min(60, x.count(2)));
            for (int f = 0; f < all; f++) {
                x.inserts(f);
                if (f == known - 1) {
                    Due.settle(x);
                }
            }
            Due.due("known", x.count(4), known);
        });
    }

    private static void dueSection(Due.Run run, String what, int way, int[] fields, String octets) {
        HeadTables x = Due.made(run);
        int k = Due.sends(x, way, fields);
        Due.dueText(what, Due.octets(x, k), octets);
    }

    private static int[] of(int... fields) {
        return fields;
    }

    // ---- sections

    private static void sectionsUpTo40() {
        Due.sentence("There are up to 40 sections, numbered from 0 in the order in which they are encoded.");
        HeadTables x = new HeadTables();
        for (int k = 0; k < 40; k++) {
            Due.due("no section " + k, x.letter(k, 0), Due.BAD);
            Due.due("sends", x.sends(k % 3), k);
            Due.due("sections", x.count(6), k + 1);
            Due.due("octets", x.letter(k, 0), 2);
        }
        Due.due("a 41st", x.sends(0), Due.FULL);
        Due.due("sections", x.count(6), 40);
        Due.due("no section 40", x.letter(40, 0), Due.BAD);
        Due.due("a section that is over does not make room", x.quits(0), 0);
        x.hears(1);
        Due.due("a 41st", x.sends(0), Due.FULL);
    }

    private static void fieldsOfASection() {
        Due.sentence("A section consists of the fields of the draft, a sequence of 0 to 6 fields.");
        for (int n = 0; n <= 6; n++) {
            HeadTables x = Due.told(SIX);
            for (int i = 0; i < n; i++) {
                x.puts(i);
            }
            Due.due("sends", x.sends(0), 0);
            Due.due("fields", x.letter(0, 6), n);
            Due.due("octets", x.letter(0, 0), 2 + 4 * n);
            x.gives(0, 99);
            for (int i = 0; i < n; i++) {
                Due.due("got", x.got(0, i), i);
            }
            Due.due("got behind the last", x.got(0, n), Due.BAD);
        }
        HeadTables x = Due.told(SIX);
        Due.sends(x, 0, 3, 3, 0, 3, 0, 0);
        x.gives(0, 99);
        int[] want = {3, 3, 0, 3, 0, 0};
        for (int i = 0; i < 6; i++) {
            Due.due("a field may be there more than once", x.got(0, i), want[i]);
        }
    }

    private static void base() {
        Due.sentence("The base of a section is the count of the encoder's table before it is encoded.");
        for (int n = 0; n <= 3; n++) {
            HeadTables x = Due.made(entries("", 0, n));
            Due.sends(x, 2, 3, 4, 0);
            Due.due("base", x.letter(0, 2), n);
            Due.due("count behind it", x.table(0, 0), n == 0 ? 3 : n + 2);
            x.sends(2);
            Due.due("base of the next", x.letter(1, 2), n == 0 ? 3 : n + 2);
            x.inserts(5);
            Due.due("the base stays", x.letter(0, 2), n);
        }
    }

    private static void safe() {
        Due.sentence("way 0 (safe): only to entries whose place is below the known count.");
        for (int known = 0; known <= 3; known++) {
            for (int f = 0; f < 3; f++) {
                HeadTables x = Due.made(entries("", known, 3));
                Due.sends(x, 0, f);
                Due.due("place " + f + " with " + known + " known: required count", x.letter(0, 1), f < known ? f + 1 : 0);
                Due.due("octets", x.letter(0, 0), f < known ? 3 : 6);
                Due.due("holds", x.holds(f), f < known ? 1 : 0);
            }
        }
        // A name, too, and the highest of the places below the known count.
        dueSection(entries("", 1, 7), "the name of a known entry, not of the unknown one", 0, of(6), "2 6 70 1 55");
        dueSection(entries("", 0, 1), "the name of an unknown entry", 0, of(6), "0 0 33 97 1 55");
        Due.Run twice = entries("", 1, 1).then(x -> x.inserts(0));
        dueSection(twice, "the lower one of two that are like it", 0, of(0), "2 1 129");
        dueSection(twice.then(Due::settle), "the higher one when it is known", 0, of(0), "3 0 128");
    }

    private static void bold() {
        Due.sentence("way 1 (bold): to any entry, if fewer sections are at risk, when its encoding begins, than the blocking limit; otherwise as in way 0.");
        for (int known = 0; known <= 3; known++) {
            for (int f = 0; f < 3; f++) {
                HeadTables x = Due.made(entries("blocked 1;", known, 3));
                Due.sends(x, 1, f);
                Due.due("any entry: required count", x.letter(0, 1), f + 1);
                x = Due.made(entries("blocked 0;", known, 3));
                Due.sends(x, 1, f);
                Due.due("as in way 0: required count", x.letter(0, 1), f < known ? f + 1 : 0);
                Due.due("nothing is inserted", x.table(0, 0), 3);
            }
        }
        HeadTables x = Due.made(entries("", 0, 1));
        Due.sends(x, 1, 0, 1);
        Due.due("nothing is inserted", x.table(0, 0), 1);
    }

    private static void boldLimits() {
        Due.sentence("way 1 (bold): to any entry, if fewer sections are at risk, when its encoding begins, than the blocking limit; otherwise as in way 0.");
        for (int limit = 0; limit <= 9; limit++) {
            for (int way = 1; way <= 2; way++) {
                HeadTables x = Due.made(entries("blocked " + limit + ";", 0, 1));
                for (int k = 0; k < 11; k++) {
                    Due.due("at risk", x.count(8), Math.min(k, limit));
                    Due.sends(x, way, 0);
                    Due.due("required count of section " + k + " with the limit " + limit, x.letter(k, 1), k < limit ? 1 : 0);
                }
            }
        }
    }

    private static void boldWhenEncodingBegins() {
        Due.sentence("way 1 (bold): to any entry, if fewer sections are at risk, when its encoding begins, than the blocking limit; otherwise as in way 0.");
        // The section itself is at risk from its first reference on, and yet goes on.
        dueSection(entries("blocked 1;", 0, 3), "way 1", 1, of(0, 1, 2), "4 0 130 129 128");
        dueSection(entries("blocked 1;", 0, 1), "way 2", 2, of(0, 1, 2), "4 129 128 16 17");
        dueSection(entries("blocked 1;", 0, 0), "way 2, all inserted", 2, of(0, 1, 2, 3), "5 131 16 17 18 19");
    }

    private static void greedy() {
        Due.sentence("way 2 (greedy): as in way 1; besides, if any entry may be referred to, fields can be inserted while the section is encoded.");
        HeadTables x = Due.made(entries("blocked 1;", 0, 1));
        x.feeds(99);
        Due.sends(x, 2, 1, 0, 2);
        Due.dueText("section", Due.octets(x, 0), "4 129 16 128 17");
        Due.dueText("instructions", Due.octets(x, 40), "65 98 1 50 65 99 1 51");
        Due.due("count", x.table(0, 0), 3);
        x = Due.made(entries("blocked 1;", 0, 1));
        Due.sends(x, 2, 0);
        Due.due("an entry that is there is not inserted again", x.table(0, 0), 1);
        x = Due.made(entries("blocked 1;", 0, 0));
        Due.sends(x, 2, 0, 0, 0);
        Due.dueText("nor one that was inserted for the same section", Due.octets(x, 0), "2 128 16 16 16");
        Due.due("count", x.table(0, 0), 1);
    }

    private static void greedyNotAllowed() {
        Due.sentence("way 2 (greedy): as in way 1; besides, if any entry may be referred to, fields can be inserted while the section is encoded.");
        Due.Run run = entries("blocked 1;", 1, 2).then(x -> Due.sends(x, 1, 1));
        HeadTables x = Due.made(run);
        Due.due("one at risk", x.count(8), 1);
        int waiting = x.count(9);
        Due.sends(x, 2, 0, 1, 2);
        Due.dueText("as in way 0", Due.octets(x, 1), "2 1 129 33 98 1 50 33 99 1 51");
        Due.due("nothing is inserted", x.table(0, 0), 2);
        Due.due("nothing is written", x.count(9), waiting);
    }

    private static void atRiskUntilSettled() {
        Due.sentence("A section is at risk if it is not settled (see below) and its required count is above the known count.");
        HeadTables x = Due.made(entries("blocked 9;", 0, 1));
        Due.sends(x, 0, 0);
        Due.due("required count 0", x.count(8), 0);
        Due.sends(x, 1, 0);
        Due.due("required count 1", x.count(8), 1);
        x.quits(1);
        Due.due("cancelled", x.count(8), 1);
        x.hears(1);
        Due.due("cancelled and heard", x.count(8), 0);
        Due.due("though its required count is above the known count", x.letter(1, 1) - x.count(4), 1);
        Due.sends(x, 1, 0);
        x.gives(2, 99);
        x.feeds(99);
        Due.due("decoded", x.letter(2, 4), 2);
        Due.due("decoded and not heard", x.count(8), 1);
        x.hears(1);
        Due.due("decoded and heard", x.count(8), 0);
    }

    private static void atRiskUntilKnown() {
        Due.sentence("A section is at risk if it is not settled (see below) and its required count is above the known count.");
        HeadTables x = Due.made(entries("blocked 9;", 0, 3));
        for (int f = 0; f < 3; f++) {
            Due.sends(x, 1, f);
        }
        // An octet for the capacity, and four for each insertion.
        x.feeds(2);
        for (int known = 1; known <= 3; known++) {
            x.feeds(4);
            x.grows();
            Due.due("not heard", x.count(8), 4 - known);
            x.hears(1);
            Due.due("known", x.count(4), known);
            Due.due("those with a required count above " + known, x.count(8), 3 - known);
            Due.due("settled", x.letter(0, 5), 0);
        }
    }

    private static void holdsUntilSettled() {
        Due.sentence("A section holds each entry to which it refers, from the moment on when the reference is written (also while the rest of it is "
            + "encoded) until it is settled.");
        HeadTables x = Due.made(entries("blocked 9;", 0, 2));
        Due.sends(x, 1, 0, 1, 0);
        Due.sends(x, 1, 1);
        Due.sends(x, 1, 0);
        Due.due("place 0", x.holds(0), 5);
        Due.due("place 1", x.holds(1), 3);
        x.gives(0, 99);
        x.feeds(99);
        Due.due("decoded", x.holds(0), 5);
        x.quits(1);
        Due.due("cancelled", x.holds(1), 3);
        x.hears(1);
        Due.due("the first settled", x.holds(0), 4);
        Due.due("the first settled", x.holds(1), 2);
        x.hears(1);
        Due.due("the second settled", x.holds(1), 0);
        Due.due("the third not", x.holds(0), 4);
        // Known, and so not at risk, is not settled.
        x.grows();
        Due.due("known", x.count(4), 2);
        Due.due("the third not", x.holds(0), 4);
        x.gives(2, 99);
        x.hears(1);
        Due.due("the third settled", x.holds(0), 0);
        // Section 39 has the highest bit.
        HeadTables y = Due.made(entries("", 1, 1));
        for (int k = 0; k < 39; k++) {
            y.sends(0);
        }
        Due.sends(y, 0, 0);
        Due.due("section 39", y.holds(0), 1L << 39);
        y.quits(39);
        y.hears(1);
        Due.due("section 39 settled", y.holds(0), 0);
    }

    private static void holdsWhileEncoded() {
        Due.sentence("A section holds each entry to which it refers, from the moment on when the reference is written (also while the rest of it is "
            + "encoded) until it is settled.");
        Due.Run full = entries("table 12;", 2, 2);
        dueSection(full, "place 0 is referred to first, and cannot go", 2, of(0, 2), "2 1 129 33 99 1 51");
        dueSection(full, "place 0 goes first", 2, of(2, 0), "5 129 16 17");
        dueSection(full, "place 1 is referred to first, and place 0 goes", 2, of(1, 2), "4 128 128 16");
        dueSection(full, "place 0 goes, and place 1 cannot", 2, of(1, 2, 3), "4 128 128 16 33 100 1 52");
        dueSection(full, "places 0 and 1 go, and no place that is new", 2, of(2, 3, 4), "5 129 16 17 33 101 1 53");
        HeadTables x = Due.made(full);
        Due.sends(x, 2, 1, 2, 3);
        Due.due("place 1", x.holds(1), 1);
        Due.due("place 2", x.holds(2), 1);
        Due.due("lowest", x.table(0, 4), 1);
    }

    private static void holdsByName() {
        Due.sentence("A section holds each entry to which it refers, from the moment on when the reference is written (also while the rest of it is "
            + "encoded) until it is settled.");
        Due.Run run = Due.text("field a=;field a=123456;field b=;").then(x -> {
            x.capacity(9);
            x.inserts(0);
            Due.settle(x);
        });
        // a=123456 has 11 octets, and is never inserted; b= has room only when a= goes.
        dueSection(run, "the name is used first", 2, of(1, 2), "2 0 64 6 49 50 51 52 53 54 33 98 0");
        dueSection(run, "the entry goes first", 2, of(2, 1), "3 128 16 33 97 6 49 50 51 52 53 54");
        HeadTables x = Due.made(run);
        Due.sends(x, 0, 1);
        Due.due("held", x.holds(0), 1);
        Due.due("cannot go", x.inserts(2), Due.STATE);
        x.gives(0, 99);
        x.hears(1);
        Due.due("not held", x.holds(0), 0);
        Due.due("goes", x.inserts(2), 1);
    }

    /** There are at most 8 static entries: no run reaches the number 63, from which on there would be two octets. */
    private static void formA() {
        Due.sentence("a. If a static entry is like f: the number of the lowest one with the head 192 and a prefix of 6 bits.");
        String stills = "still a=;still a=1;still b=1;still a=1;still b=;still c=;still d=;still e=5;";
        Due.Run run = Due.text(stills + "field a=;field a=1;field b=1;field b=;field e=5;field e=6;");
        dueSection(run, "number 0, the lowest of two, others, the last", 0, of(0, 1, 2, 3, 4), "0 0 192 193 194 196 199");
        dueSection(run, "only the name is equal", 0, of(5), "0 0 87 1 54");
        Due.Run entry = run.then(x -> {
            x.capacity(60);
            x.inserts(4);
            Due.settle(x);
        });
        dueSection(entry, "a. before b.", 0, of(4), "0 0 199");
        dueSection(entry, "a. before an insertion", 2, of(4), "0 0 199");
        HeadTables x = Due.made(entry);
        Due.sends(x, 2, 4);
        Due.due("nothing is held", x.holds(0), 0);
        Due.due("nothing is inserted", x.table(0, 0), 1);
    }

    private static void formB() {
        Due.sentence("If p is below the base, the integer (base - 1 - p) with the head 128 and a prefix of 6 bits; otherwise (p - base) with the head 16 "
            + "and a prefix of 4 bits.");
        dueSection(entries("", 4, 4), "the place below the base, and others", 0, of(3, 2, 1, 0), "5 0 128 129 130 131");
        dueSection(entries("", 0, 0), "the base, and the five behind it", 2, of(0, 1, 2, 3, 4, 5), "7 133 16 17 18 19 20 21");
        dueSection(entries("", 0, 1), "on both sides of the base", 2, of(1, 0, 1), "3 128 16 128 16");
        Due.sentence("b. If an entry to which the section may refer is like f: the one with the highest place p.");
        Due.Run twice = entries("", 0, 2).then(x -> x.inserts(0));
        dueSection(twice, "the highest of two", 1, of(0), "4 0 128");
        HeadTables x = Due.made(twice);
        Due.sends(x, 1, 0);
        Due.due("the highest is held", x.holds(2), 1);
        Due.due("the lowest is not", x.holds(0), 0);
        dueSection(Due.text("still a=;" + SIX).then(y -> y.capacity(60)).then(y -> y.inserts(0)), "b. before c.", 1, of(0), "2 0 128");
    }

    /**
     * With at most 40 entries, which have 5 octets at least, (base - 1 - p) is at most 39: no run reaches
     * the 63 from which on it would have two octets; nor, with at most 6 insertions while a section is
     * encoded, does (p - base) reach 15. These are the 39 and, in formB(), the 5.
     */
    private static void formBFar() {
        Due.sentence("If p is below the base, the integer (base - 1 - p) with the head 128 and a prefix of 6 bits; otherwise (p - base) with the head 16 "
            + "and a prefix of 4 bits.");
        Due.Run run = Due.text("table 200;field a=;field b=;").then(x -> {
            x.capacity(200);
            x.inserts(1);
            for (int i = 0; i < 39; i++) {
                x.inserts(0);
            }
        });
        dueSection(run, "39 before the last", 1, of(1, 0), "41 0 167 128");
        dueSection(run, "39 before the last, alone", 1, of(1), "2 39 167");
    }

    private static void formBInserts() {
        Due.sentence("If there is no such entry, but the way is 2 and any entry may be referred to, then f is inserted first by an instruction, if that is "
            + "possible and not more than 200 octets of the instruction stream wait after it, and this form is used for the new entry.");
        Due.Run run = entries("still a=;", 0, 0);
        for (int way = 0; way <= 2; way++) {
            HeadTables x = Due.made(run);
            x.feeds(9);
            Due.sends(x, way, 0);
            Due.dueText("way " + way, Due.octets(x, 0), way == 2 ? "2 128 16" : "0 0 80 1 49");
            Due.dueText("instructions of way " + way, Due.octets(x, 40), way == 2 ? "192 1 49" : "");
        }
        HeadTables x = Due.made(entries("blocked 0;", 0, 0));
        Due.sends(x, 2, 0);
        Due.due("no entry may be referred to", x.table(0, 0), 0);
        x = Due.made(entries("", 0, 1));
        x.feeds(99);
        Due.sends(x, 2, 6);
        Due.dueText("an entry with the name is not like it", Due.octets(x, 0), "3 128 16");
        Due.dueText("it is inserted by the name", Due.octets(x, 40), "128 1 55");
    }

    private static void formBImpossible() {
        Due.sentence("If there is no such entry, but the way is 2 and any entry may be referred to, then f is inserted first by an instruction, if that is "
            + "possible and not more than 200 octets of the instruction stream wait after it, and this form is used for the new entry.");
        for (int capacity = 5; capacity <= 7; capacity++) {
            HeadTables x = Due.told(SIX);
            x.capacity(capacity);
            Due.sends(x, 2, 0);
            Due.due("inserted with the capacity " + capacity, x.table(0, 0), capacity < 6 ? 0 : 1);
            Due.dueText("with the capacity " + capacity, Due.octets(x, 0), capacity < 6 ? "0 0 33 97 1 49" : "2 128 16");
        }
        dueSection(Due.text(SIX), "capacity 0", 2, of(0), "0 0 33 97 1 49");
        dueSection(entries("table 12;", 0, 2), "nothing is known", 2, of(2), "0 0 33 99 1 51");
        dueSection(entries("table 12;", 1, 2), "one is known", 2, of(2), "4 128 16");
        Due.Run held = entries("table 12;", 2, 2).then(x -> Due.sends(x, 0, 0));
        dueSection(held, "the first is held", 2, of(2), "0 0 33 99 1 51");
        dueSection(held.then(x -> x.gives(0, 99)).then(x -> x.hears(1)), "it is settled", 2, of(2), "4 128 16");
        dueSection(entries("still c=;table 12;", 0, 2), "nothing is known: c.", 2, of(2), "0 0 80 1 51");
        dueSection(entries("table 12;", 0, 2), "nothing is known: d.", 2, of(6), "2 1 65 1 55");
    }

    private static void formBStreamFull() {
        Due.sentence("If there is no such entry, but the way is 2 and any entry may be referred to, then f is inserted first by an instruction, if that is "
            + "possible and not more than 200 octets of the instruction stream wait after it, and this form is used for the new entry.");
        for (int waiting = 195; waiting <= 200; waiting++) {
            int n = waiting;
            HeadTables x = Due.told("table 200;" + SIX);
            Due.fill(x, n);
            Due.sends(x, 2, 0);
            Due.due("inserted behind " + n, x.table(0, 0), n <= 196 ? 1 : 0);
            Due.due("octets that wait", x.count(9), n <= 196 ? n + 4 : n);
            Due.dueText("behind " + n, Due.octets(x, 0), n <= 196 ? "2 128 16" : "0 0 33 97 1 49");
        }
        HeadTables x = Due.told("table 200;still a=;" + SIX);
        Due.fill(x, 197);
        Due.sends(x, 2, 1, 0, 6);
        Due.dueText("the first is too long, the second is not, the third again", Due.octets(x, 0), "2 128 33 98 1 50 16 80 1 55");
        Due.due("octets that wait", x.count(9), 200);
    }

    /** There are at most 8 static entries: no run reaches the number 15, from which on there would be two octets. */
    private static void formC() {
        Due.sentence("c. If a static entry has the name of f: the number of the lowest one with the head 80 and a prefix of 4 bits; then the value of f.");
        String stills = "still a=;still b=1;still b=2;still c=;still d=;still e=;still f=;still g=;";
        Due.Run run = Due.text(stills + "field a=123456;field b=;field g=0;field h=;field ab=;");
        dueSection(run, "number 0, the lowest of two, the last, none", 0, of(0, 1, 2, 3, 4), "0 0 80 6 49 50 51 52 53 54 81 0 87 1 48 33 104 0 34 97 98 0");
        Due.Run entry = Due.text("still a=;" + SIX).then(x -> {
            x.capacity(60);
            x.inserts(0);
        });
        dueSection(entry, "c. before d.", 1, of(6), "0 0 80 1 55");
        HeadTables x = Due.made(entry);
        Due.sends(x, 1, 6);
        Due.due("nothing is held", x.holds(0), 0);
    }

    private static void formD() {
        Due.sentence("d. If an entry to which the section may refer has the name of f: for the one with the highest place p, if p is below the base, the "
            + "integer (base - 1 - p) with the head 64 and a prefix of 4 bits; otherwise (p - base) with the head 0 and a prefix of 3 bits; then the "
            + "value of f.");
        String text = "table 100;field a=1;field a=2;field ab=3;field b=;field a=123456;field a=;";
        Due.Run run = Due.text(text).then(x -> x.capacity(100));
        dueSection(run.then(x -> x.inserts(0)), "the place below the base", 1, of(1, 4, 5), "2 0 64 1 50 64 6 49 50 51 52 53 54 64 0");
        dueSection(run.then(x -> x.inserts(0)).then(x -> x.inserts(2)), "one behind it", 1, of(1), "2 1 65 1 50");
        dueSection(run.then(x -> x.inserts(0)).then(x -> x.inserts(4)), "the highest of two", 1, of(1), "3 0 64 1 50");
        dueSection(run.then(x -> x.inserts(2)), "a name that begins alike", 1, of(1), "0 0 33 97 1 50");
        dueSection(run.then(x -> x.inserts(3)), "another name", 1, of(1), "0 0 33 97 1 50");
        // 11 octets have no room behind the first insertion; the name is that of a place from the base on.
        String small = "table 20;field a=;field b=;field c=;field a=123456;field c=123456;field d=;";
        Due.Run room = Due.text(small).then(x -> x.capacity(10)).then(x -> x.inserts(5)).then(Due::settle);
        dueSection(room, "the place at the base", 2, of(0, 3), "3 128 16 0 6 49 50 51 52 53 54");
        Due.Run more = Due.text(small).then(x -> x.capacity(19));
        dueSection(more, "one, two behind the base", 2, of(1, 0, 2, 4, 3), "4 130 16 17 18 2 6 49 50 51 52 53 54 1 6 49 50 51 52 53 54");
        HeadTables x = Due.made(more);
        Due.sends(x, 2, 1, 0, 2, 4, 3);
        Due.due("held", x.holds(1), 1);
        // Five insertions, and the name of the last of them: no section reaches more than 4.
        Due.Run five = Due.text("field a=;field b=;field c=;field d=;field e=;field e=1;").then(y -> y.capacity(25));
        dueSection(five, "four behind the base", 2, of(0, 1, 2, 3, 4, 5), "6 132 16 17 18 19 20 4 1 49");
    }

    /**
     * With a prefix of 4 bits the integer has two octets from 15 on; 39 is the most. With the prefix of 3
     * bits it would have two from 7 on, which no run reaches: at most 5 fields are inserted before.
     */
    private static void formDFar() {
        Due.sentence("integer (base - 1 - p) with the head 64 and a prefix of 4 bits; otherwise (p - base) with the head 0 and a prefix of 3 bits; then the "
            + "value of f.");
        int[] backs = {0, 1, 13, 14, 15, 16, 17, 39};
        String[] octets = {"64", "65", "77", "78", "79 0", "79 1", "79 2", "79 24"};
        for (int i = 0; i < backs.length; i++) {
            int back = backs[i];
            Due.Run run = Due.text("table 200;field a=;field b=;field b=1;").then(x -> {
                x.capacity(200);
                x.inserts(1);
                for (int k = 0; k < back; k++) {
                    x.inserts(0);
                }
            });
            dueSection(run, back + " before the last", 1, of(2), "2 " + back + " " + octets[i] + " 1 49");
        }
    }

    /** The length of a name is at most 6: one octet with a prefix of 3 bits, for which 7 would be two. */
    private static void formE() {
        Due.sentence("e. The length of the name with the head 32 and a prefix of 3 bits, the letters of the name; then the value of f.");
        Due.Run run = Due.text("field a=;field abcdef=123456;field abcdeg=;field vwxyz=0;");
        dueSection(run, "1 and 6 letters", 0, of(0, 1), "0 0 33 97 0 38 97 98 99 100 101 102 6 49 50 51 52 53 54");
        dueSection(run, "6 and 5 letters", 0, of(2, 3), "0 0 38 97 98 99 100 101 103 0 37 118 119 120 121 122 1 48");
        HeadTables x = Due.made(run);
        Due.sends(x, 0, 1, 1, 1, 1, 1, 1);
        Due.due("the longest section", x.letter(0, 0), 2 + 6 * 14);
        Due.due("its last octet", x.octet(0, 85), '6');
        Due.due("behind it", x.octet(0, 86), Due.NONE);
        Due.due("gives", x.gives(0, 85), 0);
        Due.due("gives", x.gives(0, 1), 2);
    }

    private static void firstPossibleForm() {
        Due.sentence("Each field f of the draft in turn is written in the first of these forms that is possible");
        // Field 0 is like a static entry, and like an entry, and has the name of others; each one after it lacks one more of these.
        String settings = "table 100;still a=1;still a=9;still c=9;field a=1;field a=2;field a=3;field b=4;field b=5;field d=6;";
        Due.Run run = Due.text(settings).then(x -> {
            x.capacity(100);
            x.inserts(0);
            x.inserts(1);
            x.inserts(3);
            Due.settle(x);
        });
        for (int way = 0; way <= 1; way++) {
            dueSection(run, "a, b, c, b, d, e", way, of(0, 1, 2, 3, 4, 5), "4 0 192 129 80 1 51 128 64 1 53 33 100 1 54");
            dueSection(run, "and the other way round", way, of(5, 4, 3, 2, 1, 0), "4 0 33 100 1 54 64 1 53 128 80 1 51 129 192");
        }
        dueSection(run, "with insertions", 2, of(0, 1, 2, 3, 4, 5), "7 130 192 129 16 128 17 18");
        Due.Run tight = run.then(x -> x.capacity(18)).then(x -> Due.sends(x, 0, 1, 3)).then(x -> Due.due("loose", x.loose(), 1));
        dueSection(tight, "with one insertion that is possible", 2, of(0, 1, 2, 3, 4, 5), "5 128 192 129 16 128 64 1 53 33 100 1 54");
    }

    private static void requiredCount() {
        Due.sentence("The required count of a section is the highest place to which it refers plus 1, or 0 if it refers to none.");
        int[][] drafts = {{}, {6}, {0}, {1}, {3}, {0, 3}, {3, 0}, {1, 2, 1}, {5}, {4, 0}};
        int[] want = {0, 1, 1, 2, 4, 4, 4, 3, 0, 1};
        for (int i = 0; i < drafts.length; i++) {
            // Field 6 has the name of the entry at place 0; fields 4 and 5 have none.
            HeadTables x = Due.made(entries("", 4, 4));
            Due.sends(x, 0, drafts[i]);
            Due.due("required count", x.letter(0, 1), want[i]);
            Due.due("first octet", x.octet(0, 0), want[i] == 0 ? 0 : want[i] + 1);
        }
        HeadTables x = Due.made(entries("", 4, 4));
        Due.sends(x, 2, 4, 0, 5);
        Due.due("of entries that are inserted for it", x.letter(0, 1), 6);
    }

    /** The first octet of sections with the required counts 1, 2, ... */
    private static void dueWraps(int most, int modulus) {
        HeadTables x = Due.told("table " + most + ";field a=;");
        x.capacity(most);
        for (int required = 1; required <= modulus + 2 && required <= 30; required++) {
            x.inserts(0);
            int k = Due.sends(x, 1, 0);
            Due.due("required count", x.letter(k, 1), required);
            Due.due("table " + most + ": first octet for " + required, x.octet(k, 0), required % modulus + 1);
            x.feeds(99);
            x.gives(k, 99);
            Due.due("decoded", x.letter(k, 4), 2);
            x.hears(9);
        }
    }

    private static void requiredCountWraps() {
        Due.sentence("Let span be the maximum capacity divided by 4, rounded down.");
        int[] most = {5, 6, 7, 8, 9, 11, 12, 15, 16, 19, 20, 23, 24, 51, 52};
        int[] span = {1, 1, 1, 2, 2, 2, 3, 3, 4, 4, 5, 5, 6, 12, 13};
        for (int i = 0; i < most.length; i++) {
            dueWraps(most[i], 2 * span[i]);
        }
        Due.sentence("0 if the required count is 0, otherwise (required count) % (2 * span) + 1");
        HeadTables x = Due.told("table 5;field a=;");
        x.capacity(5);
        x.inserts(0);
        Due.sends(x, 0, 0);
        Due.dueText("required count 0", Due.octets(x, 0), "0 0 33 97 0");
        Due.settle(x);
        x.inserts(0);
        Due.sends(x, 1, 0);
        Due.dueText("required count 2, which is 0 % 2", Due.octets(x, 1), "1 0 128");
    }

    /**
     * The first integer is at most 2 * 50: no run reaches the 255 from which on it would have two octets.
     * Below a maximum capacity of 5 no entry has room, so that no section there has a required count above
     * 0, and nothing is divided by a span of 0.
     */
    private static void requiredCountWrapsLate() {
        Due.sentence("0 if the required count is 0, otherwise (required count) % (2 * span) + 1");
        HeadTables x = Due.told("table 200;field a=;");
        x.capacity(200);
        int section = 0;
        for (int required = 1; required <= 101; required++) {
            x.inserts(0);
            if (required % 38 == 0) {
                Due.settle(x);
            }
            if (required >= 98 || required == 1) {
                Due.sends(x, 1, 0);
                Due.due("required count", x.letter(section, 1), required);
                Due.due("first octet", x.octet(section, 0), required == 1 ? 2 : required == 98 ? 99 : required - 99 == 0 ? 100 : required - 99);
                Due.settle(x);
                x.gives(section, 99);
                Due.due("decoded", x.letter(section, 4), 2);
                x.hears(9);
                section++;
            }
        }
        for (int most = 0; most <= 4; most++) {
            HeadTables y = Due.told("table " + most + ";field a=;field b=;");
            y.capacity(most);
            Due.due("no room", y.inserts(0), Due.STATE);
            Due.sends(y, 2, 0, 1);
            Due.dueText("required count 0", Due.octets(y, 0), "0 0 33 97 0 33 98 0");
            y.sends(1);
            Due.dueText("no field", Due.octets(y, 1), "0 0");
        }
    }

    private static void baseTold() {
        Due.sentence("second, if the required count is 0, 0 with the head 0, if the base is at least the required count, (base - required count) with the "
            + "head 0, and otherwise (required count - base - 1) with the head 128, always with a prefix of 7 bits.");
        dueSection(entries("", 0, 0), "required count 0, base 0", 0, of(0), "0 0 33 97 1 49");
        dueSection(entries("", 0, 4), "required count 0, base 4", 0, of(0), "0 0 33 97 1 49");
        dueSection(entries("", 4, 4), "an empty section, base 4", 2, of(), "0 0");
        dueSection(entries("", 4, 4), "required count 4, base 4", 0, of(3), "5 0 128");
        dueSection(entries("", 4, 4), "required count 3, base 4", 0, of(2), "4 1 129");
        dueSection(entries("", 4, 4), "required count 1, base 4", 0, of(0), "2 3 131");
        dueSection(entries("", 4, 4), "required count 5, base 4", 2, of(4), "6 128 16");
        dueSection(entries("", 4, 4), "required count 6, base 4", 2, of(4, 5), "7 129 16 17");
        dueSection(entries("", 0, 0), "required count 1, base 0", 2, of(0), "2 128 16");
        dueSection(entries("", 0, 0), "required count 6, base 0", 2, of(0, 1, 2, 3, 4, 5), "7 133 16 17 18 19 20 21");
    }

    /**
     * Behind the entry that is referred to there are 39 others at most, and at most 6 are inserted while a
     * section is encoded: no run reaches the 127 from which on this integer would have two octets.
     */
    private static void baseToldFar() {
        Due.sentence("second, if the required count is 0, 0 with the head 0, if the base is at least the required count, (base - required count) with the "
            + "head 0");
        HeadTables x = Due.told("table 200;field a=;field b=;");
        x.capacity(200);
        x.inserts(1);
        for (int n = 1; n < 40; n++) {
            x.inserts(0);
        }
        Due.sends(x, 1, 1);
        Due.dueText("39", Due.octets(x, 0), "2 39 167");
        x.feeds(99);
        x.feeds(99);
        Due.due("decoded", x.gives(0, 99), 2);
    }

    // ---- promises 9 and 10

    private static void putsRefused() {
        Due.sentence("Returns the number of fields of the draft; BAD if there is no such field; FULL if the draft has 6 fields.");
        HeadTables x = Due.told(SIX);
        for (int n = 1; n <= 6; n++) {
            Due.due("puts", x.puts(n), n);
            Due.due("fields", x.count(11), n);
        }
        Due.due("a 7th", x.puts(0), Due.FULL);
        Due.Run five = Due.text(SIX).then(y -> Due.puts(y, 0, 1, 2, 3, 4));
        Due.due("a 6th", Due.made(five).puts(6), 6);
        Due.Run full = five.then(y -> y.puts(5));
        Due.refused(full, "a 7th", y -> y.puts(0), Due.FULL);
        Due.due("a 6th again", Due.made(full.then(HeadTables::takes)).puts(6), 6);
        for (int field : new int[] {-1, 7, 8, Due.LEAST, Due.MOST}) {
            Due.refused(Due.text(SIX), "puts " + field, y -> y.puts(field), Due.BAD);
            Due.refused(full, "BAD before FULL", y -> y.puts(field), Due.BAD);
        }
        Due.refused(y -> { }, "no field at all", y -> y.puts(0), Due.BAD);
        Due.due("field 0", Due.told(SIX).puts(0), 1);
        Due.due("the last field", Due.told(SIX).puts(6), 1);
    }

    private static void takes() {
        Due.sentence("Returns the field; STATE if the draft is empty.");
        Due.refused(y -> { }, "takes from nothing", HeadTables::takes, Due.STATE);
        Due.refused(Due.text(SIX).then(y -> y.puts(0)).then(HeadTables::takes), "all taken", HeadTables::takes, Due.STATE);
        Due.refused(Due.text(SIX).then(y -> y.puts(0)).then(y -> y.sends(0)), "all sent", HeadTables::takes, Due.STATE);
        HeadTables x = Due.told(SIX);
        Due.puts(x, 6, 0, 5, 5, 1, 6);
        int[] want = {6, 1, 5, 5, 0, 6};
        for (int i = 0; i < 6; i++) {
            Due.due("takes", x.takes(), want[i]);
            Due.due("fields", x.count(11), 5 - i);
        }
        Due.due("takes from nothing", x.takes(), Due.STATE);
        Due.puts(x, 0, 1, 2);
        x.takes();
        x.takes();
        x.puts(3);
        x.sends(0);
        Due.dueText("what is left is sent", Due.octets(x, 0), "0 0 33 97 1 49 33 100 1 52");
    }

    // ---- promises 11 and 12

    private static Due.Run forty(String text) {
        return Due.text(text + "field a=1;field b=2;field c=3;").then(x -> {
            x.capacity(60);
            x.inserts(0);
            for (int k = 0; k < 40; k++) {
                if (k == 0 || k == 39) {
                    x.puts(0);
                }
                x.sends(1);
            }
            Due.puts(x, 0, 1);
        });
    }

    private static void sendsRefused() {
        Due.sentence("Returns the number of the section; BAD if way is out of range; FULL if there are 40 sections.");
        for (int way : new int[] {-1, 3, 4, Due.LEAST, Due.MOST}) {
            Due.refused(entries("", 1, 2).then(x -> Due.puts(x, 0, 1, 2)), "sends " + way, x -> x.sends(way), Due.BAD);
            Due.refused(forty(""), "BAD before FULL", x -> x.sends(way), Due.BAD);
        }
        for (int way = 0; way <= 2; way++) {
            int each = way;
            Due.due("way " + way, Due.made(entries("", 1, 2).then(x -> Due.puts(x, 0, 1, 2))).sends(way), 0);
            Due.refused(forty(""), "a 41st", x -> x.sends(each), Due.FULL);
            Due.refused(forty("").then(x -> x.takes()).then(x -> x.takes()), "an empty 41st", x -> x.sends(each), Due.FULL);
        }
        Due.sentence("Encodes the draft, which may be empty, as a section. The draft becomes empty.");
        HeadTables x = Due.made(entries("", 1, 2));
        Due.due("an empty draft", x.sends(2), 0);
        Due.dueText("its octets", Due.octets(x, 0), "0 0");
        Due.sends(x, 2, 0);
        Due.due("the draft", x.count(11), 0);
        x.sends(2);
        Due.dueText("the next one is empty", Due.octets(x, 2), "0 0");
    }

    private static void costOfNothing() {
        Due.sentence("Returns the number of octets of the section plus the number of octets that would be written to the instruction stream");
        for (int way = 0; way <= 2; way++) {
            Due.due("an empty draft", new HeadTables().cost(way), 2);
            Due.due("an empty draft with entries", Due.made(entries("", 1, 4)).cost(way), 2);
        }
        HeadTables x = Due.made(entries("", 1, 2).then(y -> Due.puts(y, 0, 1, 2)));
        // Place 0 is known, place 1 is not, field 2 is not there.
        Due.due("way 0", x.cost(0), 2 + 1 + 4 + 4);
        Due.due("way 1", x.cost(1), 2 + 1 + 1 + 4);
        Due.due("way 2", x.cost(2), 2 + 1 + 1 + 1 + 4);
    }

    /** In many states, the cost is what the section then takes; and asking for it changes nothing. */
    private static void costIsWhatItTakes() {
        Due.sentence("Returns how many octets it would take to encode the draft as a section now (whether there are 40 sections or not). Nothing changes.");
        int[][] drafts = {{}, {0}, {2}, {6}, {0, 2}, {2, 0}, {1, 2, 3}, {6, 6, 2}, {2, 3, 4, 5, 6, 0}};
        String[] settings = {"", "blocked 0;", "blocked 1;table 12;", "table 13;still c=;", "table 18;still c=3;"};
        for (String setting : settings) {
            for (int known = 0; known <= 2; known++) {
                for (int[] draft : drafts) {
                    Due.Run run = entries(setting, known, 2).then(x -> Due.sends(x, 1, 1)).then(x -> Due.puts(x, draft));
                    for (int way = 0; way <= 2; way++) {
                        dueCost(run, way);
                    }
                }
            }
        }
        for (int waiting = 192; waiting <= 200; waiting++) {
            int n = waiting;
            dueCost(entries("table 100;", 0, 0).then(x -> Due.fill(x, n - n % 2)).then(x -> Due.puts(x, 0, 1, 6, 2)), 2);
        }
    }

    private static void dueCost(Due.Run run, int way) {
        HeadTables x = Due.made(run);
        int waiting = x.count(9);
        int cost = x.cost(way);
        int k = x.sends(way);
        Due.due("cost of way " + way, cost, x.letter(k, 0) + x.count(9) - waiting);
        Due.unchanged(run, "cost " + way, y -> y.cost(way));
    }

    private static void costOf40() {
        Due.sentence("Returns how many octets it would take to encode the draft as a section now (whether there are 40 sections or not). Nothing changes.");
        Due.Run run = forty("blocked 3;");
        Due.due("sections", Due.made(run).count(6), 40);
        Due.due("way 0", Due.made(run).cost(0), 2 + 4 + 4);
        Due.due("way 1", Due.made(run).cost(1), 2 + 1 + 4);
        Due.due("way 2", Due.made(run).cost(2), 2 + 1 + 1 + 4);
        for (int way = 0; way <= 2; way++) {
            int each = way;
            Due.unchanged(run, "cost " + way, x -> x.cost(each));
        }
        Due.due("at the limit", Due.made(forty("blocked 2;")).cost(2), 2 + 4 + 4);
        // What the trial refers to is held against its own insertions, though no number is left for it.
        Due.Run tight = forty("blocked 3;").then(Due::settle).then(x -> {
            x.gives(0, 99);
            x.gives(39, 99);
            x.hears(9);
            x.capacity(6);
        });
        Due.due("the entry is held", Due.made(tight).cost(2), 2 + 1 + 4);
        Due.due("nothing is held", Due.made(tight.then(x -> x.takes()).then(x -> x.takes()).then(x -> Due.puts(x, 1, 0))).cost(2), 2 + 1 + 4 + 4);
    }

    private static void costRefused() {
        Due.sentence("Returns the number of octets of the section plus the number of octets that would be written to the instruction stream; BAD if way is "
            + "out of range.");
        for (int way : new int[] {-1, 3, 4, Due.LEAST, Due.MOST}) {
            Due.refused(entries("", 1, 2).then(x -> Due.puts(x, 0, 1, 2)), "cost " + way, x -> x.cost(way), Due.BAD);
            Due.refused(forty(""), "cost " + way + " with 40 sections", x -> x.cost(way), Due.BAD);
        }
    }
}
