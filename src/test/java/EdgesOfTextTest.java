/** The edges that the document names for fields and settings, and those of promises 1 to 5, a test for each sentence. */
public final class EdgesOfTextTest {
    private static final String[] STILLS = {"", "still a=;", "still b=1;", "still a=;", "still b=1;", "still c=;", "still d=;", "still e=;", "still z=9;"};
    private static final String[] FIELDS = {"", "field a=;", "field b=1;", "field c=;", "field d=;", "field e=;", "field f=;", "field z=8;"};

    public static void main(String[] args) {
        newObject();
        twoObjects();
        fieldsUpTo7();
        noTwoEqual();
        names();
        nameSigns();
        values();
        valueSigns();
        stillsUpTo8();
        stillsMayBeEqual();
        entryIsLike();
        sizeOfAnEntry();
        capacityRange();
        blockingRange();
        settingsAtFirst();
        textOf200();
        anyNumberOfItems();
        itemsEnd();
        tableOnce();
        blockedOnce();
        tokens();
        words();
        longPieces();
        blanks();
        blanksBetweenPieces();
        zeros();
        digitsOnly();
        valueLeftOut();
        errorPositions();
        leftToRight();
        errorPositionFirst();
        errorPositionLast();
        typeRange();
        typeUntilFull();
        clear();
        clearChangesNothingElse();
        tellsItems();
        tellsSettingsAsAtFirst();
        tellsAgainAndAgain();
        tellsEverythingElseAsAtFirst();
        tellsRefused();
        spellsCharacters();
        spellsRefused();
        Due.finish();
    }

    private static String joined(String[] items, int n) {
        StringBuilder all = new StringBuilder();
        for (int i = 1; i <= n; i++) {
            all.append(items[i]);
        }
        return all.toString();
    }

    // ---- promise 1

    private static void newObject() {
        Due.sentence("Creates an object without fields and static entries, with the settings described above, empty tables and "
            + "streams, an empty text, an empty draft and no sections.");
        int[] counts = {0, 0, 60, 2, 0, 0, 0, 0, 0, 0, 0, 0, 0};
        HeadTables x = new HeadTables();
        for (int what = 0; what < counts.length; what++) {
            Due.due("count " + what, x.count(what), counts[what]);
        }
        for (int who = 0; who < 2; who++) {
            for (int what = 0; what < 5; what++) {
                Due.due("table " + who + " " + what, x.table(who, what), what == 4 ? Due.NONE : 0);
            }
            Due.due("entry", x.entry(who, 0, 0), Due.NONE);
        }
        Due.due("field 0", x.spells(0, 0, 0, -1), Due.BAD);
        Due.due("static entry 0", x.spells(1, 0, 0, -1), Due.BAD);
        Due.due("instructions", x.octet(40, 0), Due.NONE);
        Due.due("acknowledgements", x.octet(41, 0), Due.NONE);
        Due.due("section 0", x.octet(0, 0), Due.BAD);
        Due.due("holds", x.holds(0), Due.BAD);
        Due.due("loose", x.loose(), 0);
        Due.due("feeds", x.feeds(1), 0);
        Due.due("hears", x.hears(1), 0);
        Due.due("waits", x.waits(0), Due.NONE);
        Due.due("grows", x.grows(), Due.STATE);
        Due.due("number", x.number(8), Due.STATE);
        Due.due("takes", x.takes(), Due.STATE);
        Due.due("clear", x.clear(), 0);
        Due.due("puts", x.puts(0), Due.BAD);
        Due.due("inserts", x.inserts(0), Due.BAD);
    }

    private static void twoObjects() {
        Due.sentence("Creates an object without fields and static entries");
        HeadTables other = Due.told("table 7;blocked 1;field a=;still b=;");
        other.capacity(7);
        other.inserts(0);
        other.puts(0);
        other.sends(2);
        other.puts(0);
        other.type(65);
        newObject();
        HeadTables x = new HeadTables();
        x.type(66);
        Due.due("capacity of a new object", x.capacity(60), 0);
        Due.due("the other's capacity", other.table(0, 3), 7);
        Due.due("the other's text", other.count(12), 1);
    }

    // ---- fields and settings

    private static void fieldsUpTo7() {
        Due.sentence("There are up to 7 fields, numbered from 0, no two of which are equal.");
        for (int n = 0; n <= 7; n++) {
            HeadTables x = Due.told(joined(FIELDS, n));
            Due.due("fields", x.count(0), n);
            Due.due("the field behind the last", x.spells(0, n, 0, -1), Due.BAD);
            Due.due("puts the field behind the last", x.puts(n), Due.BAD);
            if (n > 0) {
                Due.due("the name of the last", x.spells(0, n - 1, 0, 0), FIELDS[n].charAt(6));
                Due.due("puts the last", x.puts(n - 1), 1);
                x.capacity(6);
                Due.due("inserts the last", x.inserts(n - 1), 0);
                Due.due("the entry is like the last", x.entry(0, 0, 1), n - 1);
            }
        }
        String seven = joined(FIELDS, 7);
        Due.due("8 fields", Due.fault(seven + "field h=;"), seven.length());
    }

    private static void noTwoEqual() {
        Due.sentence("field NAME = VALUE ; the next field, which must not be equal to a field before it; at most 7 times");
        Due.due("equal to the one before", Due.fault("field a=1;field a=1;"), 19);
        Due.due("equal to the first of three", Due.fault("field a=1;field b=1;field c=1;field a=1;"), 39);
        Due.due("the last of seven equal to the first", Due.fault(joined(FIELDS, 6) + "field a=;"), joined(FIELDS, 6).length() + 8);
        Due.due("the last of seven equal to the sixth", Due.fault(joined(FIELDS, 6) + "field f=;"), joined(FIELDS, 6).length() + 8);
        Due.due("equal with an empty value", Due.fault("field a=;field a = ;"), 19);
        Due.due("equal with 6 and 6 characters", Due.fault("field abcdef=123456;field abcdef=123456;"), 39);
        Due.due("the last character of the name differs", Due.fault("field abcdef=123456;field abcdeg=123456;"), -1);
        Due.due("the first character of the name differs", Due.fault("field abcdef=123456;field bbcdef=123456;"), -1);
        Due.due("the last character of the value differs", Due.fault("field abcdef=123456;field abcdef=123457;"), -1);
        Due.due("the first character of the value differs", Due.fault("field abcdef=123456;field abcdef=023456;"), -1);
        Due.due("the value is longer by one", Due.fault("field a=1;field a=11;"), -1);
        Due.due("the value is shorter by one", Due.fault("field a=1;field a=;"), -1);
        Due.due("the name is longer by one", Due.fault("field a=1;field aa=1;"), -1);
        Due.due("a letter is on the other side of the =", Due.fault("field ab=a;field a=ba;"), -1);
    }

    private static void names() {
        Due.sentence("A field has a name, 1 to 6 letters a to z, and a value, 0 to 6 characters, each a letter a to z or a digit.");
        for (String word : new String[] {"field ", "still "}) {
            int sort = word.equals("field ") ? 0 : 1;
            Due.due("no letter", Due.fault(word + "=1;"), 6);
            String name = "";
            for (int n = 1; n <= 6; n++) {
                name += (char) ('z' - n);
                HeadTables x = Due.told(word + name + "=1;");
                Due.due("length of the name", x.spells(sort, 0, 0, -1), n);
                Due.due("last letter of the name", x.spells(sort, 0, 0, n - 1), 'z' - n);
                Due.due("behind the name", x.spells(sort, 0, 0, n), Due.NONE);
            }
            Due.due("7 letters", Due.fault(word + name + "a=1;"), 6);
            Due.due("8 letters", Due.fault(word + name + "aa=1;"), 6);
        }
    }

    /** Every octet behind the first letter of a name. */
    private static void nameSigns() {
        Due.sentence("NAME is a piece of 1 to 6 letters");
        for (int o = 0; o < 256; o++) {
            String text = "field a" + (char) o + "=1;";
            int want = 7;
            if (o >= 'a' && o <= 'z' || o == ' ') {
                want = -1;
            } else if (o >= '0' && o <= '9') {
                want = 6;
            } else if (o == '=') {
                want = 8;
            }
            Due.due("octet " + o + " in a name", Due.fault(text), want);
        }
        Due.due("a digit at first", Due.fault("field 1a=1;"), 6);
        Due.due("a digit at last of 6", Due.fault("field abcde9=1;"), 6);
        Due.due("a and z", Due.fault("still az=1;"), -1);
    }

    private static void values() {
        Due.sentence("A field has a name, 1 to 6 letters a to z, and a value, 0 to 6 characters, each a letter a to z or a digit.");
        for (String word : new String[] {"field ", "still "}) {
            int sort = word.equals("field ") ? 0 : 1;
            String value = "";
            for (int n = 0; n <= 6; n++) {
                HeadTables x = Due.told(word + "a=" + value + ";");
                Due.due("length of the value", x.spells(sort, 0, 1, -1), n);
                Due.due("last character of the value", n == 0 ? '0' : x.spells(sort, 0, 1, n - 1), '0' + n);
                Due.due("behind the value", x.spells(sort, 0, 1, n), Due.NONE);
                value += (char) ('1' + n);
            }
            Due.due("7 characters", Due.fault(word + "a=1234567;"), 8);
            Due.due("8 characters", Due.fault(word + "a=12345678;"), 8);
        }
    }

    /** Every octet behind the first character of a value. */
    private static void valueSigns() {
        Due.sentence("VALUE is a piece of 1 to 6 letters and digits, or is left out (then the value is empty).");
        for (int o = 0; o < 256; o++) {
            int want = 9;
            if (o >= 'a' && o <= 'z' || o >= '0' && o <= '9' || o == ' ') {
                want = -1;
            } else if (o == ';') {
                want = 10;
            }
            Due.due("octet " + o + " in a value", Due.fault("field a=1" + (char) o + ";"), want);
        }
    }

    private static void stillsUpTo8() {
        Due.sentence("There are up to 8 static entries, numbered from 0, each with a name and a value of the same form");
        for (int n = 0; n <= 8; n++) {
            HeadTables x = Due.told(joined(STILLS, n));
            Due.due("static entries", x.count(1), n);
            Due.due("the one behind the last", x.spells(1, n, 0, -1), Due.BAD);
            Due.due("the name of the last", n == 0 ? 0 : x.spells(1, n - 1, 0, 0), n == 0 ? 0 : STILLS[n].charAt(6));
        }
        String eight = joined(STILLS, 8);
        Due.sentence("still NAME = VALUE ; the next static entry; at most 8 times");
        Due.due("8 static entries", Due.fault(eight), -1);
        Due.due("9 static entries", Due.fault(eight + " still a=;"), eight.length() + 1);
        HeadTables x = Due.told(eight + "field z=9;field z=8;");
        Due.sends(x, 0, 0, 1);
        Due.dueText("the last one, and its name", Due.octets(x, 0), "0 0 199 87 1 56");
    }

    private static void stillsMayBeEqual() {
        Due.sentence("they may be equal to each other and to fields.");
        HeadTables x = Due.told("still a=1;still a=1;field a=1;still a=1;field b=;");
        Due.due("static entries", x.count(1), 3);
        Due.due("fields", x.count(0), 2);
        Due.due("a field before", Due.fault("field a=1;still a=1;still a=1;"), -1);
        Due.sends(x, 0, 0);
        Due.dueText("the lowest of them is told", Due.octets(x, 0), "0 0 192");
    }

    private static void entryIsLike() {
        Due.sentence("A static entry or an entry of a table is like a field if it has the same name and the same value.");
        HeadTables x = Due.told("still ab=12;field ab=12;field ab=1;field ab=;field a=12;field abc=12;field ab=13;field bb=12;");
        Due.sends(x, 0, 0, 1, 2);
        Due.dueText("static entry", Due.octets(x, 0), "0 0 192 80 1 49 80 0");
        Due.sends(x, 0, 3, 4, 5, 6);
        Due.dueText("static entry", Due.octets(x, 1), "0 0 33 97 2 49 50 35 97 98 99 2 49 50 80 2 49 51 34 98 98 2 49 50");
        HeadTables y = Due.told("field ab=12;field ab=1;field ab=;field a=12;field abc=12;field ab=13;field bb=12;");
        y.capacity(8);
        y.inserts(0);
        for (int f = 0; f < 7; f++) {
            Due.sends(y, 1, f);
            boolean named = f == 1 || f == 2 || f == 5;
            Due.due("way 1, field " + f, y.octet(f, 2), f == 0 ? 128 : named ? 64 : 32 + y.spells(0, f, 0, -1));
            Due.settle(y);
            y.gives(f, 99);
            y.hears(9);
        }
        Due.due("the field that the entry is like", y.entry(0, 0, 1), 0);
        Due.due("the decoder's, too", y.entry(1, 0, 1), 0);
    }

    private static void sizeOfAnEntry() {
        Due.sentence("The size of an entry is the length of its name plus the length of its value plus 4.");
        String[] pairs = {"a=", "abcdef=", "a=123456", "abcdef=123456", "ab=1"};
        int[] sizes = {5, 10, 11, 16, 7};
        for (int i = 0; i < pairs.length; i++) {
            HeadTables x = Due.told("field " + pairs[i] + ";");
            x.capacity(60);
            x.inserts(0);
            x.feeds(99);
            Due.due("size of " + pairs[i], x.entry(0, 0, 0), sizes[i]);
            Due.due("the decoder's size of " + pairs[i], x.entry(1, 0, 0), sizes[i]);
            Due.due("sum", x.table(0, 2), sizes[i]);
        }
    }

    private static void capacityRange() {
        Due.sentence("table N ; the maximum capacity is N, 0 to 200; at most once");
        int[] allowed = {0, 1, 9, 10, 59, 60, 61, 99, 100, 199, 200};
        for (int n : allowed) {
            Due.due("table " + n, Due.told("table " + n + ";").count(2), n);
        }
        String[] refused = {"201", "202", "209", "210", "256", "300", "999", "1000", "2000", "65536", "2147483647", "2147483648", "4294967296",
            "4294967297", "18446744073709551616"};
        for (String n : refused) {
            Due.due("table " + n, Due.fault("table " + n + ";"), 6);
        }
    }

    private static void blockingRange() {
        Due.sentence("blocked N ; the blocking limit is N, 0 to 9; at most once");
        for (int n = 0; n <= 9; n++) {
            Due.due("blocked " + n, Due.told("blocked " + n + ";").count(3), n);
        }
        String[] refused = {"10", "11", "19", "20", "90", "100", "256", "4294967296", "4294967297"};
        for (String n : refused) {
            Due.due("blocked " + n, Due.fault("blocked " + n + ";"), 8);
        }
    }

    private static void settingsAtFirst() {
        Due.sentence("There are two settings: the maximum capacity (0 to 200; 60 at first) and the blocking limit (0 to 9; 2 at first).");
        HeadTables x = Due.told("field a=;");
        Due.due("capacity 61", x.capacity(61), Due.BAD);
        Due.due("capacity 60", x.capacity(60), 0);
        x.inserts(0);
        for (int k = 0; k < 3; k++) {
            Due.sends(x, 1, 0);
        }
        Due.due("two are at risk", x.count(8), 2);
        Due.due("the second refers", x.letter(1, 1), 1);
        Due.due("the third does not", x.letter(2, 1), 0);
        Due.sentence("At first there are no fields and no static entries.");
        Due.due("fields", new HeadTables().count(0), 0);
        Due.due("static entries", new HeadTables().count(1), 0);
    }

    private static void textOf200() {
        Due.sentence("Fields and settings are given by a text of at most 200 octets.");
        String blanks = " ".repeat(200);
        for (int n = 199; n <= 201; n++) {
            HeadTables x = Due.typed(new HeadTables(), blanks.substring(0, n - 8) + "table 7;");
            Due.due("length of " + n, x.count(12), Math.min(n, 200));
            // Without its last octet, the ;, the text ends too early.
            Due.due("tells of " + n, x.tells(), n <= 200 ? 1 : -10 - 200);
        }
    }

    private static void anyNumberOfItems() {
        Due.sentence("It consists of any number of items, also none, each of which ends with ;");
        Due.due("no octets", new HeadTables().tells(), 0);
        Due.due("a blank", Due.typed(new HeadTables(), " ").tells(), 0);
        Due.due("200 blanks", Due.typed(new HeadTables(), " ".repeat(200)).tells(), 0);
        Due.due("one item", Due.typed(new HeadTables(), "table 0;").tells(), 1);
        String most = "table 5;" + joined(STILLS, 8) + "blocked 5;" + joined(FIELDS, 7);
        HeadTables x = Due.typed(new HeadTables(), most);
        Due.due("the most that there can be", x.tells(), 17);
        Due.due("fields", x.count(0), 7);
        Due.due("static entries", x.count(1), 8);
    }

    private static void itemsEnd() {
        Due.sentence("It consists of any number of items, also none, each of which ends with ;");
        String[] items = {"table 60", "blocked 2", "still a=1", "still a=", "field a=1", "field a="};
        for (String item : items) {
            Due.due(item, Due.fault(item), item.length());
            Due.due(item + " and a blank", Due.fault(item + " "), item.length() + 1);
            Due.due(item + ";", Due.fault(item + ";"), -1);
            Due.due(item + ";;", Due.fault(item + ";;"), item.length() + 1);
            Due.due(item + " and an item", Due.fault(item + " table 5;"), item.endsWith("=") ? item.length() + 7 : item.length() + 1);
        }
        Due.due("; alone", Due.fault(";"), 0);
    }

    private static void tableOnce() {
        Due.sentence("table N ; the maximum capacity is N, 0 to 200; at most once");
        Due.due("once", Due.fault("table 5;"), -1);
        Due.due("twice", Due.fault("table 5;table 5;"), 8);
        Due.due("twice, with others between", Due.fault("table 5;field a=;blocked 3;table 6;"), 27);
        Due.due("once in each of two texts", twoTexts("table 5;", "table 6;").count(2), 6);
        Due.due("once after one that was refused", twoTexts("table 5;x", "table 6;").count(2), 6);
    }

    private static void blockedOnce() {
        Due.sentence("blocked N ; the blocking limit is N, 0 to 9; at most once");
        Due.due("once", Due.fault("blocked 5;"), -1);
        Due.due("twice", Due.fault("blocked 5;blocked 5;"), 10);
        Due.due("twice, with others between", Due.fault("blocked 5;field a=;table 3;blocked 6;"), 27);
        Due.due("once in each of two texts", twoTexts("blocked 5;", "blocked 6;").count(3), 6);
        Due.due("once after one that was refused", twoTexts("blocked 5;x", "blocked 6;").count(3), 6);
    }

    private static HeadTables twoTexts(String one, String other) {
        HeadTables x = Due.typed(new HeadTables(), one);
        x.tells();
        x.clear();
        Due.typed(x, other);
        Due.due("tells of " + other, x.tells(), 1);
        return x;
    }

    /** Every octet where an item may begin, and every octet behind a number. */
    private static void tokens() {
        Due.sentence("The tokens are pieces, = and ; .");
        for (int o = 0; o < 256; o++) {
            Due.due("octet " + o + " alone", Due.fault("" + (char) o), o == ' ' ? -1 : 0);
            int want = 7;
            if (o >= '0' && o <= '9' || o == ' ') {
                want = -1;
            } else if (o == ';') {
                want = 8;
            } else if (o >= 'a' && o <= 'z') {
                want = 6;
            }
            Due.due("octet " + o + " behind a number", Due.fault("table 1" + (char) o + ";"), want);
        }
    }

    /** Each word with another letter at each place, one letter less, and one more. */
    private static void words() {
        Due.sentence("Fields and settings are given by a text of at most 200 octets.");
        String[] words = {"table", "blocked", "still", "field"};
        String[] rests = {" 5;", " 5;", " a=;", " a=;"};
        for (int w = 0; w < words.length; w++) {
            String word = words[w];
            Due.due(word, Due.fault(word + rests[w]), -1);
            Due.due(word + " and one more", Due.fault(word + "s" + rests[w]), 0);
            Due.due(word + " and a digit", Due.fault(word + "1" + rests[w]), 0);
            for (int i = 0; i < word.length(); i++) {
                Due.due(word + " without " + i, Due.fault(word.substring(0, i) + word.substring(i + 1) + rests[w]), 0);
                Due.due(word + " with another letter at " + i, Due.fault(word.substring(0, i) + "x" + word.substring(i + 1) + rests[w]), 0);
                Due.due(word + " with a digit at " + i, Due.fault(word.substring(0, i) + "0" + word.substring(i + 1) + rests[w]), 0);
            }
        }
        Due.due("the form of another word", Due.fault("table a=;"), 6);
        Due.due("the form of another word", Due.fault("still 5;"), 6);
    }

    private static void longPieces() {
        Due.sentence("A piece is a sequence of letters a to z and digits that is as long as possible.");
        Due.due("table5", Due.fault("table5;"), 0);
        Due.due("table5 5", Due.fault("table5 5;"), 0);
        Due.due("tabletable", Due.fault("tabletable 5;"), 0);
        Due.due("fielda", Due.fault("fielda=;"), 0);
        Due.due("a name of 7 is not one of 6 and one of 1", Due.fault("field abcdefg=1;"), 6);
        Due.due("a value of 12 is not two of 6", Due.fault("field a=123456123456;"), 8);
        Due.due("a number and a word", Due.fault("table 5table;"), 6);
        Due.due("a value of 7 is no value and a word", Due.fault("field a=blocked 5;"), 8);
        Due.due("a name of 7 is no word", Due.fault("field blocked 5;"), 6);
        Due.due("a shorter word", Due.fault("tabl 5;"), 0);
        Due.due("a longer word", Due.fault("blockedd 5;"), 0);
    }

    private static void blanks() {
        Due.sentence("Any number of blanks (octet 32) may stand before, between and after tokens");
        Due.due("none", Due.fault("still a=1;table 5;"), -1);
        Due.due("one", Due.fault(" still a = 1 ; table 5 ; "), -1);
        Due.due("many", Due.fault("   still    a   =    1   ;     table    5    ;    "), -1);
        int[] others = {0, 9, 10, 11, 12, 13, 31, 33, 95, 127, 160, 255};
        for (int o : others) {
            Due.due("octet " + o + " instead of a blank", Due.fault("table" + (char) o + "5;"), 5);
            Due.due("octet " + o + " behind an item", Due.fault("table 5;" + (char) o), 8);
        }
        HeadTables x = Due.told("  field  ab  =  12  ;");
        Due.due("length of the name", x.spells(0, 0, 0, -1), 2);
        Due.due("length of the value", x.spells(0, 0, 1, -1), 2);
    }

    private static void blanksBetweenPieces() {
        Due.sentence("they are necessary only between two pieces.");
        Due.due("between the word and the name", Due.fault("stilla=1;"), 0);
        Due.due("there", Due.fault("still a=1;"), -1);
        Due.due("between the word and the number", Due.fault("blocked1;"), 0);
        Due.due("in a word", Due.fault("ta ble 5;"), 0);
        Due.due("in a number", Due.fault("table 1 0;"), 8);
        Due.due("in a name", Due.fault("field a b=;"), 8);
        Due.due("in a value", Due.fault("field a=b c;"), 10);
    }

    private static void zeros() {
        Due.sentence("N is a piece that consists of digits, with no 0 in front of other digits.");
        Due.due("0", Due.fault("table 0;"), -1);
        Due.due("00", Due.fault("table 00;"), 6);
        Due.due("000", Due.fault("table 000;"), 6);
        Due.due("01", Due.fault("table 01;"), 6);
        Due.due("060", Due.fault("table 060;"), 6);
        Due.due("0060", Due.fault("table 0060;"), 6);
        Due.due("10", Due.fault("table 10;"), -1);
        Due.due("100", Due.fault("table 100;"), -1);
        Due.due("101", Due.fault("table 101;"), -1);
        Due.due("blocked 0", Due.fault("blocked 0;"), -1);
        Due.due("blocked 00", Due.fault("blocked 00;"), 8);
        Due.due("blocked 05", Due.fault("blocked 05;"), 8);
    }

    private static void digitsOnly() {
        Due.sentence("N is a piece that consists of digits, with no 0 in front of other digits.");
        String[] refused = {"a", "1a", "a1", "1a1", "0a", "z", "abc", ";", "=1;", "table"};
        for (String n : refused) {
            Due.due("table " + n, Due.fault("table " + n + ";"), 6);
            Due.due("blocked " + n, Due.fault("blocked " + n + ";"), 8);
        }
    }

    private static void valueLeftOut() {
        Due.sentence("VALUE is a piece of 1 to 6 letters and digits, or is left out (then the value is empty).");
        Due.due("left out", Due.told("field a=;").spells(0, 0, 1, -1), 0);
        Due.due("left out with blanks", Due.told("field a =  ;").spells(0, 0, 1, -1), 0);
        Due.due("one", Due.told("field a=0;").spells(0, 0, 1, -1), 1);
        Due.due("only the = left out", Due.fault("field a;"), 7);
        Due.due("the = and not the value left out", Due.fault("field a 1;"), 8);
        Due.due("the name left out", Due.fault("field =;"), 6);
        HeadTables x = twoTexts("field a=123456;still b=654321;", "field a=;");
        Due.due("empty after one that was not", x.spells(0, 0, 1, -1), 0);
    }

    private static void errorPositions() {
        Due.sentence("Its error position (from 0) is that of the first octet of the first token that is not allowed at its place: also a word told "
            + "too often, a number that is too great, a piece that is too long, an octet that belongs to no token, and, for a field that is "
            + "equal to one before it, the ; behind it.");
        Due.due("a token that is not allowed", Due.fault("still a=1;  =b;"), 12);
        Due.due("a word told too often", Due.fault("blocked 1;  blocked 1;"), 12);
        Due.due("still told too often", Due.fault(joined(STILLS, 8) + " still=;"), joined(STILLS, 8).length() + 1);
        Due.due("field told too often", Due.fault(joined(FIELDS, 7) + " field=;"), joined(FIELDS, 7).length() + 1);
        Due.due("a number that is too great", Due.fault("blocked   10;"), 10);
        Due.due("a name that is too long", Due.fault("field    abcdefg=;"), 9);
        Due.due("a value that is too long", Due.fault("field a=    abcdefg;"), 12);
        Due.due("an octet that belongs to no token", Due.fault("field a= 12 - ;"), 12);
        Due.due("such an octet in a piece", Due.fault("field a=12-;"), 10);
        Due.due("the ; behind an equal field", Due.fault("field a=1; field a=1  ;"), 22);
        Due.due("another token behind an equal field", Due.fault("field a=1; field a=1  =;"), 22);
        Due.due("the ; behind an equal field without a value", Due.fault("field a=; field a=  ;"), 20);
        Due.due("the first of two", Due.fault("table 201; table 5?"), 6);
        Due.due("a word too often before a number too great", Due.fault("table 5;table 201;"), 8);
        Due.due("an equal field that has a further fault", Due.fault("field a=1;field a=1 1;"), 20);
    }

    private static void leftToRight() {
        Due.sentence("The text is read from left to right.");
        String[] faults = {"table 201;", "blocked 10;", "field abcdefg=;", "still a=1234567;", "word", "field a;", "?", "table 05;"};
        int[] positions = {6, 8, 6, 8, 0, 7, 0, 6};
        for (int i = 0; i < faults.length; i++) {
            for (int k = 0; k < faults.length; k++) {
                Due.due(faults[i] + " before " + faults[k], Due.fault("still a=1;" + faults[i] + " " + faults[k]), 10 + positions[i]);
            }
        }
    }

    private static void errorPositionFirst() {
        Due.sentence("or -10 minus the error position if the text has an error (nothing changes then, and the text stays).");
        Due.due("position 0", Due.typed(new HeadTables(), ";").tells(), -10);
        Due.due("position 1", Due.typed(new HeadTables(), " ;").tells(), -11);
        Due.due("position 199", Due.typed(new HeadTables(), " ".repeat(199) + "=").tells(), -10 - 199);
        Due.due("position 198", Due.typed(new HeadTables(), " ".repeat(198) + "==").tells(), -10 - 198);
    }

    private static void errorPositionLast() {
        Due.sentence("It is the length of the text if the text ends too early.");
        String text = "table 10;blocked 5;still ab=1;field cd=2;field e=;";
        for (int n = 0; n < text.length(); n++) {
            String part = text.substring(0, n);
            boolean whole = n == 0 || part.endsWith(";");
            // In a word the word is not allowed, and it has not ended too early.
            int word = Math.max(part.lastIndexOf(';') + 1, 0);
            boolean inWord = !whole && !isWord(part.substring(word));
            Due.due("\"" + part + "\"", Due.fault(part), whole ? -1 : inWord ? word : n);
        }
        Due.due("199 octets", Due.fault(" ".repeat(194) + "table"), 199);
        Due.due("200 octets", Due.fault(" ".repeat(195) + "table"), 200);
        Due.due("the second of two equal fields ends too early", Due.fault("field a=1;field a=1"), 19);
        Due.due("a number that is too great ends too early", Due.fault("blocked 10"), 8);
    }

    private static boolean isWord(String part) {
        return part.matches("(table|blocked|still|field)( .*)?");
    }

    // ---- promises 2 and 3

    private static void typeRange() {
        Due.sentence("Returns the length of the text then; BAD if letter is out of range; FULL if there are 200 octets.");
        Due.refused(x -> x.type(7), "type -1", x -> x.type(-1), Due.BAD);
        Due.refused(x -> x.type(7), "type 256", x -> x.type(256), Due.BAD);
        Due.refused(x -> x.type(7), "type the least", x -> x.type(Due.LEAST), Due.BAD);
        Due.refused(x -> x.type(7), "type the most", x -> x.type(Due.MOST), Due.BAD);
        HeadTables x = new HeadTables();
        Due.due("type 0", x.type(0), 1);
        Due.due("type 1", x.type(1), 2);
        Due.due("type 254", x.type(254), 3);
        Due.due("type 255", x.type(255), 4);
        // 0 stays 0, and is read: an integer whose prefix is not full, with octets behind it.
        Due.due("number", x.number(8), Due.STATE);
        Due.due("type 255 alone, read", octetRead(254), 254);
        Due.due("type 0 alone, read", octetRead(0), 0);
    }

    private static int octetRead(int octet) {
        HeadTables x = new HeadTables();
        x.type(octet);
        return x.number(8);
    }

    private static void typeUntilFull() {
        Due.sentence("Returns the length of the text then; BAD if letter is out of range; FULL if there are 200 octets.");
        HeadTables x = new HeadTables();
        for (int i = 1; i <= 200; i++) {
            Due.due("type", x.type(32), i);
        }
        Due.due("a 201st", x.type(59), Due.FULL);
        Due.due("length", x.count(12), 200);
        Due.refused(y -> Due.typed(y, " ".repeat(200)), "type into a full text", y -> y.type(59), Due.FULL);
        Due.refused(y -> Due.typed(y, " ".repeat(200)), "BAD before FULL", y -> y.type(256), Due.BAD);
        Due.refused(y -> Due.typed(y, " ".repeat(200)), "BAD before FULL", y -> y.type(-1), Due.BAD);
        Due.due("clear", x.clear(), 200);
        Due.due("room again", x.type(59), 1);
    }

    private static void clear() {
        Due.sentence("Returns the length that it had.");
        for (int n : new int[] {0, 1, 2, 199, 200}) {
            HeadTables x = Due.typed(new HeadTables(), "=".repeat(n));
            Due.due("clear of " + n, x.clear(), n);
            Due.due("length", x.count(12), 0);
            Due.due("clear again", x.clear(), 0);
            Due.due("it is empty", x.tells(), 0);
        }
    }

    private static void clearChangesNothingElse() {
        Due.sentence("Empties the text.");
        Due.unchanged(EdgesOfTextTest::busy, "clear of nothing", HeadTables::clear);
        Due.alike("clear", x -> {
            busy(x);
            Due.typed(x, "table 9;");
            x.clear();
        }, EdgesOfTextTest::busy);
    }

    // ---- promise 4

    /** Something of everything: entries that are gone, known, held, and not delivered, and a section of every state. */
    private static void busy(HeadTables x) {
        Due.text("table 70;blocked 3;still c=;still abcdef=123456;field a=;field b=11;field abcde=12345;").on(x);
        x.capacity(26);
        x.inserts(0);
        x.inserts(1);
        Due.settle(x);
        x.inserts(2);
        Due.due("the first entry goes", x.inserts(0), 3);
        x.feeds(3);
        x.grows();
        Due.sends(x, 2, 1, 0);
        Due.sends(x, 0, 0, 0);
        Due.sends(x, 1, 0);
        Due.sends(x, 0, 1);
        Due.sends(x, 1, 1);
        x.gives(0, 99);
        x.gives(1, 3);
        x.quits(1);
        x.gives(2, 2);
        x.gives(3, 99);
        x.gives(4, 99);
        x.hears(1);
        x.capacity(60);
        x.feeds(1);
        Due.due("an entry of four is gone", x.table(0, 4), 1);
        Due.due("something is at risk", x.count(8) > 0 ? 1 : 0, 1);
        Due.due("something is known", x.count(4), 2);
        Due.due("something waits", x.count(9) > 3 && x.count(10) > 0 ? 1 : 0, 1);
        Due.due("something is held", x.holds(1) != 0 && x.holds(3) != 0 ? 1 : 0, 1);
        int[] states = {1, 3, 0, 2, 2};
        for (int k = 0; k < states.length; k++) {
            Due.due("section " + k, x.letter(k, 4), states[k]);
        }
        Due.puts(x, 1, 0);
    }

    private static void tellsItems() {
        Due.sentence("Returns the number of items");
        String all = "blocked 1;field a=;table 5;still b=;field b=;still a=;field c=;still c=;";
        int n = 0;
        for (int i = 0; i <= all.length(); i++) {
            if (i == 0 || all.charAt(i - 1) == ';') {
                Due.due("items", Due.typed(new HeadTables(), all.substring(0, i)).tells(), n);
                n++;
            }
        }
    }

    private static void tellsSettingsAsAtFirst() {
        Due.sentence("Fields, static entries and settings become those of the text (settings that it does not give become as at first)");
        String[] texts = {"", "table 0;", "blocked 0;", "table 200;blocked 9;", "field a=;", "still a=;"};
        for (String text : texts) {
            HeadTables x = Due.told("table 123;blocked 7;field a=1;field b=1;still a=1;still b=1;");
            Due.typed(x, text);
            x.tells();
            Due.due("capacity of " + text, x.count(2), text.contains("table 0") ? 0 : text.contains("table 2") ? 200 : 60);
            Due.due("limit of " + text, x.count(3), text.contains("blocked 0") ? 0 : text.contains("blocked 9") ? 9 : 2);
            Due.due("fields of " + text, x.count(0), text.contains("field") ? 1 : 0);
            Due.due("static entries of " + text, x.count(1), text.contains("still") ? 1 : 0);
        }
    }

    /** Texts one after the other, each of which lacks what the one before gave. */
    private static void tellsAgainAndAgain() {
        Due.sentence("Fields, static entries and settings become those of the text (settings that it does not give become as at first)");
        String[] texts = {"table 123;blocked 7;field abcdef=123456;field b=1;still abcdef=654321;still b=1;", "", "field a=;still a=;", "table 5;", "blocked 5;",
            "still ab=12;", "field ab=12;", "", "table 0;blocked 0;", ""};
        Due.Run before = x -> { };
        for (String text : texts) {
            before = before.then(Due.text(text));
            Due.alike("texts up to " + text, before, Due.text(text));
        }
        Due.alike("a text that is refused and one that is not", Due.text(texts[0]).then(x -> Due.typed(x, texts[2] + "?")).then(HeadTables::tells)
            .then(HeadTables::clear).then(Due.text(texts[4])), Due.text(texts[4]));
    }

    private static void tellsEverythingElseAsAtFirst() {
        Due.sentence("everything else becomes as at first, and the text becomes empty.");
        for (String text : new String[] {"", "field a=;", "blocked 9;field a=;field b=11;", "table 70;blocked 3;still c=;field a=;field b=11;field abcdef=;"}) {
            Due.alike("tells " + text, x -> {
                busy(x);
                Due.typed(x, text);
                x.tells();
            }, Due.text(text));
        }
    }

    private static void tellsRefused() {
        Due.sentence("or -10 minus the error position if the text has an error (nothing changes then, and the text stays).");
        String[] texts = {";", "table 5", "table 5;blocked 10;", "field q=;still r=;field q=;", "blocked 9;table", joined(FIELDS, 7) + "field"};
        int[] positions = {0, 7, 16, 26, 15, joined(FIELDS, 7).length()};
        for (int i = 0; i < texts.length; i++) {
            String text = texts[i];
            Due.refused(x -> {
                busy(x);
                Due.typed(x, text);
            }, "tells " + text, HeadTables::tells, -10 - positions[i]);
        }
        HeadTables x = Due.typed(new HeadTables(), "table 5");
        Due.due("tells", x.tells(), -17);
        Due.due("the text goes on", x.type(';'), 8);
        Due.due("tells", x.tells(), 1);
        Due.due("capacity", x.count(2), 5);
    }

    // ---- promise 5

    private static void spellsCharacters() {
        Due.sentence("Returns the length or the code; NONE if there is no such character");
        HeadTables x = Due.told("field abcdef=12345z;field a=;still a=0;still ghijkl=mnopqr;");
        String[][][] words = {{{"abcdef", "12345z"}, {"a", ""}}, {{"a", "0"}, {"ghijkl", "mnopqr"}}};
        for (int sort = 0; sort < 2; sort++) {
            for (int k = 0; k < 2; k++) {
                for (int part = 0; part < 2; part++) {
                    String word = words[sort][k][part];
                    Due.due("length", x.spells(sort, k, part, -1), word.length());
                    for (int i = 0; i < 8; i++) {
                        Due.due("character", x.spells(sort, k, part, i), i < word.length() ? word.charAt(i) : Due.NONE);
                    }
                    Due.due("character", x.spells(sort, k, part, Due.MOST), Due.NONE);
                }
            }
        }
    }

    private static void spellsRefused() {
        Due.sentence("BAD if sort or part is not 0 or 1, there is no such field or entry, or i is less than -1.");
        Due.Run two = Due.text("field ab=12;field cd=;still ef=34;still gh=;");
        int[][] bad = {{-1, 0, 0, 0}, {2, 0, 0, 0}, {0, 0, -1, 0}, {0, 0, 2, 0}, {1, 0, -1, 0}, {1, 0, 2, 0}, {0, -1, 0, 0}, {0, 2, 0, 0},
            {1, -1, 0, 0}, {1, 2, 0, 0}, {0, 0, 0, -2}, {0, 0, 1, -2}, {1, 0, 0, -2}, {1, 1, 1, -2}, {0, 0, 0, Due.LEAST}, {0, Due.MOST, 0, 0},
            {1, Due.LEAST, 0, 0}, {Due.MOST, 0, 0, 0}, {0, 0, Due.LEAST, 0}};
        for (int[] a : bad) {
            Due.refused(two, "spells " + a[0] + " " + a[1] + " " + a[2] + " " + a[3], x -> x.spells(a[0], a[1], a[2], a[3]), Due.BAD);
        }
        Due.sentence("it is not an error, and it is returned only if no error applies.");
        Due.refused(two, "sort and no such character", x -> x.spells(2, 0, 0, 9), Due.BAD);
        Due.refused(two, "part and no such character", x -> x.spells(0, 0, 2, 9), Due.BAD);
        Due.refused(two, "no field and no such character", x -> x.spells(0, 2, 0, 9), Due.BAD);
        Due.refused(two, "no entry and no such character", x -> x.spells(1, 2, 0, 9), Due.BAD);
    }
}
