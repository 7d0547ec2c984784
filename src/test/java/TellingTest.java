/** Promises 1 to 5, 26 and 27: the object, its text, and integers. */
public final class TellingTest {
    public static void main(String[] args) {
        newObject();
        type();
        clear();
        tells();
        tellsNumbers();
        tellsWords();
        tellsTooOften();
        tellsTwoEqual();
        tellsMakesAllNew();
        tellsLikeANewObject();
        spells();
        coded();
        number();
        Due.finish();
    }

    private static void newObject() {
        HeadTables x = new HeadTables();
        int[] want = {0, 0, 60, 2, 0, 0, 0, 0, 0, 0, 0, 0, 0};
        for (int what = 0; what < want.length; what++) {
            Due.due("new count " + what, x.count(what), want[what]);
        }
        for (int who = 0; who < 2; who++) {
            for (int what = 0; what < 4; what++) {
                Due.due("new table", x.table(who, what), 0);
            }
            Due.due("new lowest place", x.table(who, 4), Due.NONE);
        }
        Due.due("new octet 40", x.octet(40, 0), Due.NONE);
        Due.due("new octet 41", x.octet(41, 0), Due.NONE);
        Due.due("new letter", x.letter(0, 0), Due.BAD);
        Due.due("new waits", x.waits(0), Due.NONE);
        Due.due("new loose", x.loose(), 0);
        Due.due("new cost", x.cost(2), 2);
    }

    private static void type() {
        HeadTables x = new HeadTables();
        Due.due("type -1", x.type(-1), Due.BAD);
        Due.due("type 256", x.type(256), Due.BAD);
        Due.due("type 0", x.type(0), 1);
        Due.due("type 255", x.type(255), 2);
        for (int i = 3; i <= 200; i++) {
            Due.due("type", x.type(32), i);
        }
        Due.due("type into a full text", x.type(32), Due.FULL);
        Due.due("type 256 into a full text", x.type(256), Due.BAD);
        Due.due("length", x.count(12), 200);
    }

    private static void clear() {
        HeadTables x = Due.typed(new HeadTables(), "table 7");
        Due.due("clear", x.clear(), 7);
        Due.due("clear again", x.clear(), 0);
        Due.due("length", x.count(12), 0);
        Due.due("tells of nothing", x.tells(), 0);
        Due.due("capacity", x.count(2), 60);
    }

    private static void tells() {
        HeadTables x = Due.typed(new HeadTables(), "table 100;blocked 9; still a=b;still c = ; field a=b;field  d=0z9 ;");
        Due.due("tells", x.tells(), 6);
        Due.due("fields", x.count(0), 2);
        Due.due("static entries", x.count(1), 2);
        Due.due("capacity", x.count(2), 100);
        Due.due("blocking limit", x.count(3), 9);
        Due.due("text", x.count(12), 0);
        Due.typed(x, "blocked 1;field");
        Due.due("tells with an error", x.tells(), -10 - 15);
        Due.due("the text stays", x.count(12), 15);
        Due.due("the limit stays", x.count(3), 9);
        x.clear();
        Due.due("tells of nothing", x.tells(), 0);
        Due.due("fields", x.count(0), 0);
        Due.due("static entries", x.count(1), 0);
        Due.due("capacity as at first", x.count(2), 60);
        Due.due("limit as at first", x.count(3), 2);
        Due.due("only blanks", Due.fault("   "), -1);
        Due.due("no blanks", Due.fault("still a=b;table 5;"), -1);
        Due.due("blanks everywhere", Due.fault("  still  a  =  b  ;  table  5  ;  "), -1);
    }

    private static void tellsNumbers() {
        Due.due("table 0", Due.fault("table 0;"), -1);
        Due.due("table 200", Due.fault("table 200;"), -1);
        Due.due("table 201", Due.fault("table 201;"), 6);
        Due.due("table 1000", Due.fault("table 1000;"), 6);
        Due.due("table 00", Due.fault("table 00;"), 6);
        Due.due("table 010", Due.fault("table  010;"), 7);
        Due.due("table of many digits", Due.fault("table 4294967296;"), 6);
        Due.due("table 5a", Due.fault("table 5a;"), 6);
        Due.due("table a", Due.fault("table a;"), 6);
        Due.due("table without number", Due.fault("table ;"), 6);
        Due.due("table without ;", Due.fault("table 7"), 7);
        Due.due("table without ; but blanks", Due.fault("table 7  "), 9);
        Due.due("table alone", Due.fault("table"), 5);
        Due.due("table with two numbers", Due.fault("table 7 8;"), 8);
        Due.due("table7", Due.fault("table7;"), 0);
        Due.due("table =", Due.fault("table =7;"), 6);
        Due.due("blocked 0", Due.fault("blocked 0;"), -1);
        Due.due("blocked 9", Due.fault("blocked 9;"), -1);
        Due.due("blocked 10", Due.fault("blocked 10;"), 8);
    }

    private static void tellsWords() {
        Due.due("no such word", Due.fault("tables 5;"), 0);
        Due.due("another first letter", Due.fault("xable 5;"), 0);
        Due.due("another last letter", Due.fault("blockex 5;"), 0);
        Due.due("another letter in it", Due.fault("stxll a=;"), 0);
        Due.due("a part of a word", Due.fault("fiel a=;"), 0);
        Due.due("a sign at first", Due.fault(" ;"), 1);
        Due.due("no token", Due.fault("field a=@;"), 8);
        Due.due("no token behind a piece", Due.fault("field a@=;"), 7);
        Due.due("a great letter", Due.fault("field A=;"), 6);
        Due.due("a tab", Due.fault("field\ta=;"), 5);
        Due.due("octet 0", Due.fault("\0"), 0);
        Due.due("octet 255", Due.fault("table 5;\u00ff"), 8);
        Due.due("name of 6", Due.fault("field abcdef=;"), -1);
        Due.due("name of 7", Due.fault("field abcdefg=;"), 6);
        Due.due("name with a digit", Due.fault("field a1=;"), 6);
        Due.due("no name", Due.fault("field =a;"), 6);
        Due.due("value of 6", Due.fault("field a=12345z;"), -1);
        Due.due("value of 7", Due.fault("field a=12345zz;"), 8);
        Due.due("two values", Due.fault("field a=b c;"), 10);
        Due.due("no =", Due.fault("field a b;"), 8);
        Due.due("no = but ;", Due.fault("field a;"), 7);
        Due.due("two =", Due.fault("field a==;"), 8);
        Due.due("no value and no ;", Due.fault("field a="), 8);
        Due.due("words as names", Due.fault("field field=table;still still=still;"), -1);
        Due.due("an error in the second item", Due.fault("field a=;field b?"), 16);
    }

    private static void tellsTooOften() {
        Due.due("table twice", Due.fault("table 5; table 5;"), 9);
        Due.due("blocked twice", Due.fault("blocked 5;blocked 5;"), 10);
        String stills = "still a=;still a=;still a=;still a=;still a=;still a=;still a=;still a=;";
        Due.due("still 8 times", Due.fault(stills), -1);
        Due.due("still 9 times", Due.fault(stills + " still a=;"), stills.length() + 1);
        String fields = "field a=;field b=;field c=;field d=;field e=;field f=;field g=;";
        Due.due("field 7 times", Due.fault(fields), -1);
        Due.due("field 8 times", Due.fault(fields + "field"), fields.length());
    }

    private static void tellsTwoEqual() {
        Due.due("equal fields", Due.fault("field a=b;field a=b ;"), 20);
        Due.due("equal fields without ;", Due.fault("field a=b;field a=b"), 19);
        Due.due("equal fields, another fault", Due.fault("field a=b;field a=b ="), 20);
        Due.due("equal empty values", Due.fault("field a=;field a=;"), 17);
        Due.due("the same name", Due.fault("field a=;field a=a;"), -1);
        Due.due("the same value", Due.fault("field a=a;field b=a;"), -1);
        Due.due("a name that begins alike", Due.fault("field a=a;field ab=a;"), -1);
        Due.due("a value that begins alike", Due.fault("field a=ab;field a=a;"), -1);
        Due.due("field equal to a static entry", Due.fault("still a=b;field a=b;still a=b;"), -1);
    }

    private static void tellsMakesAllNew() {
        HeadTables x = Due.told("field a=;field b=;");
        x.capacity(60);
        x.inserts(0);
        x.puts(1);
        x.sends(2);
        x.puts(0);
        x.feeds(99);
        x.gives(0, 99);
        x.sends(1);
        x.hears(1);
        x.grows();
        x.puts(0);
        Due.typed(x, "field c=1;");
        Due.due("tells", x.tells(), 1);
        int[] want = {1, 0, 60, 2, 0, 0, 0, 0, 0, 0, 0, 0, 0};
        for (int what = 0; what < want.length; what++) {
            Due.due("count " + what, x.count(what), want[what]);
        }
        for (int who = 0; who < 2; who++) {
            for (int what = 0; what < 4; what++) {
                Due.due("table", x.table(who, what), 0);
            }
        }
        Due.due("entry", x.entry(0, 0, 0), Due.NONE);
        Due.due("letter", x.letter(0, 0), Due.BAD);
        Due.due("takes", x.takes(), Due.STATE);
        x.capacity(60);
        Due.due("a place from 0 again", x.inserts(0), 0);
        Due.due("nobody holds it", x.holds(0), 0);
    }

    /** The same calls, after some others and a telling, answer as those of a new object. */
    private static void tellsLikeANewObject() {
        Due.Run one = Due.text("table 13;field a=;field b=1;field cd=1;still e=;");
        Due.Run other = Due.text("blocked 7;table 19;field aaaaaa=bbbbbb;field b=;field c=;still aaaaaa=11;still b=;");
        Due.Run calls = TellingTest::calls;
        Due.alike("on a used object", other.then(calls).then(one).then(calls), one.then(calls));
        Due.alike("on it again", one.then(calls).then(one).then(calls), one.then(calls));
        Due.alike("the first again", other.then(calls).then(one).then(other).then(calls), other.then(calls));
    }

    private static void calls(HeadTables x) {
        x.capacity(x.count(2));
        x.inserts(1);
        x.inserts(2);
        x.feeds(5);
        x.feeds(3);
        x.grows();
        x.hears(9);
        x.repeats(0);
        x.inserts(0);
        for (int i = 0; i < 4; i++) {
            x.puts(i % 3);
            x.puts(1);
            x.cost(2 - i % 3);
            x.sends(i % 3);
            x.gives(i, 1 + i * i);
        }
        x.quits(1);
        x.feeds(2);
        x.gives(2, 9);
        x.feeds(1);
        x.hears(1);
        x.puts(0);
        x.type(9);
        x.clear();
    }

    private static void spells() {
        HeadTables x = Due.told("still ab=;field xyz=9q;");
        Due.due("field's name", x.spells(0, 0, 0, -1), 3);
        Due.due("field's value", x.spells(0, 0, 1, -1), 2);
        Due.due("entry's name", x.spells(1, 0, 0, -1), 2);
        Due.due("entry's value", x.spells(1, 0, 1, -1), 0);
        Due.due("x", x.spells(0, 0, 0, 0), 'x');
        Due.due("z", x.spells(0, 0, 0, 2), 'z');
        Due.due("9", x.spells(0, 0, 1, 0), '9');
        Due.due("b", x.spells(1, 0, 0, 1), 'b');
        Due.due("behind the name", x.spells(0, 0, 0, 3), Due.NONE);
        Due.due("in an empty value", x.spells(1, 0, 1, 0), Due.NONE);
        Due.due("far behind", x.spells(0, 0, 0, 2147483647), Due.NONE);
        Due.due("sort 2", x.spells(2, 0, 0, 0), Due.BAD);
        Due.due("sort -1", x.spells(-1, 0, 0, 0), Due.BAD);
        Due.due("part 2", x.spells(0, 0, 2, 0), Due.BAD);
        Due.due("part -1", x.spells(0, 0, -1, 0), Due.BAD);
        Due.due("no such field", x.spells(0, 1, 0, 9), Due.BAD);
        Due.due("no such entry", x.spells(1, 1, 0, 9), Due.BAD);
        Due.due("field -1", x.spells(0, -1, 0, 0), Due.BAD);
        Due.due("index -2", x.spells(0, 0, 0, -2), Due.BAD);
    }

    private static void coded() {
        HeadTables x = Due.typed(new HeadTables(), "abc");
        Due.due("10 in 5 bits", x.coded(5, 10), 10);
        Due.due("30 in 5 bits", x.coded(5, 30), 30);
        Due.due("31 in 5 bits", x.coded(5, 31), 31 * 256);
        Due.due("158 in 5 bits", x.coded(5, 158), 31 * 256 + 127);
        Due.due("159 in 5 bits", x.coded(5, 159), (31 * 256 + 128) * 256 + 1);
        Due.due("1337 in 5 bits", x.coded(5, 1337), (31 * 256 + 154) * 256 + 10);
        Due.due("254 in 8 bits", x.coded(8, 254), 254);
        Due.due("255 in 8 bits", x.coded(8, 255), 255 * 256);
        Due.due("0 in 1 bit", x.coded(1, 0), 0);
        Due.due("greatest in 8 bits", x.coded(8, 2147483647), greatest(8));
        Due.due("greatest in 1 bit", x.coded(1, 2147483647), greatest(1));
        Due.due("no bits", x.coded(0, 1), Due.BAD);
        Due.due("9 bits", x.coded(9, 1), Due.BAD);
        Due.due("below 0", x.coded(5, -1), Due.BAD);
        Due.due("the text stays", x.count(12), 3);
    }

    /** 2147483647 by divisions instead of shifts. */
    private static long greatest(int bits) {
        long most = 1;
        for (int i = 0; i < bits; i++) {
            most *= 2;
        }
        most -= 1;
        long whole = most;
        long rest = 2147483647L - most;
        while (rest > 127) {
            whole = whole * 256 + 128 + rest % 128;
            rest /= 128;
        }
        return whole * 256 + rest;
    }

    private static int read(int bits, int... octets) {
        HeadTables x = new HeadTables();
        for (int octet : octets) {
            x.type(octet);
        }
        int answer = x.number(bits);
        Due.due("the text stays", x.count(12), octets.length);
        return answer;
    }

    private static void number() {
        Due.due("no text", read(5), Due.STATE);
        Due.due("no bits", read(0), Due.BAD);
        Due.due("9 bits", read(9, 1), Due.BAD);
        Due.due("10", read(5, 10), 10);
        Due.due("upper bits", read(5, 255 - 31 + 10), 10);
        Due.due("upper bits of 1", read(1, 254), 0);
        Due.due("octets behind", read(5, 10, 0), Due.STATE);
        Due.due("1337", read(5, 31, 154, 10), 1337);
        Due.due("a last group of 127", read(5, 31, 127), 158);
        Due.due("too early", read(5, 31), Due.STATE);
        Due.due("too early in the groups", read(5, 31, 154), Due.STATE);
        Due.due("octets behind groups", read(5, 31, 154, 10, 0), Due.STATE);
        Due.due("more groups than necessary", read(5, 31, 128, 128, 128, 128, 128, 128, 128, 128, 128, 128, 128, 0), 31);
        Due.due("a group of 0", read(8, 255, 0), 255);
        Due.due("greatest", read(8, 255, 128, 254, 255, 255, 7), 2147483647);
        Due.due("greatest, more groups", read(8, 255, 128, 254, 255, 255, 135, 128, 0), 2147483647);
        Due.due("greatest and 1", read(8, 255, 129, 254, 255, 255, 7), Due.FULL);
        Due.due("2^31 in the groups", read(1, 1, 128, 128, 128, 128, 8), Due.FULL);
        Due.due("sixth group", read(1, 1, 128, 128, 128, 128, 128, 1), Due.FULL);
        Due.due("tenth group", read(1, 1, 128, 128, 128, 128, 128, 128, 128, 128, 128, 2), Due.FULL);
        Due.due("eleventh group", read(1, 1, 128, 128, 128, 128, 128, 128, 128, 128, 128, 128, 1), Due.FULL);
        Due.due("great, then small", read(1, 1, 128, 128, 128, 128, 128, 129, 128, 0), Due.FULL);
        Due.due("great, and too early", read(1, 1, 255, 255, 255, 255, 255, 255), Due.STATE);
        Due.due("great, and octets behind", read(1, 1, 255, 255, 255, 255, 255, 1, 1), Due.STATE);
        int[] many = new int[200];
        java.util.Arrays.fill(many, 255);
        Due.due("200 octets too early", read(8, many), Due.STATE);
        many[199] = 1;
        Due.due("200 octets", read(8, many), Due.FULL);
        java.util.Arrays.fill(many, 1, 199, 128);
        many[199] = 0;
        Due.due("200 octets, 255", read(8, many), 255);
    }
}
