import java.math.BigInteger;
import java.util.Arrays;

/** The edges that the document names for integers and strings, and those of promises 26 and 27, a test for each sentence. */
public final class EdgesOfNumbersTest {
    public static void main(String[] args) {
        oneOctet();
        atLeastOneGroup();
        notMoreGroupsThanNecessary();
        greatest();
        allPrefixes();
        values();
        codedRefused();
        codedChangesNothing();
        upperBits();
        moreGroupsThanNecessary();
        endsTooEarly();
        octetsBehind();
        greatestToRead();
        eachGroup();
        numberRefused();
        numberChangesNothing();
        readsWhatIsCoded();
        Due.finish();
    }

    // ---- promise 26

    private static void oneOctet() {
        Due.sentence("if v is less than m, one octet h + v; otherwise the octet h + m, and then v - m in groups of 7 bits");
        HeadTables x = new HeadTables();
        Due.due("0 in 1 bit", x.coded(1, 0), 0);
        Due.due("1 in 1 bit", x.coded(1, 1), 0x0100);
        Due.due("2 in 2 bits", x.coded(2, 2), 2);
        Due.due("3 in 2 bits", x.coded(2, 3), 0x0300);
        Due.due("6 in 3 bits", x.coded(3, 6), 6);
        Due.due("7 in 3 bits", x.coded(3, 7), 0x0700);
        Due.due("14 in 4 bits", x.coded(4, 14), 14);
        Due.due("15 in 4 bits", x.coded(4, 15), 0x0f00);
        Due.due("30 in 5 bits", x.coded(5, 30), 30);
        Due.due("31 in 5 bits", x.coded(5, 31), 0x1f00);
        Due.due("62 in 6 bits", x.coded(6, 62), 62);
        Due.due("63 in 6 bits", x.coded(6, 63), 0x3f00);
        Due.due("126 in 7 bits", x.coded(7, 126), 126);
        Due.due("127 in 7 bits", x.coded(7, 127), 0x7f00);
        Due.due("254 in 8 bits", x.coded(8, 254), 254);
        Due.due("255 in 8 bits", x.coded(8, 255), 0xff00);
    }

    private static void atLeastOneGroup() {
        Due.sentence("there is at least one group, and not more than necessary.");
        HeadTables x = new HeadTables();
        for (int bits = 1; bits <= 8; bits++) {
            int m = (1 << bits) - 1;
            Due.due("m - 1", x.coded(bits, m - 1), m - 1);
            Due.due("m", x.coded(bits, m), m * 256L);
            Due.due("m + 1", x.coded(bits, m + 1), m * 256L + 1);
        }
    }

    private static void notMoreGroupsThanNecessary() {
        Due.sentence("the lowest group first, in one octet each, to which 128 is added in all of them but the last one");
        HeadTables x = new HeadTables();
        for (int bits = 1; bits <= 8; bits++) {
            int m = (1 << bits) - 1;
            String prefix = Integer.toHexString(m);
            dueHex(x, bits, m + 0x7f, prefix + "7f");
            dueHex(x, bits, m + 0x80, prefix + "8001");
            dueHex(x, bits, m + 0x81, prefix + "8101");
            dueHex(x, bits, m + 0x3fff, prefix + "ff7f");
            dueHex(x, bits, m + 0x4000, prefix + "808001");
            dueHex(x, bits, m + 0x4001, prefix + "818001");
            dueHex(x, bits, m + 0x1fffff, prefix + "ffff7f");
            dueHex(x, bits, m + 0x200000, prefix + "80808001");
            dueHex(x, bits, m + 0xfffffff, prefix + "ffffff7f");
            dueHex(x, bits, m + 0x10000000, prefix + "8080808001");
            dueHex(x, bits, m + 5 * 128 + 3, prefix + "8305");
        }
    }

    private static void dueHex(HeadTables x, int bits, int v, String octets) {
        Due.due("coded " + bits + " " + v, x.coded(bits, v), Long.parseLong(octets, 16));
    }

    private static void greatest() {
        Due.sentence("v: the integer, 0 or more");
        HeadTables x = new HeadTables();
        dueHex(x, 1, 2147483647, "1feffffff07");
        dueHex(x, 2, 2147483647, "3fcffffff07");
        dueHex(x, 7, 2147483647, "7f80ffffff07");
        dueHex(x, 8, 2147483647, "ff80feffff07");
        dueHex(x, 8, 2147483646, "fffffdffff07");
        dueHex(x, 8, 0, "0");
        dueHex(x, 1, 0, "0");
    }

    /** Every prefix, and integers of every length, against octets that are made by divisions. */
    private static void allPrefixes() {
        Due.sentence("for each octet in order, the number becomes 256 times itself plus the octet; it is 0 at first");
        for (int bits = 1; bits <= 8; bits++) {
            HeadTables x = new HeadTables();
            for (long v = 0; v <= Due.MOST; v = v < 300 ? v + 1 : v * 3 / 2) {
                Due.due("coded " + bits + " " + v, x.coded(bits, (int) v), whole(bits, v));
            }
        }
    }

    private static long whole(int bits, long v) {
        long m = 1;
        for (int i = 0; i < bits; i++) {
            m *= 2;
        }
        m--;
        if (v < m) {
            return v;
        }
        long whole = m;
        long rest = v - m;
        while (rest >= 128) {
            whole = whole * 256 + 128 + rest % 128;
            rest /= 128;
        }
        return whole * 256 + rest;
    }

    /** A value has at most 6 characters: no run reaches the length 127, from which on there would be two octets. */
    private static void values() {
        Due.sentence("To write a value: its length as an integer with the head 0 and a prefix of 7 bits, and then its characters.");
        HeadTables x = Due.told("field a=;field b=0;field c=z9;field d=123456;");
        Due.sends(x, 0, 0);
        Due.sends(x, 0, 1);
        Due.sends(x, 0, 2);
        Due.sends(x, 0, 3);
        Due.dueText("no character", Due.octets(x, 0), "0 0 33 97 0");
        Due.dueText("one character", Due.octets(x, 1), "0 0 33 98 1 48");
        Due.dueText("two characters", Due.octets(x, 2), "0 0 33 99 2 122 57");
        Due.dueText("six characters", Due.octets(x, 3), "0 0 33 100 6 49 50 51 52 53 54");
    }

    private static void codedRefused() {
        Due.sentence("it is 0 at first; BAD if bits or v is out of range.");
        int[][] bad = {{0, 5}, {-1, 5}, {9, 5}, {10, 5}, {32, 5}, {33, 5}, {Due.LEAST, 5}, {Due.MOST, 5}, {1, -1}, {8, -1}, {5, Due.LEAST},
            {0, -1}, {9, -1}, {5, -9}};
        for (int[] a : bad) {
            Due.refused(x -> Due.typed(x, "abc"), "coded " + a[0] + " " + a[1], x -> x.coded(a[0], a[1]), Due.BAD);
        }
        Due.due("1 bit", new HeadTables().coded(1, 0), 0);
        Due.due("8 bits", new HeadTables().coded(8, 0), 0);
    }

    private static void codedChangesNothing() {
        Due.sentence("Writes an integer with the head 0, and returns its octets.");
        Due.unchanged(x -> Due.typed(x, "abc"), "coded", x -> x.coded(3, 1000000));
        HeadTables x = new HeadTables();
        Due.due("a long one", x.coded(1, 2147483647), 0x1feffffff07L);
        Due.due("a short one behind a long one", x.coded(1, 0), 0);
    }

    // ---- promise 27

    private static HeadTables octets(int... octets) {
        HeadTables x = new HeadTables();
        for (int octet : octets) {
            x.type(octet);
        }
        return x;
    }

    private static int read(int bits, int... octets) {
        return octets(octets).number(bits);
    }

    private static void upperBits() {
        Due.sentence("The upper bits of the first octet, those above the prefix, do not matter");
        for (int first = 0; first < 256; first++) {
            for (int bits = 1; bits <= 8; bits++) {
                int m = (1 << bits) - 1;
                int low = first % (m + 1);
                Due.due(first + " alone in " + bits, read(bits, first), low < m ? low : Due.STATE);
                Due.due(first + " and a group in " + bits, read(bits, first, 5), low < m ? Due.STATE : m + 5);
            }
        }
    }

    private static void moreGroupsThanNecessary() {
        Due.sentence("more groups of 7 bits than necessary are allowed.");
        Due.due("as many as necessary", read(5, 31, 5), 36);
        Due.due("one more", read(5, 31, 133, 0), 36);
        Due.due("two more", read(5, 31, 133, 128, 0), 36);
        Due.due("six groups", read(5, 31, 133, 128, 128, 128, 128, 0), 36);
        Due.due("seven groups", read(5, 31, 133, 128, 128, 128, 128, 128, 0), 36);
        Due.due("greatest and one more", read(1, 1, 254, 255, 255, 255, 135, 0), 2147483647);
        Due.due("greatest and two more", read(1, 1, 254, 255, 255, 255, 135, 128, 0), 2147483647);
        for (int n : new int[] {9, 10, 11, 12, 40, 100, 198, 199, 200}) {
            int[] all = new int[n];
            Arrays.fill(all, 128);
            all[0] = 255;
            all[n - 1] = 0;
            Due.due(n + " octets", read(8, all), 255);
            all[1] = 129;
            Due.due(n + " octets", read(8, all), 256);
        }
    }

    private static void endsTooEarly() {
        Due.sentence("STATE if the text ends before the integer ends, or there are octets behind it");
        Due.due("nothing", read(5), Due.STATE);
        for (int bits = 1; bits <= 8; bits++) {
            int m = (1 << bits) - 1;
            Due.due("m", read(bits, m), Due.STATE);
            Due.due("m and a group that goes on", read(bits, m, 128), Due.STATE);
            Due.due("m and a group that goes on", read(bits, m, 255), Due.STATE);
            Due.due("m and two groups that go on", read(bits, m, 128, 129), Due.STATE);
            Due.due("m and a group", read(bits, m, 127), m + 127);
        }
        int[] all = new int[200];
        Arrays.fill(all, 128);
        all[0] = 255;
        Due.due("200 octets", read(8, all), Due.STATE);
    }

    private static void octetsBehind() {
        Due.sentence("STATE if the text ends before the integer ends, or there are octets behind it");
        for (int bits = 1; bits <= 8; bits++) {
            int m = (1 << bits) - 1;
            Due.due("m - 1 and an octet", read(bits, m - 1, 0), Due.STATE);
            Due.due("m - 1 and an octet that goes on", read(bits, m - 1, 128), Due.STATE);
            Due.due("a group and an octet", read(bits, m, 0, 0), Due.STATE);
            Due.due("a group and an octet that goes on", read(bits, m, 127, 128), Due.STATE);
            Due.due("two groups and an octet", read(bits, m, 128, 1, 0), Due.STATE);
            Due.due("two groups", read(bits, m, 128, 1), m + 128);
        }
        int[] all = new int[200];
        Arrays.fill(all, 128);
        all[0] = 255;
        all[198] = 0;
        Due.due("200 octets", read(8, all), Due.STATE);
    }

    private static void greatestToRead() {
        Due.sentence("FULL if the integer is above 2147483647.");
        for (int bits = 1; bits <= 8; bits++) {
            dueRead(bits, 2147483646L);
            dueRead(bits, 2147483647L);
            dueRead(bits, 2147483648L);
            dueRead(bits, 2147483649L);
            dueRead(bits, 4294967295L);
            dueRead(bits, 4294967296L);
            dueRead(bits, 4294967297L);
            dueRead(bits, 4294967296L + 300);
            dueRead(bits, 1L << 35);
            dueRead(bits, (1L << 35) + 300);
            dueRead(bits, 1L << 42);
            dueRead(bits, Long.MAX_VALUE);
        }
    }

    private static void dueRead(int bits, long v) {
        HeadTables x = new HeadTables();
        long m = (1L << bits) - 1;
        x.type((int) m);
        long rest = v - m;
        while (rest >= 128) {
            x.type((int) (128 + rest % 128));
            rest /= 128;
        }
        x.type((int) rest);
        Due.due("number " + bits + " of " + v, x.number(bits), v <= Due.MOST ? v : Due.FULL);
    }

    /** 1 in each group alone, so that no sum or shift may wrap around: the groups of a text of 200 octets. */
    private static void eachGroup() {
        Due.sentence("FULL if the integer is above 2147483647.");
        for (int group = 0; group < 199; group++) {
            for (int value : new int[] {1, 2, 8, 16, 64, 127}) {
                int[] all = new int[group + 2];
                Arrays.fill(all, 128);
                all[0] = 3;
                all[group + 1] = value;
                BigInteger v = BigInteger.valueOf(value).shiftLeft(7 * group).add(BigInteger.valueOf(3));
                Due.due(value + " in group " + group, read(2, all), v.bitLength() <= 31 ? v.intValue() : Due.FULL);
            }
        }
        Due.due("a great group, and groups of 0 behind it", read(2, 3, 128, 128, 128, 128, 128, 129, 128, 0), Due.FULL);
        Due.due("two great groups", read(2, 3, 128, 128, 128, 128, 128, 129, 129, 1), Due.FULL);
        int[] all = new int[200];
        Arrays.fill(all, 255);
        all[199] = 127;
        Due.due("199 groups of 127", read(8, all), Due.FULL);
    }

    private static void numberRefused() {
        Due.sentence("BAD if bits is out of range; STATE if the text ends before the integer ends, or there are octets behind it; FULL if the "
            + "integer is above 2147483647.");
        for (int bits : new int[] {0, -1, 9, 10, 32, Due.LEAST, Due.MOST}) {
            Due.refused(x -> Due.typed(x, "a"), "number " + bits, x -> x.number(bits), Due.BAD);
            Due.refused(x -> { }, "BAD before STATE, of no text", x -> x.number(bits), Due.BAD);
            Due.refused(x -> Due.typed(x, "\u00ff"), "BAD before STATE, too early", x -> x.number(bits), Due.BAD);
            Due.refused(x -> Due.typed(x, "\u00ff\u00ff\u00ff\u00ff\u00ff\u00ff\u0001"), "BAD before FULL", x -> x.number(bits), Due.BAD);
        }
        Due.refused(x -> { }, "number of no text", x -> x.number(8), Due.STATE);
        Due.refused(x -> Due.typed(x, "\u00ff\u00ff"), "number that ends too early", x -> x.number(8), Due.STATE);
        Due.refused(x -> Due.typed(x, "\u0001\u0001"), "number with octets behind", x -> x.number(8), Due.STATE);
        Due.refused(x -> Due.typed(x, "\u00ff\u0081\u00fe\u00ff\u00ff\u0007"), "number that is too great", x -> x.number(8), Due.FULL);
        Due.sentence("If several of them apply to a call, the first one in this order is returned.");
        String great = "\u0001\u00ff\u00ff\u00ff\u00ff\u00ff\u00ff";
        Due.refused(x -> Due.typed(x, great), "STATE before FULL, too early", x -> x.number(1), Due.STATE);
        Due.refused(x -> Due.typed(x, great + "\u0001\u0001"), "STATE before FULL, octets behind", x -> x.number(1), Due.STATE);
        Due.refused(x -> Due.typed(x, great + "\u0001"), "FULL alone", x -> x.number(1), Due.FULL);
    }

    private static void numberChangesNothing() {
        Due.sentence("Reads the text as the octets of one integer with a prefix of some bits.");
        Due.unchanged(x -> Due.typed(x, "\u00ff\u0080\u0001"), "number", x -> x.number(8));
        Due.due("1 bit", read(1, 0), 0);
        Due.due("8 bits", read(8, 0), 0);
    }

    private static void readsWhatIsCoded() {
        Due.sentence("To write an integer v with a head h and a prefix of b bits (h is a multiple of 2^b, and m is 2^b - 1)");
        for (int bits = 1; bits <= 8; bits++) {
            for (long v = 0; v <= Due.MOST; v = v < 300 ? v + 1 : v * 3 / 2) {
                long coded = new HeadTables().coded(bits, (int) v);
                HeadTables x = new HeadTables();
                int octets = 1;
                while (octets < 8 && coded >> 8 * octets != 0) {
                    octets++;
                }
                for (int i = octets - 1; i >= 0; i--) {
                    x.type((int) (coded >> 8 * i & 255));
                }
                Due.due("number of coded " + bits + " " + v, x.number(bits), v);
            }
        }
    }
}
