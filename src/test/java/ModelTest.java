import java.util.ArrayList;
import java.util.List;
import java.util.Random;

/** Random runs of calls on HeadTables and on the model: all answers are equal. The seeds are fixed. */
public final class ModelTest {
    /** The document promises nothing behind these. */
    private static final int CALLS = 512;
    /** So that a text of 200 octets can still be told, and something be asked. */
    private static final int CALLS_BEFORE_A_TEXT = 250;

    private static Random random;
    private static HeadTables x;
    private static Model m;
    /** The calls on x that change something, and how many calls have been made on it. */
    private static final List<Due.Call> done = new ArrayList<>();
    private static int used;
    private static final StringBuilder log = new StringBuilder();

    public static void main(String[] args) {
        int runs = args.length > 0 ? Integer.parseInt(args[0]) : 400;
        for (int seed = 0; seed < runs; seed++) {
            run(seed);
        }
        Due.finish();
    }

    /** A call that may change something. */
    private static void both(String name, Due.Call call, long want) {
        log.append(name).append(" = ").append(want).append('\n');
        ask(name, call, want);
        done.add(call);
    }

    /** A call that changes nothing: it is not made again. */
    private static void ask(String name, Due.Call call, long want) {
        if (used >= CALLS) {
            makeAgain();
        }
        used++;
        same(name, call.on(x), want);
    }

    /** A new object, and on it all calls that change something. */
    private static void makeAgain() {
        x = new HeadTables();
        for (Due.Call call : done) {
            call.on(x);
        }
        used = done.size();
    }

    private static void same(String name, long got, long want) {
        Due.due(name, got, want);
        if (got != want) {
            System.out.println(log);
            Due.finish();
        }
    }

    private static int to(int below) {
        return random.nextInt(below);
    }

    private static boolean often(int percent) {
        return to(100) < percent;
    }

    private static void run(int seed) {
        random = new Random(seed);
        x = new HeadTables();
        m = new Model();
        done.clear();
        used = 0;
        log.setLength(0);
        log.append("seed ").append(seed).append('\n');
        tell();
        int calls = done.size() + 60 + to(300);
        int sluggish = to(3);
        for (int i = 1; done.size() < Math.min(calls, CALLS - 60); i++) {
            call(sluggish);
            if (i % 48 == 0) {
                sweep();
            }
        }
        sweep();
    }

    private static String word(String signs, int least, int most) {
        StringBuilder s = new StringBuilder();
        int n = often(80) ? Math.min(most, least + to(2)) : least + to(most - least + 1);
        for (int i = 0; i < n; i++) {
            s.append(signs.charAt(to(signs.length())));
        }
        return s.toString();
    }

    private static String text() {
        StringBuilder s = new StringBuilder();
        if (often(85)) {
            s.append("table ").append(often(30) ? 200 : often(50) ? 10 + to(40) : to(202)).append(';');
        }
        if (often(70)) {
            s.append("blocked ").append(often(95) ? to(10) : 10).append(';');
        }
        int n = to(3);
        for (int i = 0; i < n; i++) {
            s.append("still ").append(word("ab", 1, 6)).append('=').append(word("12", 0, 6)).append(';');
        }
        n = often(98) ? 2 + to(6) : 9;
        for (int i = 0; i < n; i++) {
            s.append("field ").append(word("abc", 1, 6)).append('=').append(word("123", 0, 6)).append(';');
        }
        for (int i = often(75) ? 0 : 1 + to(3); i > 0; i--) {
            String odd = " ;=a1tablefield0A@\u00ff\0";
            int at = to(s.length() + 1);
            if (often(50)) {
                s.insert(at, odd.charAt(to(odd.length())));
            } else if (at < s.length()) {
                s.deleteCharAt(at);
            }
        }
        return s.toString();
    }

    /** Tells texts until one is right. */
    private static void tell() {
        for (int i = 0; i < 50 && done.size() < CALLS_BEFORE_A_TEXT; i++) {
            both("clear", HeadTables::clear, m.clear());
            String text = text();
            log.append(text).append('\n');
            for (int k = 0; k < Math.min(201, text.length()); k++) {
                int letter = text.charAt(k);
                both("type", h -> h.type(letter), m.type(letter));
            }
            int want = m.tells();
            both("tells", HeadTables::tells, want);
            if (want > 0 && m.fields.size() > 0) {
                break;
            }
        }
        if (often(90)) {
            int n = often(60) ? m.most : to(m.most + 1);
            both("capacity " + n, h -> h.capacity(n), m.capacity(n));
        }
    }

    private static int near(int size) {
        return often(3) ? -1 : to(size + (often(5) ? 2 : size == 0 ? 1 : 0));
    }

    private static void call(int sluggish) {
        switch (to(24)) {
            case 0, 1, 2, 3, 4, 5 -> {
                int a = near(m.fields.size());
                both("puts " + a, h -> h.puts(a), m.puts(a));
            }
            case 6 -> {
                if (often(30)) {
                    both("takes", HeadTables::takes, m.takes());
                }
            }
            case 7, 8, 9 -> {
                int a = near(m.fields.size());
                both("inserts " + a, h -> h.inserts(a), m.inserts(a));
            }
            case 10 -> {
                int a = m.encoder.there.isEmpty() ? near(3) : m.encoder.there.firstKey() + near(m.encoder.there.size());
                both("repeats " + a, h -> h.repeats(a), m.repeats(a));
            }
            case 11, 12, 13 -> send();
            case 14, 15 -> {
                int a = often(3) ? to(3) * 50 : 1 + to(sluggish == 0 ? 4 : 30);
                both("feeds " + a, h -> h.feeds(a), m.feeds(a));
            }
            case 16, 17, 18 -> {
                int a = near(m.sections.size());
                int b = often(3) ? to(3) * 50 : 1 + to(sluggish == 1 ? 4 : 90);
                both("gives " + a + " " + b, h -> h.gives(a, b), m.gives(a, b));
            }
            case 19 -> {
                if (often(30)) {
                    int a = near(m.sections.size());
                    both("quits " + a, h -> h.quits(a), m.quits(a));
                }
            }
            case 20 -> {
                if (sluggish != 2 || often(20)) {
                    both("grows", HeadTables::grows, m.grows());
                }
            }
            case 21, 22 -> {
                int a = often(3) ? to(3) * 50 : 1 + to(4);
                both("hears " + a, h -> h.hears(a), m.hears(a));
            }
            default -> rare();
        }
        ask("loose", HeadTables::loose, m.loose());
    }

    private static void send() {
        if (m.draft.size() <= to(5) - 1) {
            return;
        }
        for (int way = 0; way < 3; way++) {
            int each = way;
            ask("cost " + way, h -> h.cost(each), m.cost(way));
        }
        int way = often(60) ? 2 : near(3);
        both("sends " + way, h -> h.sends(way), m.sends(way));
    }

    private static void rare() {
        if (often(50)) {
            int n = often(50) ? m.most : near(m.most);
            both("capacity " + n, h -> h.capacity(n), m.capacity(n));
        } else if (often(10)) {
            tell();
        } else if (often(30)) {
            both("clear", HeadTables::clear, m.clear());
        } else {
            int n = 1 + to(7);
            for (int i = 0; i < n; i++) {
                int o = often(60) ? 128 + to(128) : to(128);
                both("type " + o, h -> h.type(o), m.type(o));
            }
            int bits = near(9);
            ask("number " + bits, h -> h.number(bits), m.number(bits));
            int v = random.nextInt() >> to(32);
            ask("coded " + bits + " " + v, h -> h.coded(bits, v), m.coded(bits, v));
        }
    }

    private interface Asked {
        long of(Model model, int a, int b);
    }

    private interface Asking {
        long of(HeadTables object, int a, int b);
    }

    /** Asks with all a and b from what is just out of range on. */
    private static void askAll(String name, int fromA, int toA, int fromB, int toB, Asking asking, Asked asked) {
        for (int i = fromA; i < toA; i++) {
            for (int k = fromB; k < toB; k++) {
                int a = i;
                int b = k;
                ask(name, h -> asking.of(h, a, b), asked.of(m, a, b));
            }
        }
    }

    private static void sweep() {
        askAll("count", -1, 14, 0, 1, (h, a, b) -> h.count(a), (h, a, b) -> h.count(a));
        askAll("table", -1, 3, -1, 6, HeadTables::table, Model::table);
        int low = Math.max(-1, m.encoder.count - 45);
        int high = m.encoder.count + 2;
        askAll("entry of the encoder", low, high, -1, 3, (h, a, b) -> h.entry(0, a, b), (h, a, b) -> h.entry(0, a, b));
        askAll("entry of the decoder", low, high, -1, 3, (h, a, b) -> h.entry(1, a, b), (h, a, b) -> h.entry(1, a, b));
        askAll("holds", low, high, 0, 1, (h, a, b) -> h.holds(a), (h, a, b) -> h.holds(a));
        int sections = m.sections.size();
        askAll("letter", -1, sections + 1, -1, 8, HeadTables::letter, Model::letter);
        askAll("got", -1, sections + 1, -1, 7, HeadTables::got, Model::got);
        askAll("waits", -1, m.blocked().size() + 1, 0, 1, (h, a, b) -> h.waits(a), (h, a, b) -> h.waits(a));
        for (int row = -1; row < 43; row++) {
            boolean there = row >= 40 && row < 42 || row >= 0 && row < sections;
            int octets = row == 40 ? m.instructions.size() : row == 41 ? m.replies.size() : there ? m.sections.get(row).octets.size() : 0;
            askAll("octet", row, row + 1, -1, octets + 1, HeadTables::octet, Model::octet);
        }
        askAll("field's name", -1, 8, -2, 7, (h, a, b) -> h.spells(0, a, 0, b), (h, a, b) -> h.spells(0, a, 0, b));
        askAll("field's value", -1, 8, -2, 7, (h, a, b) -> h.spells(0, a, 1, b), (h, a, b) -> h.spells(0, a, 1, b));
        askAll("static entry's name", -1, 9, -2, 7, (h, a, b) -> h.spells(1, a, 0, b), (h, a, b) -> h.spells(1, a, 0, b));
        askAll("static entry's value", -1, 9, -2, 7, (h, a, b) -> h.spells(1, a, 1, b), (h, a, b) -> h.spells(1, a, 1, b));
    }
}
