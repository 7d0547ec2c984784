import java.util.Random;

/** Random runs of calls on HeadTables and on the model: all answers are equal. The seeds are fixed. */
public final class ModelTest {
    private static Random random;
    private static HeadTables x;
    private static Model m;
    private static final StringBuilder log = new StringBuilder();

    public static void main(String[] args) {
        int runs = args.length > 0 ? Integer.parseInt(args[0]) : 400;
        for (int seed = 0; seed < runs; seed++) {
            run(seed);
        }
        Due.finish();
    }

    private static void same(String call, long got, long want) {
        if (call.charAt(0) != '?') {
            log.append(call).append(" = ").append(want).append('\n');
        }
        Due.due(call, got, want);
        if (got != want) {
            System.out.println(log);
            Due.finish();
        }
    }

    private static int to(int below) {
        return random.nextInt(below);
    }

    private static boolean often(int percent) {
        return to(100) < percent;
    }

    private static void run(int seed) {
        random = new Random(seed);
        x = new HeadTables();
        m = new Model();
        log.setLength(0);
        log.append("seed ").append(seed).append('\n');
        tell();
        int calls = 60 + to(240);
        int sluggish = to(3);
        for (int i = 0; i < calls; i++) {
            call(sluggish);
            if (i % 16 == 0) {
                sweep();
            }
        }
        sweep();
    }

    private static String word(String signs, int least, int most) {
        StringBuilder s = new StringBuilder();
        int n = often(80) ? Math.min(most, least + to(2)) : least + to(most - least + 1);
        for (int i = 0; i < n; i++) {
            s.append(signs.charAt(to(signs.length())));
        }
        return s.toString();
    }

    private static String text() {
        StringBuilder s = new StringBuilder();
        if (often(85)) {
            s.append("table ").append(often(30) ? 200 : often(50) ? 10 + to(40) : to(202)).append(';');
        }
        if (often(70)) {
            s.append("blocked ").append(often(95) ? to(10) : 10).append(';');
        }
        int n = to(3);
        for (int i = 0; i < n; i++) {
            s.append("still ").append(word("ab", 1, 6)).append('=').append(word("12", 0, 6)).append(';');
        }
        n = often(98) ? 2 + to(6) : 9;
        for (int i = 0; i < n; i++) {
            s.append("field ").append(word("abc", 1, 6)).append('=').append(word("123", 0, 6)).append(';');
        }
        for (int i = often(75) ? 0 : 1 + to(3); i > 0; i--) {
            String odd = " ;=a1tablefield0A@\u00ff\0";
            int at = to(s.length() + 1);
            if (often(50)) {
                s.insert(at, odd.charAt(to(odd.length())));
            } else if (at < s.length()) {
                s.deleteCharAt(at);
            }
        }
        return s.toString();
    }

    /** Tells texts until one is right. */
    private static void tell() {
        for (int i = 0; i < 50; i++) {
            same("clear", x.clear(), m.clear());
            String text = text();
            log.append(text).append('\n');
            for (int k = 0; k < text.length(); k++) {
                same("type", x.type(text.charAt(k)), m.type(text.charAt(k)));
            }
            int want = m.tells();
            same("tells", x.tells(), want);
            if (want > 0 && m.fields.size() > 0) {
                break;
            }
        }
        if (often(90)) {
            int n = often(60) ? m.most : to(m.most + 1);
            same("capacity " + n, x.capacity(n), m.capacity(n));
        }
    }

    private static int near(int size) {
        return often(3) ? -1 : to(size + (often(5) ? 2 : size == 0 ? 1 : 0));
    }

    private static void call(int sluggish) {
        int a;
        int b;
        switch (to(24)) {
            case 0, 1, 2, 3, 4, 5:
                a = near(m.fields.size());
                same("puts " + a, x.puts(a), m.puts(a));
                break;
            case 6:
                if (often(30)) {
                    same("takes", x.takes(), m.takes());
                }
                break;
            case 7, 8, 9:
                a = near(m.fields.size());
                same("inserts " + a, x.inserts(a), m.inserts(a));
                break;
            case 10:
                a = m.encoder.there.isEmpty() ? near(3) : m.encoder.there.firstKey() + near(m.encoder.there.size());
                same("repeats " + a, x.repeats(a), m.repeats(a));
                break;
            case 11, 12, 13:
                if (m.draft.size() > to(5) - 1) {
                    for (int way = 0; way < 3; way++) {
                        same("cost " + way, x.cost(way), m.cost(way));
                    }
                    a = often(60) ? 2 : near(3);
                    same("sends " + a, x.sends(a), m.sends(a));
                }
                break;
            case 14, 15:
                a = often(3) ? to(3) * 50 : 1 + to(sluggish == 0 ? 4 : 30);
                same("feeds " + a, x.feeds(a), m.feeds(a));
                break;
            case 16, 17, 18:
                a = near(m.sections.size());
                b = often(3) ? to(3) * 50 : 1 + to(sluggish == 1 ? 4 : 90);
                same("gives " + a + " " + b, x.gives(a, b), m.gives(a, b));
                break;
            case 19:
                if (often(30)) {
                    a = near(m.sections.size());
                    same("quits " + a, x.quits(a), m.quits(a));
                }
                break;
            case 20:
                if (sluggish != 2 || often(20)) {
                    same("grows", x.grows(), m.grows());
                }
                break;
            case 21, 22:
                a = often(3) ? to(3) * 50 : 1 + to(4);
                same("hears " + a, x.hears(a), m.hears(a));
                break;
            default:
                rare();
                break;
        }
        same("loose", x.loose(), m.loose());
    }

    private static void rare() {
        if (often(50)) {
            int n = often(50) ? m.most : near(m.most);
            same("capacity " + n, x.capacity(n), m.capacity(n));
        } else if (often(10)) {
            tell();
        } else if (often(30)) {
            same("clear", x.clear(), m.clear());
        } else {
            int n = 1 + to(7);
            for (int i = 0; i < n; i++) {
                int o = often(60) ? 128 + to(128) : to(128);
                same("type " + o, x.type(o), m.type(o));
            }
            int bits = near(9);
            same("number " + bits, x.number(bits), m.number(bits));
            int v = random.nextInt() >> to(32);
            same("coded " + bits + " " + v, x.coded(bits, v), m.coded(bits, v));
        }
    }

    private static void sweep() {
        for (int what = -1; what < 14; what++) {
            same("?count " + what, x.count(what), m.count(what));
        }
        for (int who = 0; who < 2; who++) {
            for (int what = 0; what < 5; what++) {
                same("?table " + who + " " + what, x.table(who, what), m.table(who, what));
            }
            int low = Math.max(-1, m.encoder.count - 45);
            for (int place = low; place < m.encoder.count + 2; place++) {
                same("?entry " + place, x.entry(who, place, 0), m.entry(who, place, 0));
                same("?entry " + place, x.entry(who, place, 1), m.entry(who, place, 1));
                same("?holds " + place, x.holds(place), m.holds(place));
            }
        }
        for (int k = -1; k < 43; k++) {
            for (int what = 0; what < 8; what++) {
                same("?letter " + k + " " + what, x.letter(k, what), m.letter(k, what));
            }
            for (int i = -1; i < 7; i++) {
                same("?got " + k + " " + i, x.got(k, i), m.got(k, i));
            }
            for (int i = -1; i < 2 || m.octet(k, i - 1) >= 0; i++) {
                same("?octet " + k + " " + i, x.octet(k, i), m.octet(k, i));
            }
            same("?waits " + k, x.waits(k), m.waits(k));
        }
        for (int k = -1; k < 9; k++) {
            for (int i = -2; i < 7; i++) {
                for (int sort = 0; sort < 4; sort++) {
                    same("?spells", x.spells(sort % 2, k, sort / 2, i), m.spells(sort % 2, k, sort / 2, i));
                }
            }
        }
    }
}
