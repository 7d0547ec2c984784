import java.util.ArrayList;
import java.util.HashSet;
import java.util.List;
import java.util.Set;
import java.util.TreeMap;
import java.util.TreeSet;

/**
 * A second program of the document, in the plainest form: texts, lists and copies of everything. Its
 * decoder reads the octets of the streams and of the sections, and knows nothing else of the encoder.
 */
final class Model {
    static final int BAD = -1, STATE = -2, FULL = -3, NONE = -9;

    record Pair(String name, String value) {
        int size() {
            return name.length() + value.length() + 4;
        }
    }

    static final class Dynamic {
        TreeMap<Integer, Pair> there = new TreeMap<>();
        int count = 0;
        int capacity = 0;

        int sum() {
            return there.values().stream().mapToInt(Pair::size).sum();
        }

        Dynamic copy() {
            Dynamic d = new Dynamic();
            d.there.putAll(there);
            d.count = count;
            d.capacity = capacity;
            return d;
        }

        /** Evicts one by one; answers the places, or null if one of them is not in the set. */
        List<Integer> evict(int limit, Set<Integer> allowed) {
            List<Integer> gone = new ArrayList<>();
            while (sum() > limit) {
                int place = there.firstKey();
                if (allowed != null && !allowed.contains(place)) {
                    return null;
                }
                there.remove(place);
                gone.add(place);
            }
            return gone;
        }
    }

    static final class Section {
        List<Integer> fields = new ArrayList<>();
        List<Integer> octets = new ArrayList<>();
        Set<Integer> refers = new HashSet<>();
        int base, delivered, state;
        boolean settled;
        List<Integer> decoded = new ArrayList<>();

        int required() {
            return refers.stream().mapToInt(p -> p + 1).max().orElse(0);
        }
    }

    List<Pair> fields = new ArrayList<>();
    List<Pair> stills = new ArrayList<>();
    int most = 60, limit = 2;
    List<Integer> text = new ArrayList<>();
    List<Integer> draft = new ArrayList<>();
    Dynamic encoder = new Dynamic(), decoder = new Dynamic();
    List<Integer> instructions = new ArrayList<>(), halves = new ArrayList<>(), replies = new ArrayList<>();
    List<Section> sections = new ArrayList<>();
    Section open = null;
    int known = 0, reported = 0;

    // ---- integers

    static List<Integer> integer(int head, int bits, int v) {
        List<Integer> all = new ArrayList<>();
        int m = (int) Math.pow(2, bits) - 1;
        if (v < m) {
            all.add(head + v);
            return all;
        }
        all.add(head + m);
        v -= m;
        while (v > 127) {
            all.add(v % 128 + 128);
            v /= 128;
        }
        all.add(v);
        return all;
    }

    static List<Integer> string(int head, int bits, String s) {
        List<Integer> all = integer(head, bits, s.length());
        s.chars().forEach(all::add);
        return all;
    }

    /** Reads octets one after the other; throws TooShort at their end. */
    static final class Source {
        static final class TooShort extends RuntimeException {
        }

        final List<Integer> octets;
        int at = 0;

        Source(List<Integer> octets) {
            this.octets = octets;
        }

        int peek() {
            if (at >= octets.size()) {
                throw new TooShort();
            }
            return octets.get(at);
        }

        int next() {
            int o = peek();
            at++;
            return o;
        }

        java.math.BigInteger big(int bits) {
            int m = (int) Math.pow(2, bits) - 1;
            int first = next() % (m + 1);
            if (first < m) {
                return java.math.BigInteger.valueOf(first);
            }
            java.math.BigInteger sum = java.math.BigInteger.valueOf(m);
            java.math.BigInteger unit = java.math.BigInteger.ONE;
            while (true) {
                int o = next();
                sum = sum.add(unit.multiply(java.math.BigInteger.valueOf(o % 128)));
                unit = unit.shiftLeft(7);
                if (o < 128) {
                    return sum;
                }
            }
        }

        int integer(int bits) {
            return big(bits).intValueExact();
        }

        String string(int bits) {
            int n = integer(bits);
            StringBuilder s = new StringBuilder();
            for (int i = 0; i < n; i++) {
                s.append((char) next());
            }
            return s.toString();
        }
    }

    // ---- the text

    int type(int letter) {
        if (letter < 0 || letter > 255) return BAD;
        if (text.size() == 200) return FULL;
        text.add(letter);
        return text.size();
    }

    int clear() {
        int had = text.size();
        text.clear();
        return had;
    }

    record Token(String what, int at) {
    }

    List<Token> tokens() {
        StringBuilder s = new StringBuilder();
        text.forEach(o -> s.append((char) (int) o));
        List<Token> all = new ArrayList<>();
        java.util.regex.Matcher m = java.util.regex.Pattern.compile("[a-z0-9]+|[^ ]", java.util.regex.Pattern.DOTALL).matcher(s);
        while (m.find()) {
            all.add(new Token(m.group(), m.start()));
        }
        all.add(new Token("", s.length()));
        return all;
    }

    int tells() {
        Model fresh = new Model();
        List<Token> all = tokens();
        int i = 0, items = 0, tables = 0, blockeds = 0;
        while (!all.get(i).what.isEmpty()) {
            Token word = all.get(i);
            String[] forms;
            switch (word.what) {
                case "table" -> forms = new String[] {"0|[1-9][0-9]?|1[0-9][0-9]|200", ";"};
                case "blocked" -> forms = new String[] {"[0-9]", ";"};
                case "still", "field" -> forms = new String[] {"[a-z]{1,6}", "=", "[a-z0-9]{1,6}|;", ";"};
                default -> {
                    return -10 - word.at;
                }
            }
            if (word.what.equals("table") && tables++ > 0 || word.what.equals("blocked") && blockeds++ > 0
                    || word.what.equals("still") && fresh.stills.size() == 8
                    || word.what.equals("field") && fresh.fields.size() == 7) {
                return -10 - word.at;
            }
            i++;
            List<String> got = new ArrayList<>();
            for (String form : forms) {
                Token t = all.get(i);
                if (!t.what.matches(form)) return -10 - t.at;
                boolean ends = t.what.equals(";");
                if (ends && forms.length == 4) {
                    Pair p = new Pair(got.get(0), got.size() == 2 ? "" : got.get(2));
                    if (word.what.equals("still")) {
                        fresh.stills.add(p);
                    } else {
                        if (fresh.fields.contains(p)) return -10 - t.at;
                        fresh.fields.add(p);
                    }
                }
                got.add(t.what);
                i++;
                if (ends) break;
            }
            if (word.what.equals("table")) fresh.most = Integer.parseInt(got.get(0));
            if (word.what.equals("blocked")) fresh.limit = Integer.parseInt(got.get(0));
            items++;
        }
        become(fresh);
        return items;
    }

    void become(Model m) {
        fields = m.fields;
        stills = m.stills;
        most = m.most;
        limit = m.limit;
        text = m.text;
        draft = m.draft;
        encoder = m.encoder;
        decoder = m.decoder;
        instructions = m.instructions;
        halves = m.halves;
        replies = m.replies;
        sections = m.sections;
        known = m.known;
        reported = m.reported;
    }

    int spells(int sort, int k, int part, int i) {
        if (!Set.of(0, 1).contains(sort) || !Set.of(0, 1).contains(part) || i < -1) return BAD;
        List<Pair> from = sort == 0 ? fields : stills;
        if (k < 0 || k >= from.size()) return BAD;
        String s = part == 0 ? from.get(k).name : from.get(k).value;
        return i == -1 ? s.length() : i < s.length() ? s.charAt(i) : NONE;
    }

    // ---- the writer

    boolean held(int place) {
        return sections.stream().anyMatch(s -> !s.settled && s.refers.contains(place))
            || open != null && open.refers.contains(place);
    }

    Set<Integer> canGo() {
        Set<Integer> all = new TreeSet<>();
        for (int place : encoder.there.keySet()) {
            if (place < known && !held(place)) all.add(place);
        }
        return all;
    }

    int capacity(int n) {
        if (n < 0 || n > most) return BAD;
        Dynamic after = encoder.copy();
        List<Integer> gone = after.evict(n, canGo());
        if (n == encoder.capacity || gone == null) return STATE;
        List<Integer> octets = integer(32, 5, n);
        if (instructions.size() + octets.size() > 200) return FULL;
        instructions.addAll(octets);
        after.capacity = n;
        encoder = after;
        return gone.size();
    }

    int insert(Pair pair, List<Integer> octets) {
        if (pair.size() > encoder.capacity) return STATE;
        Dynamic after = encoder.copy();
        if (after.evict(encoder.capacity - pair.size(), canGo()) == null) return STATE;
        if (instructions.size() + octets.size() > 200) return FULL;
        instructions.addAll(octets);
        after.there.put(after.count++, pair);
        encoder = after;
        return after.count - 1;
    }

    int namedStill(String name) {
        return stills.stream().map(Pair::name).toList().indexOf(name);
    }

    int inserts(int field) {
        if (field < 0 || field >= fields.size()) return BAD;
        Pair f = fields.get(field);
        int named = encoder.there.keySet().stream().filter(p -> encoder.there.get(p).name.equals(f.name))
            .mapToInt(p -> p).max().orElse(-1);
        List<Integer> octets;
        if (namedStill(f.name) >= 0) {
            octets = integer(192, 6, namedStill(f.name));
        } else if (named >= 0) {
            octets = integer(128, 6, encoder.count - 1 - named);
        } else {
            octets = string(64, 5, f.name);
        }
        octets.addAll(string(0, 7, f.value));
        return insert(f, octets);
    }

    int repeats(int place) {
        if (!encoder.there.containsKey(place)) return BAD;
        return insert(encoder.there.get(place), integer(0, 5, encoder.count - 1 - place));
    }

    int puts(int field) {
        if (field < 0 || field >= fields.size()) return BAD;
        if (draft.size() == 6) return FULL;
        draft.add(field);
        return draft.size();
    }

    int takes() {
        return draft.isEmpty() ? STATE : draft.remove(draft.size() - 1);
    }

    int risk() {
        return (int) sections.stream().filter(s -> !s.settled && s.required() > known).count();
    }

    List<Integer> candidates(boolean any) {
        List<Integer> places = new ArrayList<>(encoder.there.descendingKeySet());
        if (!any) places.removeIf(p -> p >= known);
        return places;
    }

    List<Integer> reference(int place, int base, int h1, int b1, int h2, int b2) {
        open.refers.add(place);
        return place < base ? integer(h1, b1, base - 1 - place) : integer(h2, b2, place - base);
    }

    Section encode(int way) {
        boolean any = way != 0 && risk() < limit;
        open = new Section();
        Section s = open;
        s.base = encoder.count;
        s.fields.addAll(draft);
        List<Integer> body = new ArrayList<>();
        for (int k : draft) {
            Pair f = fields.get(k);
            if (stills.contains(f)) {
                body.addAll(integer(192, 6, stills.indexOf(f)));
                continue;
            }
            int like = candidates(any).stream().filter(p -> encoder.there.get(p).equals(f)).findFirst().orElse(-1);
            if (like < 0 && any && way == 2) like = inserts(k);
            if (like >= 0) {
                body.addAll(reference(like, s.base, 128, 6, 16, 4));
                continue;
            }
            int named = candidates(any).stream().filter(p -> encoder.there.get(p).name.equals(f.name)).findFirst().orElse(-1);
            if (namedStill(f.name) >= 0) {
                body.addAll(integer(80, 4, namedStill(f.name)));
            } else if (named >= 0) {
                body.addAll(reference(named, s.base, 64, 4, 0, 3));
            } else {
                body.addAll(string(32, 3, f.name));
            }
            body.addAll(string(0, 7, f.value));
        }
        int required = s.required();
        s.octets.addAll(integer(0, 8, required == 0 ? 0 : required % (2 * (most / 4)) + 1));
        if (required == 0) {
            s.octets.addAll(integer(0, 7, 0));
        } else if (s.base >= required) {
            s.octets.addAll(integer(0, 7, s.base - required));
        } else {
            s.octets.addAll(integer(128, 7, required - s.base - 1));
        }
        s.octets.addAll(body);
        open = null;
        return s;
    }

    int sends(int way) {
        if (way < 0 || way > 2) return BAD;
        if (sections.size() == 40) return FULL;
        sections.add(encode(way));
        draft.clear();
        return sections.size() - 1;
    }

    int cost(int way) {
        if (way < 0 || way > 2) return BAD;
        Dynamic before = encoder;
        List<Integer> waiting = new ArrayList<>(instructions);
        Section s = encode(way);
        int cost = s.octets.size() + instructions.size() - waiting.size();
        instructions = waiting;
        encoder = before;
        return cost;
    }

    int loose() {
        Set<Integer> can = canGo();
        int n = 0;
        for (int place : encoder.there.keySet()) {
            if (!can.contains(place)) break;
            n++;
        }
        return n;
    }

    // ---- what comes

    /** Carries out what has been delivered, if it is a whole instruction. */
    boolean carryOut() {
        Source in = new Source(halves);
        try {
            int head = in.peek();
            Pair pair = null;
            int capacity = -1;
            if (head >= 192) {
                String name = stills.get(in.integer(6)).name;
                pair = new Pair(name, in.string(7));
            } else if (head >= 128) {
                String name = decoder.there.get(decoder.count - 1 - in.integer(6)).name;
                pair = new Pair(name, in.string(7));
            } else if (head >= 64) {
                String name = in.string(5);
                pair = new Pair(name, in.string(7));
            } else if (head >= 32) {
                capacity = in.integer(5);
            } else {
                pair = decoder.there.get(decoder.count - 1 - in.integer(5));
            }
            if (pair == null) {
                decoder.evict(capacity, null);
                decoder.capacity = capacity;
            } else {
                decoder.evict(decoder.capacity - pair.size(), null);
                decoder.there.put(decoder.count++, pair);
            }
            if (in.at != halves.size()) throw new IllegalStateException("octets behind an instruction");
            halves.clear();
            return true;
        } catch (Source.TooShort e) {
            return false;
        }
    }

    int feeds(int n) {
        if (n < 1 || n > 99) return BAD;
        int done = 0;
        for (int i = 0; i < n && !instructions.isEmpty(); i++) {
            halves.add(instructions.remove(0));
            if (carryOut()) {
                done++;
                for (int k : blocked()) {
                    tryToDecode(k);
                }
            }
        }
        return done;
    }

    List<Integer> blocked() {
        List<Integer> all = new ArrayList<>();
        for (int k = 0; k < sections.size(); k++) {
            if (sections.get(k).state == 1) all.add(k);
        }
        all.sort((a, b) -> sections.get(a).required() != sections.get(b).required()
            ? sections.get(a).required() - sections.get(b).required() : a - b);
        return all;
    }

    /** The required count from its octets, as the decoder can tell it. */
    int requiredFrom(Source in) {
        int told = in.integer(8);
        if (told == 0) return 0;
        int span = most / 4;
        int found = -1;
        for (int r = Math.max(1, decoder.count - span + 1); r <= decoder.count + span; r++) {
            if (r % (2 * span) + 1 == told) found = r;
        }
        return found;
    }

    Pair decodeField(Source in, int base) {
        int head = in.peek();
        if (head >= 192) return stills.get(in.integer(6));
        if (head >= 128) return decoder.there.get(base - 1 - in.integer(6));
        String name;
        if (head >= 80 && head < 96) {
            name = stills.get(in.integer(4)).name;
        } else if (head >= 64 && head < 80) {
            name = decoder.there.get(base - 1 - in.integer(4)).name;
        } else if (head >= 32 && head < 40) {
            name = in.string(3);
        } else if (head >= 16 && head < 32) {
            return decoder.there.get(base + in.integer(4));
        } else if (head < 8) {
            name = decoder.there.get(base + in.integer(3)).name;
        } else {
            throw new IllegalStateException("no such head: " + head);
        }
        return new Pair(name, in.string(7));
    }

    void tryToDecode(int k) {
        Section s = sections.get(k);
        Source in = new Source(s.octets);
        int required = requiredFrom(in);
        if (required != s.required()) throw new IllegalStateException("required " + required + ", not " + s.required());
        if (required > decoder.count) {
            s.state = 1;
            return;
        }
        boolean less = in.peek() >= 128;
        int delta = in.integer(7);
        int base = less ? required - delta - 1 : required + delta;
        while (in.at < s.octets.size()) {
            s.decoded.add(fields.indexOf(decodeField(in, base)));
        }
        s.state = 2;
        if (required > 0) {
            replies.addAll(integer(128, 7, k));
            reported = Math.max(reported, required);
        }
    }

    int gives(int k, int n) {
        if (k < 0 || k >= sections.size() || n < 1 || n > 99) return BAD;
        Section s = sections.get(k);
        if (s.state != 0) return STATE;
        s.delivered = Math.min(s.octets.size(), s.delivered + n);
        if (s.delivered == s.octets.size()) tryToDecode(k);
        return s.state;
    }

    int quits(int k) {
        if (k < 0 || k >= sections.size()) return BAD;
        Section s = sections.get(k);
        if (s.state > 1) return STATE;
        s.state = 3;
        replies.addAll(integer(64, 6, k));
        return s.delivered;
    }

    int grows() {
        int n = decoder.count - reported;
        if (n == 0) return STATE;
        if (replies.size() >= 100) return FULL;
        replies.addAll(integer(0, 6, n));
        reported = decoder.count;
        return n;
    }

    int hears(int n) {
        if (n < 1 || n > 99) return BAD;
        int done = 0;
        while (done < n && !replies.isEmpty()) {
            Source in = new Source(List.of(replies.remove(0)));
            done++;
            if (in.peek() >= 128) {
                Section s = sections.get(in.integer(7));
                s.settled = true;
                known = Math.max(known, s.required());
            } else if (in.peek() >= 64) {
                sections.get(in.integer(6)).settled = true;
            } else {
                known += in.integer(6);
            }
        }
        return done;
    }

    // ---- asked

    int table(int who, int what) {
        if (who < 0 || who > 1 || what < 0 || what > 4) return BAD;
        Dynamic d = who == 0 ? encoder : decoder;
        if (what == 4) return d.there.isEmpty() ? NONE : d.there.firstKey();
        return List.of(d.count, d.there.size(), d.sum(), d.capacity).get(what);
    }

    int entry(int who, int place, int what) {
        if (who < 0 || who > 1 || what < 0 || what > 1 || place < 0) return BAD;
        Pair p = (who == 0 ? encoder : decoder).there.get(place);
        if (p == null) return NONE;
        return what == 0 ? p.size() : fields.indexOf(p);
    }

    long holds(int place) {
        if (!encoder.there.containsKey(place)) return BAD;
        long bits = 0;
        for (int k = 0; k < sections.size(); k++) {
            Section s = sections.get(k);
            if (!s.settled && s.refers.contains(place)) bits += (long) Math.pow(2, k);
        }
        return bits;
    }

    int letter(int k, int what) {
        if (k < 0 || k >= sections.size() || what < 0 || what > 6) return BAD;
        Section s = sections.get(k);
        return List.of(s.octets.size(), s.required(), s.base, s.delivered, s.state, s.settled ? 1 : 0, s.fields.size()).get(what);
    }

    int got(int k, int i) {
        if (k < 0 || k >= sections.size() || i < 0 || i >= sections.get(k).fields.size()) return BAD;
        return sections.get(k).state == 2 ? sections.get(k).decoded.get(i) : STATE;
    }

    int waits(int i) {
        if (i < 0) return BAD;
        return i < blocked().size() ? blocked().get(i) : NONE;
    }

    int octet(int row, int i) {
        if (i < 0 || row < 0 || row > 41 || row < 40 && row >= sections.size()) return BAD;
        List<Integer> from = row == 40 ? instructions : row == 41 ? replies : sections.get(row).octets;
        return i < from.size() ? from.get(i) : NONE;
    }

    long coded(int bits, int v) {
        if (bits < 1 || bits > 8 || v < 0) return BAD;
        long whole = 0;
        for (int o : integer(0, bits, v)) {
            whole = whole * 256 + o;
        }
        return whole;
    }

    int number(int bits) {
        if (bits < 1 || bits > 8) return BAD;
        Source in = new Source(text);
        try {
            java.math.BigInteger v = in.big(bits);
            if (in.at < text.size()) return STATE;
            return v.bitLength() > 31 ? FULL : v.intValueExact();
        } catch (Source.TooShort e) {
            return STATE;
        }
    }

    int count(int what) {
        if (what < 0 || what > 12) return BAD;
        return new int[] {fields.size(), stills.size(), most, limit, known, reported, sections.size(), blocked().size(),
            risk(), instructions.size(), replies.size(), draft.size(), text.size()}[what];
    }
}
