/**
 * Compression of header fields with a dynamic table that is kept by a separate stream of
 * instructions: an encoder (writer) and a decoder (reader) with equal tables that are updated
 * at different times, and encoded sections (letters) that refer to entries of the table.
 */
public final class HeadTables {
    public static final int BAD = -1, STATE = -2, FULL = -3, NONE = -9;

    private static final int TEXT_LIMIT = 200;
    private static final int FIELD_LIMIT = 7;
    private static final int STILL_LIMIT = 8;
    private static final int WORD_LIMIT = 6;
    private static final int DRAFT_LIMIT = 6;
    private static final int LETTER_LIMIT = 40;
    private static final int STREAM_LIMIT = 200;
    private static final int GROWN_LIMIT = 100;
    private static final int DELIVERY_LIMIT = 99;
    private static final int CAPACITY_LIMIT = 200;
    private static final int BLOCKED_LIMIT = 9;
    private static final int FIRST_CAPACITY = 60;
    private static final int FIRST_BLOCKED = 2;
    private static final int ENTRY_EXTRA = 4;
    private static final int GREATEST = 2147483647;

    /** Six fields, each at most 14 octets, and two integers of one octet: 86. */
    private static final int LETTER_OCTETS = 96;
    /** Below 100 when something is grown, and one for each letter besides: 140. */
    private static final int REPLY_OCTETS = 160;

    private static final int INSTRUCTION_ROW = 40;
    private static final int REPLY_ROW = 41;

    private static final int DELIVERING = 0, BLOCKED = 1, DECODED = 2, CANCELLED = 3;

    private final Row text;
    private final Row draft;
    private final Row scratch;
    private final Parser parser;
    private final Letters letters;
    private final Writer writer;
    private final Reader reader;
    private final Writer trial;
    private final Letter trialLetter;
    private Settings settings;
    private Settings spare;

    public HeadTables() {
        text = new Row(TEXT_LIMIT);
        draft = new Row(DRAFT_LIMIT);
        scratch = new Row(8);
        parser = new Parser(text);
        settings = new Settings();
        spare = new Settings();
        letters = new Letters();
        writer = new Writer(settings);
        reader = new Reader();
        trial = new Writer(settings);
        // A number that no letter has: what the trial holds is told from what the letters hold.
        trialLetter = new Letter(LETTER_LIMIT);
    }

    private void restart() {
        text.empty();
        draft.empty();
        letters.size = 0;
        writer.restart(settings);
        reader.restart();
    }

    // ---- what is told

    public int type(int letter) {
        if (letter < 0 || letter > 255) {
            return BAD;
        }
        return text.add(letter) ? text.size : FULL;
    }

    public int clear() {
        int had = text.size;
        text.empty();
        return had;
    }

    public int tells() {
        if (!parser.reads(spare)) {
            return -10 - parser.start;
        }
        Settings old = settings;
        settings = spare;
        spare = old;
        restart();
        return parser.items;
    }

    public int spells(int sort, int k, int part, int i) {
        if (sort < 0 || sort > 1 || part < 0 || part > 1 || i < -1) {
            return BAD;
        }
        Pair pair = sort == 0 ? settings.fields.at(k) : settings.stills.at(k);
        if (pair == null) {
            return BAD;
        }
        Row word = part == 0 ? pair.name : pair.value;
        return i == -1 ? word.size : word.at(i);
    }

    // ---- the writer

    public int capacity(int n) {
        return writer.changeCapacity(n);
    }

    public int inserts(int field) {
        return writer.insertField(field);
    }

    public int repeats(int place) {
        return writer.repeatEntry(place);
    }

    public int puts(int field) {
        if (settings.fields.at(field) == null) {
            return BAD;
        }
        return draft.add(field) ? draft.size : FULL;
    }

    public int takes() {
        return draft.size == 0 ? STATE : draft.removeLast();
    }

    public int sends(int way) {
        if (way < 0 || way > 2) {
            return BAD;
        }
        Letter next = letters.next();
        if (next == null) {
            return FULL;
        }
        next.begin(draft);
        writer.encode(next, mayReferToAny(way), way == 2);
        letters.size++;
        draft.empty();
        return next.number;
    }

    public int cost(int way) {
        if (way < 0 || way > 2) {
            return BAD;
        }
        trial.copyOf(writer);
        trialLetter.begin(draft);
        trial.encode(trialLetter, mayReferToAny(way), way == 2);
        int written = trial.stream.waiting.size - writer.stream.waiting.size;
        return trialLetter.octets.size + written;
    }

    private boolean mayReferToAny(int way) {
        return way > 0 && letters.atRisk(writer.known) < settings.blocking;
    }

    public int loose() {
        return writer.table.evictable(writer.known);
    }

    // ---- what comes

    public int feeds(int n) {
        if (n < 1 || n > DELIVERY_LIMIT) {
            return BAD;
        }
        int before = writer.stream.carriedOut;
        int octets = Math.min(n, writer.stream.waiting.size);
        for (int i = 0; i < octets; i++) {
            if (writer.stream.deliverTo(reader.table, settings)) {
                reader.decodeBlocked(letters);
            }
        }
        writer.stream.waiting.drop(octets);
        return writer.stream.carriedOut - before;
    }

    public int gives(int letter, int n) {
        Letter given = letters.at(letter);
        if (given == null || n < 1 || n > DELIVERY_LIMIT) {
            return BAD;
        }
        if (given.state != DELIVERING) {
            return STATE;
        }
        given.delivered += Math.min(n, given.octets.size - given.delivered);
        if (given.delivered >= given.octets.size) {
            reader.receive(given);
        }
        return given.state;
    }

    public int quits(int letter) {
        Letter left = letters.at(letter);
        if (left == null) {
            return BAD;
        }
        if (left.state == DECODED || left.state == CANCELLED) {
            return STATE;
        }
        reader.cancel(left);
        return left.delivered;
    }

    public int grows() {
        int grown = reader.table.inserted - reader.reported;
        if (grown <= 0) {
            return STATE;
        }
        if (reader.replies.size >= GROWN_LIMIT) {
            return FULL;
        }
        reader.replies.addInteger(0, 6, grown);
        reader.reported = reader.table.inserted;
        return grown;
    }

    public int hears(int n) {
        if (n < 1 || n > DELIVERY_LIMIT) {
            return BAD;
        }
        int octets = Math.min(n, reader.replies.size);
        for (int i = 0; i < octets; i++) {
            writer.hear(reader.replies.at(i), letters);
        }
        reader.replies.drop(octets);
        return octets;
    }

    // ---- asked

    public int table(int who, int what) {
        if (who < 0 || who > 1) {
            return BAD;
        }
        Table asked = tableOf(who);
        switch (what) {
            case 0: return asked.inserted;
            case 1: return asked.inserted - asked.lowest;
            case 2: return asked.sum;
            case 3: return asked.capacity;
            case 4: return asked.lowest < asked.inserted ? asked.lowest : NONE;
            default: return BAD;
        }
    }

    private Table tableOf(int who) {
        return who == 0 ? writer.table : reader.table;
    }

    public int entry(int who, int place, int what) {
        if (who < 0 || who > 1 || what < 0 || what > 1 || place < 0) {
            return BAD;
        }
        Table asked = tableOf(who);
        if (!asked.has(place)) {
            return NONE;
        }
        return what == 0 ? asked.sizeAt(place) : asked.fieldAt(place);
    }

    public long holds(int place) {
        return writer.table.has(place) ? writer.table.holdersAt(place) : BAD;
    }

    public int letter(int letter, int what) {
        Letter asked = letters.at(letter);
        if (asked == null) {
            return BAD;
        }
        switch (what) {
            case 0: return asked.octets.size;
            case 1: return asked.required;
            case 2: return asked.base;
            case 3: return asked.delivered;
            case 4: return asked.state;
            case 5: return asked.settled ? 1 : 0;
            case 6: return asked.fields.size;
            default: return BAD;
        }
    }

    public int got(int letter, int i) {
        Letter asked = letters.at(letter);
        if (asked == null || i < 0 || i >= asked.fields.size) {
            return BAD;
        }
        // An entry is held until its letter is settled, so a letter is decoded to what was sent.
        return asked.state == DECODED ? asked.fields.at(i) : STATE;
    }

    public int waits(int i) {
        return i < 0 ? BAD : letters.blockedAt(i);
    }

    public int octet(int row, int i) {
        if (i < 0) {
            return BAD;
        }
        if (row == INSTRUCTION_ROW) {
            return writer.stream.waiting.at(i);
        }
        if (row == REPLY_ROW) {
            return reader.replies.at(i);
        }
        Letter asked = letters.at(row);
        return asked == null ? BAD : asked.octets.at(i);
    }

    public long coded(int bits, int v) {
        if (bits < 1 || bits > 8 || v < 0) {
            return BAD;
        }
        scratch.empty();
        scratch.addInteger(0, bits, v);
        long whole = 0;
        for (int i = 0; i < scratch.size; i++) {
            whole = whole * 256 + scratch.at(i);
        }
        return whole;
    }

    public int number(int bits) {
        if (bits < 1 || bits > 8) {
            return BAD;
        }
        if (text.size == 0) {
            return STATE;
        }
        int most = (1 << bits) - 1;
        int start = text.at(0) & most;
        if (start < most) {
            return text.size == 1 ? start : STATE;
        }
        return withGroups(most);
    }

    private int withGroups(int start) {
        if (text.size < 2) {
            return STATE;
        }
        long sum = start;
        for (int i = 1; i < text.size; i++) {
            boolean goesOn = text.at(i) >= 128;
            boolean isLast = i == text.size - 1;
            if (goesOn == isLast) {
                return STATE;
            }
            sum = withGroup(sum, text.at(i) & 127, i - 1);
        }
        return sum > GREATEST ? FULL : (int) sum;
    }

    private static long withGroup(long sum, int group, int index) {
        if (group == 0) {
            return sum;
        }
        // From the sixth group on, 1 in a group is above the greatest integer already, and no
        // shift or sum may run over.
        return index > 4 ? GREATEST + 1L : sum + ((long) group << (7 * index));
    }

    public int count(int what) {
        switch (what) {
            case 0: return settings.fields.size;
            case 1: return settings.stills.size;
            case 2: return settings.capacity;
            case 3: return settings.blocking;
            case 4: return writer.known;
            case 5: return reader.reported;
            case 6: return letters.size;
            case 7: return letters.blocked();
            case 8: return letters.atRisk(writer.known);
            case 9: return writer.stream.waiting.size;
            case 10: return reader.replies.size;
            case 11: return draft.size;
            case 12: return text.size;
            default: return BAD;
        }
    }

    // ---- the classes inside

    /** A row of numbers, most often octets, that has a limit. */
    private static final class Row {
        final int[] row;
        int size;

        Row(int limit) {
            row = new int[Math.max(0, limit)];
        }

        void empty() {
            size = 0;
        }

        /** Answers false, and adds nothing, if the row is full. */
        boolean add(int one) {
            if (size < 0 || size >= row.length) {
                return false;
            }
            row[size] = one;
            size++;
            return true;
        }

        void addAll(Row other) {
            for (int i = 0; i < other.size && i < other.row.length && size >= 0 && size < row.length; i++) {
                row[size] = other.row[i];
                size++;
            }
        }

        /** Answers what was the last, or NONE. */
        int removeLast() {
            int last = at(size - 1);
            size = Math.max(0, size - 1);
            return last;
        }

        /** The number at i, or NONE. */
        int at(int i) {
            return i < 0 || i >= size || i >= row.length ? NONE : row[i];
        }

        void drop(int n) {
            int gone = Math.max(0, Math.min(n, size));
            for (int i = gone; i < size && i < row.length; i++) {
                row[i - gone] = row[i];
            }
            size -= gone;
        }

        boolean same(Row other) {
            if (size != other.size) {
                return false;
            }
            for (int i = 0; i < size && i < row.length && i < other.row.length; i++) {
                if (row[i] != other.row[i]) {
                    return false;
                }
            }
            return true;
        }

        void addInteger(int head, int bits, int v) {
            int most = (1 << bits) - 1;
            if (v < most) {
                add(head + v);
                return;
            }
            add(head + most);
            int rest = v - most;
            // 31 bits are five groups; the last one is added behind the loop.
            for (int i = 0; i < 4 && rest >= 128; i++) {
                add(128 + (rest & 127));
                rest >>= 7;
            }
            add(rest);
        }

        /** Adds a length, which is at most 6 and so one octet with every prefix from 3 bits, and the signs. */
        void addWord(int head, Row word) {
            add(head + word.size);
            addAll(word);
        }
    }

    /** A name and a value: a field or a static entry. */
    private static final class Pair {
        final Row name = new Row(WORD_LIMIT);
        final Row value = new Row(WORD_LIMIT);

        int entrySize() {
            return name.size + value.size + ENTRY_EXTRA;
        }
    }

    /** Pairs by their numbers, up to a limit. */
    private static final class Pairs {
        final Pair[] row;
        int size;

        Pairs(int limit) {
            row = new Pair[Math.max(0, limit)];
            for (int k = 0; k < row.length; k++) {
                row[k] = new Pair();
            }
        }

        /** The pair k, or null. */
        Pair at(int k) {
            return k < 0 || k >= size || k >= row.length ? null : row[k];
        }

        /** The pair that can be filled and added by adding 1 to the size, or null if all are used. */
        Pair next() {
            return size < 0 || size >= row.length ? null : row[size];
        }

        /** The lowest pair with the name of the given one, or NONE. */
        int lowestNamed(Pair given) {
            for (int k = 0; k < size; k++) {
                Pair pair = at(k);
                if (pair != null && pair.name.same(given.name)) {
                    return k;
                }
            }
            return NONE;
        }

        /** The lowest pair with the name and the value of the given one, or NONE. */
        int lowestLike(Pair given) {
            for (int k = 0; k < size; k++) {
                Pair pair = at(k);
                if (pair != null && pair.name.same(given.name) && pair.value.same(given.value)) {
                    return k;
                }
            }
            return NONE;
        }
    }

    /** What a text tells. */
    private static final class Settings {
        final Pairs fields = new Pairs(FIELD_LIMIT);
        final Pairs stills = new Pairs(STILL_LIMIT);
        int capacity = FIRST_CAPACITY;
        int blocking = FIRST_BLOCKED;

        void restart() {
            fields.size = 0;
            stills.size = 0;
            capacity = FIRST_CAPACITY;
            blocking = FIRST_BLOCKED;
        }
    }

    /** Reads a text into settings, token by token; stops at the first token that is not allowed. */
    private static final class Parser {
        final Row text;
        boolean capacityTold;
        boolean blockingTold;
        int items;
        /** The first octet of the token, or the length of the text. */
        int start;
        /** Behind the token if it is a piece, otherwise equal to start. */
        int end;

        Parser(Row givenText) {
            text = givenText;
        }

        /** Reads the text into the given settings; answers false if it has an error: it is at start. */
        boolean reads(Settings given) {
            given.restart();
            capacityTold = false;
            blockingTold = false;
            items = 0;
            end = 0;
            advance();
            for (int i = 0; i < TEXT_LIMIT && start < text.size; i++) {
                if (!readItem(given)) {
                    return false;
                }
                items++;
            }
            return start >= text.size;
        }

        private boolean readItem(Settings given) {
            if (isPiece("table") && !capacityTold) {
                capacityTold = true;
                advance();
                given.capacity = readNumber(CAPACITY_LIMIT);
                return given.capacity >= 0 && readSign(';');
            }
            if (isPiece("blocked") && !blockingTold) {
                blockingTold = true;
                advance();
                given.blocking = readNumber(BLOCKED_LIMIT);
                return given.blocking >= 0 && readSign(';');
            }
            if (isPiece("still")) {
                return readPair(given.stills, false);
            }
            return isPiece("field") && readPair(given.fields, true);
        }

        private boolean readPair(Pairs pairs, boolean noTwoEqual) {
            Pair pair = pairs.next();
            if (pair == null) {
                return false;
            }
            advance();
            if (!isName()) {
                return false;
            }
            readWord(pair.name);
            if (!readSign('=')) {
                return false;
            }
            if (end - start > WORD_LIMIT) {
                return false;
            }
            readWord(pair.value);
            // The ; is not allowed then, and anything else is not allowed anyway.
            if (noTwoEqual && pairs.lowestLike(pair) >= 0) {
                return false;
            }
            pairs.size++;
            return readSign(';');
        }

        /** Goes on to the token behind end. */
        private void advance() {
            int i = end;
            while (i < text.size && text.at(i) == ' ') {
                i++;
            }
            start = i;
            while (i < text.size && (isLetter(text.at(i)) || isDigit(text.at(i)))) {
                i++;
            }
            end = i;
        }

        private boolean isPiece(String word) {
            if (end - start != word.length()) {
                return false;
            }
            for (int i = 0; i < word.length(); i++) {
                if (text.at(start + i) != word.charAt(i)) {
                    return false;
                }
            }
            return true;
        }

        private boolean isName() {
            if (end == start || end - start > WORD_LIMIT) {
                return false;
            }
            for (int i = start; i < end; i++) {
                if (!isLetter(text.at(i))) {
                    return false;
                }
            }
            return true;
        }

        /** Reads the piece, which may be left out, into a word. */
        private void readWord(Row word) {
            word.empty();
            for (int i = start; i < end; i++) {
                word.add(text.at(i));
            }
            advance();
        }

        private boolean readSign(int sign) {
            if (end > start || text.at(start) != sign) {
                return false;
            }
            end = start + 1;
            advance();
            return true;
        }

        /** Reads the piece as a number up to a limit below 1000; answers NONE, and stays, if it is none. */
        private int readNumber(int limit) {
            int length = end - start;
            if (length < 1 || length > 3 || length > 1 && text.at(start) == '0') {
                return NONE;
            }
            int sum = 0;
            for (int i = start; i < end; i++) {
                if (!isDigit(text.at(i))) {
                    return NONE;
                }
                sum = sum * 10 + text.at(i) - '0';
            }
            if (sum > limit) {
                return NONE;
            }
            advance();
            return sum;
        }

        private static boolean isLetter(int sign) {
            return sign >= 'a' && sign <= 'z';
        }

        private static boolean isDigit(int sign) {
            return sign >= '0' && sign <= '9';
        }
    }

    /** A dynamic table. Each entry is like one field, no two fields being equal, and is kept by its number. */
    private static final class Table {
        /**
         * A power of two above the most entries that a table can have, 200 / 5: so the entries that
         * are there have a slot each, told by the lower bits of their places.
         */
        private static final int SLOTS = 64;
        private static final int MASK = SLOTS - 1;

        final int[] fields = new int[SLOTS];
        final int[] sizes = new int[SLOTS];
        final long[] holders = new long[SLOTS];
        int inserted;
        int lowest;
        int sum;
        int capacity;

        void restart() {
            inserted = 0;
            lowest = 0;
            sum = 0;
            capacity = 0;
        }

        void copyOf(Table other) {
            for (int i = 0; i < SLOTS; i++) {
                fields[i] = other.fields[i];
                sizes[i] = other.sizes[i];
                holders[i] = other.holders[i];
            }
            inserted = other.inserted;
            lowest = other.lowest;
            sum = other.sum;
            capacity = other.capacity;
        }

        boolean has(int place) {
            return place >= lowest && place < inserted;
        }

        int fieldAt(int place) {
            return fields[place & MASK];
        }

        int sizeAt(int place) {
            return sizes[place & MASK];
        }

        long holdersAt(int place) {
            return holders[place & MASK];
        }

        void hold(int place, int number) {
            holders[place & MASK] |= 1L << number;
        }

        void release(int number) {
            for (int i = 0; i < SLOTS; i++) {
                holders[i] &= ~(1L << number);
            }
        }

        /** How many entries, the lowest first, have to go until the sum is at most the limit. */
        int tooMany(int limit) {
            int left = sum;
            int n = 0;
            for (int place = lowest; place < inserted && left > limit; place++) {
                left -= sizes[place & MASK];
                n++;
            }
            return n;
        }

        int evictable(int known) {
            int top = Math.min(inserted, known);
            int n = 0;
            for (int place = lowest; place < top && holders[place & MASK] == 0; place++) {
                n++;
            }
            return n;
        }

        boolean canShrink(int limit, int known) {
            return tooMany(limit) <= evictable(known);
        }

        boolean canInsert(int size, int known) {
            return size <= capacity && tooMany(capacity - size) <= evictable(known);
        }

        private void shrink(int limit) {
            while (lowest < inserted && sum > limit) {
                sum -= sizes[lowest & MASK];
                lowest++;
            }
        }

        void changeCapacity(int n) {
            shrink(n);
            capacity = n;
        }

        /** Answers the place of the new entry. */
        int insert(int field, int size) {
            shrink(capacity - size);
            int place = inserted;
            fields[place & MASK] = field;
            sizes[place & MASK] = size;
            holders[place & MASK] = 0;
            sum += size;
            inserted++;
            return place;
        }

        /** The highest place below top of an entry that is like the field, or NONE. */
        int highestLike(int field, int top) {
            for (int place = Math.min(top, inserted) - 1; place >= lowest; place--) {
                if (fieldAt(place) == field) {
                    return place;
                }
            }
            return NONE;
        }

        /** The highest place below top of an entry with the given name, or NONE. */
        int highestNamed(Row name, Pairs known, int top) {
            for (int place = Math.min(top, inserted) - 1; place >= lowest; place--) {
                Pair pair = known.at(fieldAt(place));
                if (pair != null && pair.name.same(name)) {
                    return place;
                }
            }
            return NONE;
        }
    }

    /** The instruction stream: its octets, and what its instructions do. */
    private static final class Stream {
        /** A power of two above the most instructions that can wait, one for each octet. */
        private static final int SLOTS = 256;
        private static final int MASK = SLOTS - 1;

        final Row waiting = new Row(STREAM_LIMIT);
        /** The field that is inserted, or -1 minus the new capacity. */
        final int[] deeds = new int[SLOTS];
        /** How many octets of the instruction have not been delivered. */
        final int[] lefts = new int[SLOTS];
        int written;
        int carriedOut;

        void restart() {
            waiting.empty();
            written = 0;
            carriedOut = 0;
        }

        /** Not a copy of what the instructions do: it is written to, and delivers nothing. */
        void copyOf(Stream other) {
            waiting.empty();
            waiting.addAll(other.waiting);
        }

        boolean hasRoom(Row octets) {
            return waiting.size + octets.size <= STREAM_LIMIT;
        }

        void write(Row octets, int deed) {
            waiting.addAll(octets);
            deeds[written & MASK] = deed;
            lefts[written & MASK] = octets.size;
            written++;
        }

        /** Delivers an octet, which the caller drops; answers whether this completes an instruction. */
        boolean deliverTo(Table table, Settings settings) {
            if (carriedOut >= written) {
                return false;
            }
            int slot = carriedOut & MASK;
            lefts[slot]--;
            if (lefts[slot] > 0) {
                return false;
            }
            carriedOut++;
            int deed = deeds[slot];
            if (deed < 0) {
                table.changeCapacity(-1 - deed);
                return true;
            }
            Pair pair = settings.fields.at(deed);
            if (pair != null) {
                table.insert(deed, pair.entrySize());
            }
            return true;
        }
    }

    /** An encoded section. */
    private static final class Letter {
        final int number;
        final Row fields = new Row(DRAFT_LIMIT);
        final Row octets = new Row(LETTER_OCTETS);
        int required;
        int base;
        int delivered;
        int state;
        boolean settled;

        Letter(int givenNumber) {
            number = givenNumber;
        }

        void begin(Row draft) {
            fields.empty();
            fields.addAll(draft);
            octets.empty();
            required = 0;
            base = 0;
            delivered = 0;
            state = DELIVERING;
            settled = false;
        }
    }

    /** The sections by their numbers. */
    private static final class Letters {
        final Letter[] row = new Letter[LETTER_LIMIT];
        int size;

        Letters() {
            for (int k = 0; k < row.length; k++) {
                row[k] = new Letter(k);
            }
        }

        /** The letter k, or null. */
        Letter at(int k) {
            return k < 0 || k >= size || k >= row.length ? null : row[k];
        }

        /** The letter that is added by adding 1 to the size, or null if all are used. */
        Letter next() {
            return size < 0 || size >= row.length ? null : row[size];
        }

        int atRisk(int known) {
            int n = 0;
            for (int k = 0; k < size; k++) {
                Letter one = at(k);
                if (one != null && !one.settled && one.required > known) {
                    n++;
                }
            }
            return n;
        }

        private boolean isBlocked(int k) {
            Letter one = at(k);
            return one != null && one.state == BLOCKED;
        }

        int blocked() {
            int n = 0;
            for (int k = 0; k < size; k++) {
                n += isBlocked(k) ? 1 : 0;
            }
            return n;
        }

        /** The blocked letter with the index i in the order of required counts and numbers, or NONE. */
        int blockedAt(int i) {
            for (int k = 0; k < size; k++) {
                if (isBlocked(k) && blockedBefore(k) == i) {
                    return k;
                }
            }
            return NONE;
        }

        private int blockedBefore(int k) {
            int n = 0;
            for (int j = 0; j < size; j++) {
                n += isBlocked(j) && isBefore(j, k) ? 1 : 0;
            }
            return n;
        }

        private boolean isBefore(int j, int k) {
            Letter one = at(j);
            Letter other = at(k);
            if (one == null || other == null) {
                return false;
            }
            return one.required < other.required || one.required == other.required && j < k;
        }
    }

    /** The encoder. */
    private static final class Writer {
        final Table table = new Table();
        final Stream stream = new Stream();
        final Row instruction = new Row(32);
        final Row body = new Row(LETTER_OCTETS);
        Settings settings;
        int known;
        boolean refersToAny;
        boolean insertsToo;

        Writer(Settings given) {
            settings = given;
        }

        void restart(Settings given) {
            settings = given;
            table.restart();
            stream.restart();
            known = 0;
        }

        void copyOf(Writer other) {
            settings = other.settings;
            table.copyOf(other.table);
            stream.copyOf(other.stream);
            known = other.known;
        }

        /** Answers how many entries are evicted, or an error code. */
        int changeCapacity(int n) {
            if (n < 0 || n > settings.capacity) {
                return BAD;
            }
            if (n == table.capacity || !table.canShrink(n, known)) {
                return STATE;
            }
            instruction.empty();
            instruction.addInteger(32, 5, n);
            if (!stream.hasRoom(instruction)) {
                return FULL;
            }
            stream.write(instruction, -1 - n);
            int evicted = table.tooMany(n);
            table.changeCapacity(n);
            return evicted;
        }

        /** Answers the place of the new entry, or an error code. */
        int insertField(int field) {
            Pair pair = settings.fields.at(field);
            if (pair == null) {
                return BAD;
            }
            instruction.empty();
            formInsertion(pair);
            return insert(field, pair.entrySize());
        }

        private void formInsertion(Pair pair) {
            int still = settings.stills.lowestNamed(pair);
            int place = table.highestNamed(pair.name, settings.fields, table.inserted);
            if (still >= 0) {
                instruction.addInteger(192, 6, still);
            } else if (place >= 0) {
                instruction.addInteger(128, 6, table.inserted - 1 - place);
            } else {
                instruction.addWord(64, pair.name);
            }
            instruction.addWord(0, pair.value);
        }

        /** Answers the place of the new entry, or an error code. */
        int repeatEntry(int place) {
            if (!table.has(place)) {
                return BAD;
            }
            instruction.empty();
            instruction.addInteger(0, 5, table.inserted - 1 - place);
            return insert(table.fieldAt(place), table.sizeAt(place));
        }

        /** Carries out the instruction that has been formed, if that is possible. */
        private int insert(int field, int size) {
            if (!table.canInsert(size, known)) {
                return STATE;
            }
            if (!stream.hasRoom(instruction)) {
                return FULL;
            }
            stream.write(instruction, field);
            return table.insert(field, size);
        }

        void encode(Letter letter, boolean toAny, boolean greedy) {
            refersToAny = toAny;
            insertsToo = toAny && greedy;
            letter.base = table.inserted;
            body.empty();
            for (int i = 0; i < letter.fields.size; i++) {
                int field = letter.fields.at(i);
                Pair pair = settings.fields.at(field);
                if (pair != null) {
                    encodeField(letter, field, pair);
                }
            }
            encodeStart(letter);
            letter.octets.addAll(body);
        }

        private void encodeStart(Letter letter) {
            int twoSpans = settings.capacity / 4 * 2;
            if (letter.required == 0 || twoSpans == 0) {
                letter.octets.addInteger(0, 8, 0);
                letter.octets.addInteger(0, 7, 0);
                return;
            }
            letter.octets.addInteger(0, 8, letter.required % twoSpans + 1);
            if (letter.base >= letter.required) {
                letter.octets.addInteger(0, 7, letter.base - letter.required);
            } else {
                letter.octets.addInteger(128, 7, letter.required - letter.base - 1);
            }
        }

        private void encodeField(Letter letter, int field, Pair pair) {
            int still = settings.stills.lowestLike(pair);
            if (still >= 0) {
                body.addInteger(192, 6, still);
                return;
            }
            int place = table.highestLike(field, top());
            if (place < 0 && insertsToo) {
                place = insertField(field);
            }
            if (place < 0) {
                encodeValue(letter, pair);
            } else if (place < letter.base) {
                body.addInteger(128, 6, letter.base - 1 - place);
                refer(letter, place);
            } else {
                body.addInteger(16, 4, place - letter.base);
                refer(letter, place);
            }
        }

        /** Encodes a field by a form that has the value in it. */
        private void encodeValue(Letter letter, Pair pair) {
            int still = settings.stills.lowestNamed(pair);
            int place = table.highestNamed(pair.name, settings.fields, top());
            if (still >= 0) {
                body.addInteger(80, 4, still);
            } else if (place < 0) {
                body.addWord(32, pair.name);
            } else if (place < letter.base) {
                body.addInteger(64, 4, letter.base - 1 - place);
                refer(letter, place);
            } else {
                body.addInteger(0, 3, place - letter.base);
                refer(letter, place);
            }
            body.addWord(0, pair.value);
        }

        /** The letter may refer to the places below. */
        private int top() {
            return refersToAny ? table.inserted : known;
        }

        private void refer(Letter letter, int place) {
            letter.required = Math.max(letter.required, place + 1);
            table.hold(place, letter.number);
        }

        void hear(int reply, Letters letters) {
            if (reply < 0) {
                return;
            }
            if (reply < 64) {
                known += reply;
                return;
            }
            Letter letter = letters.at(reply < 128 ? reply - 64 : reply - 128);
            if (letter == null) {
                return;
            }
            letter.settled = true;
            table.release(letter.number);
            if (reply >= 128) {
                known = Math.max(known, letter.required);
            }
        }
    }

    /** The decoder. */
    private static final class Reader {
        final Table table = new Table();
        final Row replies = new Row(REPLY_OCTETS);
        int reported;

        void restart() {
            table.restart();
            replies.empty();
            reported = 0;
        }

        /** Takes a letter of which all octets have been delivered. */
        void receive(Letter letter) {
            if (letter.required <= table.inserted) {
                decode(letter);
            } else {
                letter.state = BLOCKED;
            }
        }

        private void decode(Letter letter) {
            letter.state = DECODED;
            if (letter.required > 0) {
                replies.addInteger(128, 7, letter.number);
                reported = Math.max(reported, letter.required);
            }
        }

        void decodeBlocked(Letters letters) {
            for (int i = 0; i < LETTER_LIMIT; i++) {
                Letter first = letters.at(letters.blockedAt(0));
                if (first == null || first.required > table.inserted) {
                    return;
                }
                decode(first);
            }
        }

        void cancel(Letter letter) {
            letter.state = CANCELLED;
            replies.addInteger(64, 6, letter.number);
        }
    }
}
