import java.util.NoSuchElementException;

/** Reads small flight recordings, looks values up by paths, and filters, folds and groups events. */
public final class FlightReader {
    private static final int MAX_BYTES = 960;
    private static final int MAX_CHUNKS = 4;
    private static final int MAX_TYPES = 10;
    private static final int MAX_FIELDS = 8;
    private static final int MAX_EVENTS = 60;
    private static final int MAX_CONSTANTS = 40;
    private static final int MAX_VALUES = 1200;
    private static final int MAX_TYPED = 40;

    private static final int HEADER_SIZE = 20;
    private static final int SIZE_AT = 6;
    private static final int METADATA_AT = 8;
    private static final int CHECKPOINT_AT = 10;
    private static final int START_AT = 12;
    private static final int FREQUENCY_AT = 16;

    private static final int METADATA_ID = 0;
    private static final int CHECKPOINT_ID = 1;
    private static final int FIRST_TOLD_ID = 16;

    private static final int POOL = 1;
    private static final int ARRAY = 2;

    private static final int HEADER_FAULT = 1;
    private static final int CUT_FAULT = 2;
    private static final int TYPE_FAULT = 3;
    private static final int TELLING_FAULT = 4;
    private static final int LENGTH_FAULT = 5;
    private static final int TEXT_FAULT = 6;
    private static final int CHAIN_FAULT = 7;
    private static final int ROOM_FAULT = 8;

    private static final int NULL_KIND = 1;
    private static final int BOOLEAN_KIND = 2;
    private static final int BYTE_KIND = 3;
    private static final int SHORT_KIND = 4;
    private static final int CHAR_KIND = 5;
    private static final int INT_KIND = 6;
    private static final int LONG_KIND = 7;
    private static final int FLOAT_KIND = 8;
    private static final int DOUBLE_KIND = 9;
    private static final int TEXT_KIND = 10;
    private static final int STRUCTURE_KIND = 11;
    private static final int ARRAY_KIND = 12;
    private static final int KEY_KIND = 13;

    private static final int NOTHING = -1;
    private static final int NULL_NODE = 0;

    private static final long NANOS = 1000000000L;
    private static final long TOO_GREAT = 2147483648L;

    private final Source source = new Source();
    private final Checkpoints checkpoints = new Checkpoints();
    private Recording recording = new Recording();
    // A faulty recording must leave the one before as it is, so each is read into the spare one.
    private Recording spare = new Recording();
    private final Filter filter = new Filter();
    private final int[] chosen = new int[MAX_EVENTS];
    private int chosenCount = 0;
    private int misfitPlace = -1;
    private final Tally tally = new Tally();
    private final Groups groups = new Groups();

    public FlightReader() {
    }

    public boolean feed(int word, int n) {
        return source.append(word, n);
    }

    public int open() throws IllegalArgumentException {
        int total = source.rewind();
        spare.clear();
        int at = 0;
        for (int i = 0; i <= MAX_CHUNKS && (i == 0 || at < total); i++) {
            at = spare.readChunk(source, checkpoints, at);
        }
        Recording before = recording;
        recording = spare;
        spare = before;
        chooseAll();
        groups.clear();
        return recording.eventCount;
    }

    public int fault(int what) {
        if (what == 0) {
            return source.faultKind;
        }
        return what == 1 ? source.faultPlace : -1;
    }

    public int chunks() {
        return recording.chunkCount;
    }

    public long event(int e, int what) throws IndexOutOfBoundsException, IllegalArgumentException {
        requireEvent(e);
        switch (what) {
            case 0:
                return recording.eventChunk[e];
            case 1:
                return recording.values.bits[recording.eventNode[e]];
            case 2:
                return recording.eventTicks[e];
            case 3:
                return recording.nanosSinceStart(e);
            default:
                throw new IllegalArgumentException();
        }
    }

    public int kind(int e, int path) throws IndexOutOfBoundsException {
        requireEvent(e);
        int node = recording.find(e, path);
        return node == NOTHING ? 0 : recording.values.kinds[node];
    }

    public long value(int e, int path) throws IndexOutOfBoundsException, NoSuchElementException {
        requireEvent(e);
        int node = recording.find(e, path);
        if (node == NOTHING) {
            throw new NoSuchElementException();
        }
        return recording.values.bits[node];
    }

    public int letter(int e, int path, int i)
            throws IndexOutOfBoundsException, NoSuchElementException, IllegalArgumentException {
        requireEvent(e);
        int node = recording.find(e, path);
        if (node == NOTHING || recording.values.kinds[node] != TEXT_KIND) {
            throw new NoSuchElementException();
        }
        if (i < 0 || i >= recording.values.bits[node]) {
            throw new IllegalArgumentException();
        }
        return recording.values.letters[recording.values.refs[node] + i];
    }

    public boolean type(char c) {
        return filter.append(c);
    }

    public int select(boolean fresh) throws IllegalArgumentException {
        misfitPlace = filter.read();
        if (misfitPlace >= 0) {
            throw new IllegalArgumentException();
        }
        if (fresh) {
            chooseAll();
        }
        int kept = 0;
        for (int i = 0; i < chosenCount; i++) {
            if (filter.passes(recording, chosen[i])) {
                chosen[kept] = chosen[i];
                kept++;
            }
        }
        chosenCount = kept;
        groups.clear();
        return kept;
    }

    public int misfit() {
        return misfitPlace;
    }

    public int selected(int i) throws IndexOutOfBoundsException {
        if (i < 0 || i >= chosenCount) {
            throw new IndexOutOfBoundsException();
        }
        return chosen[i];
    }

    public long fold(int what, int path) throws IllegalArgumentException, NoSuchElementException {
        if (what < 0 || what > 4 && what < 100 || what > 200) {
            throw new IllegalArgumentException();
        }
        tallyChosen(path);
        if (tally.count == 0 && what > 1) {
            throw new NoSuchElementException();
        }
        switch (what) {
            case 0:
                return tally.count;
            case 1:
                return tally.sum();
            case 2:
                return tally.inOrder(0);
            case 3:
                return tally.inOrder(tally.count - 1);
            case 4:
                return tally.mean();
            default:
                return tally.inOrder(((what - 100) * tally.count + 99) / 100 - 1);
        }
    }

    public int group(int by, int path) {
        groups.clear();
        for (int i = 0; i < chosenCount; i++) {
            int key = recording.find(chosen[i], by);
            if (recording.values.isNumber(key)) {
                int g = groups.enter(recording.values.bits[key]);
                int node = recording.find(chosen[i], path);
                if (recording.values.isNumber(node)) {
                    groups.add(g, recording.values.bits[node]);
                }
            }
        }
        return groups.count;
    }

    public long grouped(int g, int what) throws IndexOutOfBoundsException, IllegalArgumentException {
        if (g < 0 || g >= groups.count) {
            throw new IndexOutOfBoundsException();
        }
        switch (what) {
            case 0:
                return groups.keys[g];
            case 1:
                return groups.events[g];
            case 2:
                return groups.numbers[g];
            case 3:
                return groups.sums[g];
            case 4:
                return groups.leasts[g];
            case 5:
                return groups.greatests[g];
            default:
                throw new IllegalArgumentException();
        }
    }

    private void requireEvent(int e) {
        if (e < 0 || e >= recording.eventCount) {
            throw new IndexOutOfBoundsException();
        }
    }

    private void chooseAll() {
        for (int e = 0; e < recording.eventCount; e++) {
            chosen[e] = e;
        }
        chosenCount = recording.eventCount;
    }

    private void tallyChosen(int path) {
        tally.count = 0;
        for (int i = 0; i < chosenCount; i++) {
            int node = recording.find(chosen[i], path);
            if (recording.values.isNumber(node)) {
                tally.add(recording.values.bits[node]);
            }
        }
    }

    /** The bytes that were fed, a place among them to read from, and the fault that ended the reading. */
    private static final class Source {
        final byte[] bytes = new byte[MAX_BYTES];
        int fed = 0;
        int total = 0;
        int pos = 0;
        int limit = 0;
        int idPlace = 0;
        int faultKind = 0;
        int faultPlace = -1;

        boolean append(int word, int n) {
            if (n < 1 || n > 4 || n > MAX_BYTES - fed) {
                return false;
            }
            for (int i = n - 1; i >= 0; i--) {
                bytes[fed] = (byte) (word >>> (8 * i));
                fed++;
            }
            return true;
        }

        int rewind() {
            total = fed;
            fed = 0;
            faultKind = 0;
            faultPlace = -1;
            return total;
        }

        void fail(int kind, int place) {
            faultKind = kind;
            faultPlace = place;
            throw new IllegalArgumentException();
        }

        int byteAt(int place) {
            return bytes[place] & 255;
        }

        /** The callers see to it that all these bytes are there. */
        long fixedAt(int place, int n) {
            long bits = 0;
            for (int i = 0; i < n; i++) {
                bits = bits << 8 | bytes[place + i] & 255;
            }
            return bits;
        }

        long fixed(int n) {
            int start = pos;
            if (n > limit - start) {
                fail(CUT_FAULT, start);
            }
            pos = start + n;
            return fixedAt(start, n);
        }

        int oneByte() {
            return (int) fixed(1);
        }

        long number() {
            int start = pos;
            long bits = 0;
            for (int shift = 0; shift <= 56; shift += 7) {
                if (pos >= limit) {
                    fail(CUT_FAULT, start);
                }
                int b = bytes[pos] & 255;
                pos++;
                // The ninth byte has no bit that tells of another one.
                if (shift == 56 || b < 128) {
                    return bits | (long) b << shift;
                }
                bits |= (long) (b & 127) << shift;
            }
            return bits;
        }

        /** A count, length, place or id. */
        int count() {
            int start = pos;
            long n = number();
            if (n < 0 || n >= TOO_GREAT) {
                fail(CUT_FAULT, start);
            }
            return (int) n;
        }

        /** Reads an event's length and type; what is read next is bounded by the event's end. */
        int head(int start, int chunkEnd) {
            pos = start;
            limit = chunkEnd;
            int length = count();
            if (length < 2 || length > chunkEnd - start) {
                fail(LENGTH_FAULT, start);
            }
            idPlace = pos;
            int id = count();
            if (pos > start + length) {
                fail(CUT_FAULT, idPlace);
            }
            limit = start + length;
            return id;
        }

        void requireEventEnd() {
            if (pos < limit) {
                fail(LENGTH_FAULT, pos);
            }
        }

        /** One character of a text in UTF-8 that ends before the given place. */
        char utf8(int end) {
            int start = pos;
            int first = bytes[start] & 255;
            int more = first < 0x80 ? 0 : first < 0xC0 ? -1 : first < 0xE0 ? 1 : first < 0xF0 ? 2 : -1;
            if (more < 0 || more >= end - start) {
                fail(TEXT_FAULT, start);
            }
            int code = more == 0 ? first : more == 1 ? first & 31 : first & 15;
            for (int i = 1; i <= more; i++) {
                int b = bytes[start + i] & 255;
                if (b < 0x80 || b > 0xBF) {
                    fail(TEXT_FAULT, start);
                }
                code = code << 6 | b & 63;
            }
            boolean tooLong = more == 1 && code < 0x80 || more == 2 && code < 0x800;
            if (tooLong || code >= 0xD800 && code <= 0xDFFF) {
                fail(TEXT_FAULT, start);
            }
            pos = start + more + 1;
            return (char) code;
        }
    }

    /** A type as a chunk's metadata tells it. */
    private static final class Type {
        int id = 0;
        int name = 0;
        boolean forEvents = false;
        int fieldCount = 0;
        final int[] fieldNames = new int[MAX_FIELDS];
        final int[] fieldTypes = new int[MAX_FIELDS];
        final int[] fieldFlags = new int[MAX_FIELDS];

        void read(Source in, int ownId) {
            id = ownId;
            fieldCount = 0;
            name = in.oneByte();
            if (name < 'A' || name > 'Z') {
                in.fail(TELLING_FAULT, in.pos - 1);
            }
            int kindByte = in.oneByte();
            if (kindByte > 1) {
                in.fail(TELLING_FAULT, in.pos - 1);
            }
            forEvents = kindByte == 1;
            int countPlace = in.pos;
            int n = in.count();
            if (n > MAX_FIELDS) {
                in.fail(TELLING_FAULT, countPlace);
            }
            for (int i = 0; i < n; i++) {
                readField(in);
            }
        }

        private void readField(Source in) {
            int fieldName = in.oneByte();
            if (fieldName < 'a' || fieldName > 'z' || fieldNamed(fieldName) >= 0) {
                in.fail(TELLING_FAULT, in.pos - 1);
            }
            int fieldType = in.count();
            int flags = in.oneByte();
            if ((flags & ~(POOL | ARRAY)) != 0) {
                in.fail(TELLING_FAULT, in.pos - 1);
            }
            fieldNames[fieldCount] = fieldName;
            fieldTypes[fieldCount] = fieldType;
            fieldFlags[fieldCount] = flags;
            fieldCount++;
        }

        /** The field's place in its type, or NOTHING. */
        int fieldNamed(int wanted) {
            for (int f = 0; f < fieldCount; f++) {
                if (fieldNames[f] == wanted) {
                    return f;
                }
            }
            return NOTHING;
        }
    }

    /** A chunk's header, its types, and the constants of its chain, those first that win. */
    private static final class Chunk {
        int start = 0;
        int end = 0;
        long startTicks = 0;
        long ticksPerSecond = 1;
        int typeCount = 0;
        final Type[] types = new Type[MAX_TYPES];
        int constantCount = 0;
        final int[] constantTypes = new int[MAX_CONSTANTS];
        final long[] constantKeys = new long[MAX_CONSTANTS];
        final int[] constantNodes = new int[MAX_CONSTANTS];

        private static final int[] SIGNATURE = {70, 76, 82, 0, 2};

        Chunk() {
            for (int t = 0; t < MAX_TYPES; t++) {
                types[t] = new Type();
            }
        }

        void readHeader(Source in, int at) {
            start = at;
            for (int i = 0; i < METADATA_AT; i++) {
                if (at + i >= in.total) {
                    in.fail(CUT_FAULT, in.total);
                }
                if (i < SIGNATURE.length && in.byteAt(at + i) != SIGNATURE[i]) {
                    in.fail(HEADER_FAULT, at + i);
                }
            }
            int size = (int) in.fixedAt(at + SIZE_AT, 2);
            if (size < HEADER_SIZE) {
                in.fail(HEADER_FAULT, at + SIZE_AT);
            }
            if (size > in.total - at) {
                in.fail(CUT_FAULT, at + SIZE_AT);
            }
            end = at + size;
            startTicks = in.fixedAt(at + START_AT, 4);
            ticksPerSecond = in.fixedAt(at + FREQUENCY_AT, 4);
            if (ticksPerSecond < 1) {
                in.fail(HEADER_FAULT, at + FREQUENCY_AT);
            }
        }

        void readMetadata(Source in) {
            int place = start + (int) in.fixedAt(start + METADATA_AT, 2);
            if (place < start + HEADER_SIZE || place >= end) {
                in.fail(TYPE_FAULT, start + METADATA_AT);
            }
            if (in.head(place, end) != METADATA_ID) {
                in.fail(TYPE_FAULT, in.idPlace);
            }
            int countPlace = in.pos;
            int n = in.count();
            if (n > MAX_TYPES) {
                in.fail(TELLING_FAULT, countPlace);
            }
            typeCount = 0;
            for (int i = 0; i < n; i++) {
                int idPlace = in.pos;
                int id = in.count();
                if (id < FIRST_TOLD_ID || typeWithId(id) >= 0) {
                    in.fail(TELLING_FAULT, idPlace);
                }
                types[i].read(in, id);
                typeCount++;
            }
            in.requireEventEnd();
            if (!fieldsHaveTypes() || someHoldItself()) {
                in.fail(TELLING_FAULT, place);
            }
        }

        private boolean fieldsHaveTypes() {
            for (int t = 0; t < typeCount; t++) {
                for (int f = 0; f < types[t].fieldCount; f++) {
                    int id = types[t].fieldTypes[f];
                    if (!isPlain(id) && (!isStructure(id) || types[typeWithId(id)].fieldCount == 0)) {
                        return false;
                    }
                }
            }
            return true;
        }

        /** A type is cleared when all that it holds is; those in a ring never are. */
        private boolean someHoldItself() {
            int cleared = 0;
            for (int round = 0; round < typeCount; round++) {
                for (int t = 0; t < typeCount; t++) {
                    if (holdsOnly(types[t], cleared)) {
                        cleared |= 1 << t;
                    }
                }
            }
            return cleared != (1 << typeCount) - 1;
        }

        private boolean holdsOnly(Type type, int cleared) {
            for (int f = 0; f < type.fieldCount; f++) {
                int held = typeWithId(type.fieldTypes[f]);
                boolean pooled = (type.fieldFlags[f] & POOL) != 0;
                if (!pooled && held >= 0 && (cleared & 1 << held) == 0) {
                    return false;
                }
            }
            return true;
        }

        int typeWithId(int id) {
            for (int t = 0; t < typeCount; t++) {
                if (types[t].id == id) {
                    return t;
                }
            }
            return NOTHING;
        }

        boolean isPlain(int id) {
            return id >= BOOLEAN_KIND && id <= TEXT_KIND;
        }

        boolean isStructure(int id) {
            int t = typeWithId(id);
            return t >= 0 && !types[t].forEvents;
        }

        boolean isForEvents(int id) {
            int t = typeWithId(id);
            return t >= 0 && types[t].forEvents;
        }

        void addConstant(int type, long key, int node) {
            if (constantCount < MAX_CONSTANTS) {
                constantTypes[constantCount] = type;
                constantKeys[constantCount] = key;
                constantNodes[constantCount] = node;
                constantCount++;
            }
        }

        int constant(int type, long key) {
            for (int c = 0; c < constantCount; c++) {
                if (constantTypes[c] == type && constantKeys[c] == key) {
                    return constantNodes[c];
                }
            }
            return NULL_NODE;
        }
    }

    /** The values of a recording as trees: what a node holds lies right behind it, up to its end. */
    private static final class Values {
        // As no structure holds itself, an array of each type in another is the deepest.
        private static final int MAX_DEPTH = 2 * MAX_TYPES;

        // Node 0 stands for every constant that is not there.
        int size = 1;
        final int[] kinds = new int[MAX_VALUES + 1];
        /** A number, a key, a length or a structure's name: what value() answers. */
        final long[] bits = new long[MAX_VALUES + 1];
        /** A structure's type in its chunk, a key's type id, or a text's first letter. */
        final int[] refs = new int[MAX_VALUES + 1];
        final int[] ends = new int[MAX_VALUES + 1];
        int letterCount = 0;
        // Every letter takes a byte at least.
        final char[] letters = new char[MAX_BYTES];

        Values() {
            kinds[NULL_NODE] = NULL_KIND;
        }

        void clear() {
            size = 1;
            letterCount = 0;
        }

        /** Reads a value of the type with that id, and answers its node. */
        private int read(Source in, Chunk chunk, int type, int flags, int depth) {
            if (size > MAX_VALUES || depth > MAX_DEPTH) {
                in.fail(ROOM_FAULT, in.pos);
            }
            int node = size;
            size++;
            if ((flags & ARRAY) != 0) {
                int n = in.count();
                put(node, ARRAY_KIND, n, 0);
                for (int i = 0; i < n; i++) {
                    read(in, chunk, type, flags & POOL, depth + 1);
                }
            } else if ((flags & POOL) != 0) {
                put(node, KEY_KIND, in.number(), type);
            } else if (type == TEXT_KIND) {
                readText(in, node);
            } else if (chunk.isPlain(type)) {
                put(node, type, readPlain(in, type), 0);
            } else {
                int t = chunk.typeWithId(type);
                int n = t < 0 ? 0 : chunk.types[t].fieldCount;
                put(node, STRUCTURE_KIND, t < 0 ? 0 : chunk.types[t].name, t);
                for (int f = 0; f < n; f++) {
                    read(in, chunk, chunk.types[t].fieldTypes[f], chunk.types[t].fieldFlags[f], depth + 1);
                }
            }
            ends[node] = size;
            return node;
        }

        private void put(int node, int kind, long content, int ref) {
            kinds[node] = kind;
            bits[node] = content;
            refs[node] = ref;
        }

        private long readPlain(Source in, int type) {
            switch (type) {
                case BOOLEAN_KIND:
                    return in.oneByte() == 0 ? 0 : 1;
                case BYTE_KIND:
                    return (byte) in.oneByte();
                case SHORT_KIND:
                    return (short) in.number();
                case CHAR_KIND:
                    return (char) in.number();
                case INT_KIND:
                    return (int) in.number();
                case FLOAT_KIND:
                    return in.fixed(4);
                case DOUBLE_KIND:
                    return in.fixed(8);
                default:
                    return in.number();
            }
        }

        private void readText(Source in, int node) {
            int place = in.pos;
            int form = in.oneByte();
            int lengthPlace = in.pos;
            int first = letterCount;
            if (form == 0) {
                put(node, NULL_KIND, 0, 0);
                return;
            }
            if (form == 2) {
                put(node, KEY_KIND, in.number(), TEXT_KIND);
                return;
            }
            if (form > 5) {
                in.fail(TEXT_FAULT, place);
            }
            int n = form == 1 ? 0 : in.count();
            if (form != 4 && n > in.limit - in.pos) {
                in.fail(CUT_FAULT, lengthPlace);
            }
            int end = in.pos + n;
            for (int i = 0; i < n && (form != 3 || in.pos < end); i++) {
                addLetter(form == 3 ? in.utf8(end) : form == 4 ? (char) in.number() : (char) in.oneByte());
            }
            put(node, TEXT_KIND, letterCount - first, first);
        }

        private void addLetter(char c) {
            if (letterCount < MAX_BYTES) {
                letters[letterCount] = c;
                letterCount++;
            }
        }

        boolean isNumber(int node) {
            return node != NOTHING && kinds[node] >= BOOLEAN_KIND && kinds[node] <= LONG_KIND;
        }

        /** What one character of a path leads to, a key for itself. */
        int part(Chunk chunk, int node, int step) {
            int index = NOTHING;
            if (kinds[node] == STRUCTURE_KIND && refs[node] >= 0) {
                index = chunk.types[refs[node]].fieldNamed(step);
            } else if (kinds[node] == ARRAY_KIND && step >= '0' && step <= '9' && step - '0' < bits[node]) {
                index = step - '0';
            }
            if (index == NOTHING) {
                return NOTHING;
            }
            int at = node + 1;
            for (int i = 0; i < index; i++) {
                at = ends[at];
            }
            return at;
        }
    }

    /** The checkpoints of the chunk that is being read. */
    private static final class Checkpoints {
        // Length, type, delta and the number of pools: none is shorter than four bytes.
        private static final int MAX_CHECKPOINTS = MAX_BYTES / 4;

        int count = 0;
        final int[] places = new int[MAX_CHECKPOINTS];
        final int[] deltas = new int[MAX_CHECKPOINTS];
        final int[] deltaPlaces = new int[MAX_CHECKPOINTS];
        // The first one's are from 0 on, and each one's end where the next one's begin.
        final int[] firstConstants = new int[MAX_CHECKPOINTS + 1];
        int constantCount = 0;
        final int[] types = new int[MAX_CONSTANTS];
        final long[] keys = new long[MAX_CONSTANTS];
        final int[] nodes = new int[MAX_CONSTANTS];

        void clear() {
            count = 0;
            constantCount = 0;
        }

        void read(Source in, Chunk chunk, Values values, int place) {
            if (count == MAX_CHECKPOINTS) {
                in.fail(ROOM_FAULT, place);
            }
            places[count] = place;
            deltaPlaces[count] = in.pos;
            deltas[count] = in.count();
            int pools = in.count();
            for (int p = 0; p < pools; p++) {
                int typePlace = in.pos;
                int type = in.count();
                if (!chunk.isPlain(type) && !chunk.isStructure(type)) {
                    in.fail(TYPE_FAULT, typePlace);
                }
                int n = in.count();
                for (int i = 0; i < n; i++) {
                    if (constantCount == MAX_CONSTANTS) {
                        in.fail(ROOM_FAULT, in.pos);
                    }
                    types[constantCount] = type;
                    keys[constantCount] = in.number();
                    nodes[constantCount] = values.read(in, chunk, type, 0, 0);
                    constantCount++;
                }
            }
            count++;
            firstConstants[count] = constantCount;
        }

        /** Gives the chunk the constants of the chain, in the order in which they are met. */
        void link(Source in, Chunk chunk) {
            chunk.constantCount = 0;
            int last = (int) in.fixedAt(chunk.start + CHECKPOINT_AT, 2);
            if (last == 0) {
                return;
            }
            int at = startingAt(chunk.start + last);
            if (at == NOTHING) {
                in.fail(CHAIN_FAULT, chunk.start + CHECKPOINT_AT);
            }
            for (int i = 0; i < count; i++) {
                for (int c = firstConstants[at]; c < firstConstants[at + 1]; c++) {
                    chunk.addConstant(types[c], keys[c], nodes[c]);
                }
                if (deltas[at] == 0) {
                    return;
                }
                int before = startingAt(places[at] - deltas[at]);
                if (before == NOTHING) {
                    in.fail(CHAIN_FAULT, deltaPlaces[at]);
                }
                at = before;
            }
        }

        private int startingAt(int place) {
            for (int c = 0; c < count; c++) {
                if (places[c] == place) {
                    return c;
                }
            }
            return NOTHING;
        }
    }

    /** What was read: chunks, events, and all their values. */
    private static final class Recording {
        private static final int MAX_KEYS = 6;
        private static final int MAX_STEPS = 4;

        int chunkCount = 0;
        final Chunk[] chunks = new Chunk[MAX_CHUNKS];
        final Values values = new Values();
        int eventCount = 0;
        final int[] eventChunk = new int[MAX_EVENTS];
        final long[] eventTicks = new long[MAX_EVENTS];
        final int[] eventNode = new int[MAX_EVENTS];

        Recording() {
            for (int c = 0; c < MAX_CHUNKS; c++) {
                chunks[c] = new Chunk();
            }
        }

        void clear() {
            chunkCount = 0;
            eventCount = 0;
            values.clear();
        }

        /** Reads the chunk that begins there, and answers where it ends. */
        int readChunk(Source in, Checkpoints checkpoints, int start) {
            if (chunkCount == MAX_CHUNKS) {
                in.fail(ROOM_FAULT, start);
            }
            Chunk chunk = chunks[chunkCount];
            chunk.readHeader(in, start);
            chunk.readMetadata(in);
            checkpoints.clear();
            int at = start + HEADER_SIZE;
            for (int i = 0; i < MAX_BYTES && at < chunk.end; i++) {
                int id = in.head(at, chunk.end);
                if (id == CHECKPOINT_ID) {
                    checkpoints.read(in, chunk, values, at);
                    in.requireEventEnd();
                } else if (id != METADATA_ID) {
                    readEvent(in, chunk, id, at);
                    in.requireEventEnd();
                }
                at = in.limit;
            }
            checkpoints.link(in, chunk);
            chunkCount++;
            return chunk.end;
        }

        private void readEvent(Source in, Chunk chunk, int id, int place) {
            if (!chunk.isForEvents(id)) {
                in.fail(TYPE_FAULT, in.idPlace);
            }
            if (eventCount == MAX_EVENTS) {
                in.fail(ROOM_FAULT, place);
            }
            eventChunk[eventCount] = chunkCount;
            eventTicks[eventCount] = in.number();
            eventNode[eventCount] = values.read(in, chunk, id, 0, 0);
            eventCount++;
        }

        long nanosSinceStart(int e) {
            Chunk chunk = chunks[eventChunk[e]];
            long passed = eventTicks[e] - chunk.startTicks;
            long f = chunk.ticksPerSecond;
            return Math.floorDiv(passed, f) * NANOS + Math.floorMod(passed, f) * NANOS / f;
        }

        /** The node to which a path leads from an event, or NOTHING. */
        int find(int e, int path) {
            Chunk chunk = chunks[eventChunk[e]];
            int node = eventNode[e];
            for (int i = 0; i < MAX_STEPS && node != NOTHING; i++) {
                int step = path >>> (8 * i) & 255;
                if (step == 0) {
                    return node;
                }
                node = constantFor(chunk, values.part(chunk, node, step));
            }
            return node;
        }

        private int constantFor(Chunk chunk, int node) {
            int at = node;
            for (int i = 0; i < MAX_KEYS && isKey(at); i++) {
                at = chunk.constant(values.refs[at], values.bits[at]);
            }
            return isKey(at) ? NULL_NODE : at;
        }

        private boolean isKey(int node) {
            return node != NOTHING && values.kinds[node] == KEY_KIND;
        }
    }

    /** What is typed, and once it has been read, the comparisons that it asks for. */
    private static final class Filter {
        // A comparison has three characters at least, and all but the first one & before them.
        private static final int MAX_COMPARISONS = MAX_TYPED / 4 + 1;
        private static final int MAX_STEPS = 4;
        private static final int MAX_DIGITS = 9;

        // What was read last tells what may come next.
        private static final int AT_START = 0;
        private static final int AFTER_NAME = 1;
        private static final int AFTER_COLON = 2;
        private static final int AFTER_STEP = 3;
        private static final int AFTER_DOT = 4;
        private static final int AFTER_SIGN = 5;
        private static final int AFTER_MINUS = 6;
        private static final int AFTER_DIGIT = 7;
        private static final int AFTER_AND = 8;
        private static final int AFTER_MISFIT = 9;

        final char[] typed = new char[MAX_TYPED];
        int length = 0;
        int name = 0;
        int count = 0;
        final int[] paths = new int[MAX_COMPARISONS];
        final char[] signs = new char[MAX_COMPARISONS];
        final long[] numbers = new long[MAX_COMPARISONS];
        private int state = AT_START;
        private int path = 0;
        private int steps = 0;
        private int digits = 0;
        private boolean negative = false;

        boolean append(char c) {
            if (length == MAX_TYPED || c < 32 || c > 126) {
                return false;
            }
            typed[length] = c;
            length++;
            return true;
        }

        /** Takes what was typed: -1, or the place where it is no filter. */
        int read() {
            int n = length;
            length = 0;
            name = 0;
            count = 0;
            path = 0;
            steps = 0;
            state = AT_START;
            for (int i = 0; i < n; i++) {
                state = stateAfter(typed[i]);
                if (state == AFTER_MISFIT) {
                    return i;
                }
            }
            boolean whole = state == AT_START || state == AFTER_COLON || state == AFTER_DIGIT;
            return whole ? -1 : n;
        }

        private int stateAfter(char c) {
            switch (state) {
                case AT_START:
                    return c >= 'A' && c <= 'Z' ? takeName(c) : takeStep(c);
                case AFTER_NAME:
                    return c == ':' ? AFTER_COLON : AFTER_MISFIT;
                case AFTER_STEP:
                    return c == '.' ? takeDot() : takeSign(c);
                case AFTER_SIGN:
                    return c == '-' ? takeMinus() : takeDigit(c);
                case AFTER_MINUS:
                    return takeDigit(c);
                case AFTER_DIGIT:
                    return c == '&' ? AFTER_AND : takeDigit(c);
                default:
                    return takeStep(c);
            }
        }

        private int takeName(char c) {
            name = c;
            return AFTER_NAME;
        }

        private int takeStep(char c) {
            if ((c < 'a' || c > 'z') && (c < '0' || c > '9')) {
                return AFTER_MISFIT;
            }
            path |= c << (8 * steps);
            steps++;
            return AFTER_STEP;
        }

        private int takeDot() {
            return steps < MAX_STEPS ? AFTER_DOT : AFTER_MISFIT;
        }

        private int takeSign(char c) {
            if (c != '=' && c != '#' && c != '<' && c != '>' || count == MAX_COMPARISONS) {
                return AFTER_MISFIT;
            }
            paths[count] = path;
            signs[count] = c;
            numbers[count] = 0;
            count++;
            path = 0;
            steps = 0;
            digits = 0;
            negative = false;
            return AFTER_SIGN;
        }

        private int takeMinus() {
            negative = true;
            return AFTER_MINUS;
        }

        private int takeDigit(char c) {
            if (c < '0' || c > '9' || digits == MAX_DIGITS || count == 0) {
                return AFTER_MISFIT;
            }
            int digit = c - '0';
            numbers[count - 1] = numbers[count - 1] * 10 + (negative ? -digit : digit);
            digits++;
            return AFTER_DIGIT;
        }

        boolean passes(Recording recording, int e) {
            Values values = recording.values;
            if (name != 0 && values.bits[recording.eventNode[e]] != name) {
                return false;
            }
            for (int i = 0; i < count; i++) {
                int node = recording.find(e, paths[i]);
                if (!values.isNumber(node) || !holds(signs[i], values.bits[node], numbers[i])) {
                    return false;
                }
            }
            return true;
        }

        private boolean holds(char sign, long left, long right) {
            switch (sign) {
                case '=':
                    return left == right;
                case '#':
                    return left != right;
                case '<':
                    return left < right;
                default:
                    return left > right;
            }
        }
    }

    /** The numbers that are folded, kept in ascending order. */
    private static final class Tally {
        int count = 0;
        final long[] sorted = new long[MAX_EVENTS];

        void add(long n) {
            if (count == MAX_EVENTS) {
                return;
            }
            int at = count;
            while (at > 0 && sorted[at - 1] > n) {
                sorted[at] = sorted[at - 1];
                at--;
            }
            sorted[at] = n;
            count++;
        }

        long sum() {
            long sum = 0;
            for (int i = 0; i < count; i++) {
                sum += sorted[i];
            }
            return sum;
        }

        long inOrder(int place) {
            return sorted[Math.max(place, 0)];
        }

        /** Whole parts and rests are summed apart, as the sum itself may need more than 64 bits. */
        long mean() {
            if (count == 0) {
                return 0;
            }
            long n = count;
            long whole = 0;
            long rest = 0;
            for (int i = 0; i < count; i++) {
                whole += Math.floorDiv(sorted[i], n);
                rest += Math.floorMod(sorted[i], n);
            }
            whole += rest / n;
            rest %= n;
            // The rest points upwards always, so a half below 0 is away from 0 already.
            boolean up = whole < 0 ? 2 * rest > n : 2 * rest >= n;
            return up ? whole + 1 : whole;
        }
    }

    /** The groups of the latest grouping, in the order in which their numbers were met. */
    private static final class Groups {
        int count = 0;
        final long[] keys = new long[MAX_EVENTS];
        final int[] events = new int[MAX_EVENTS];
        final int[] numbers = new int[MAX_EVENTS];
        final long[] sums = new long[MAX_EVENTS];
        final long[] leasts = new long[MAX_EVENTS];
        final long[] greatests = new long[MAX_EVENTS];

        void clear() {
            count = 0;
        }

        /** Counts an event in the group of that key, and answers the group. */
        int enter(long key) {
            int g = 0;
            while (g < count && keys[g] != key) {
                g++;
            }
            if (g == count) {
                keys[g] = key;
                events[g] = 0;
                numbers[g] = 0;
                sums[g] = 0;
                leasts[g] = 0;
                greatests[g] = 0;
                count++;
            }
            events[g]++;
            return g;
        }

        void add(int g, long n) {
            leasts[g] = numbers[g] == 0 ? n : Math.min(leasts[g], n);
            greatests[g] = numbers[g] == 0 ? n : Math.max(greatests[g], n);
            sums[g] += n;
            numbers[g]++;
        }
    }
}
