import java.util.ArrayList;
import java.util.HashMap;
import java.util.List;
import java.util.Map;
import java.util.Random;

/**
 * A recording that is made up together with its bytes: it knows what it has written, and so what every path leads to,
 * without reading a byte. The same seed always makes the same one.
 */
final class Model {
    static final Part NULL = new Part(1, 0);

    private static final int KEY = 13;

    /** What a field, a constant or an event holds. */
    static final class Part {
        final int kind;
        final long number;
        int typeOfKey = 0;
        String text = "";
        String names = "";
        final List<Part> parts = new ArrayList<>();

        Part(int kind, long number) {
            this.kind = kind;
            this.number = number;
        }

        boolean isNumber() {
            return kind >= 2 && kind <= 7;
        }
    }

    static final class Event {
        final int chunk;
        final char name;
        final long ticks;
        final long start;
        final long perSecond;
        final Part fields;
        final Map<String, Part> constants;

        Event(int chunk, char name, long ticks, Part fields, Model model) {
            this.chunk = chunk;
            this.name = name;
            this.ticks = ticks;
            this.start = model.start;
            this.perSecond = model.perSecond;
            this.fields = fields;
            this.constants = model.constants;
        }

        /** What a path leads to; null stands for nothing. */
        Part at(int path) {
            Part part = fields;
            for (int left = path; (left & 255) != 0 && part != null; left >>>= 8) {
                part = step(part, (char) (left & 255));
            }
            return part;
        }

        private Part step(Part from, char c) {
            int index = from.kind == 11 ? from.names.indexOf(c) : from.kind == 12 && c >= '0' && c <= '9' ? c - '0' : -1;
            Part part = index < 0 || index >= from.parts.size() ? null : from.parts.get(index);
            for (int keys = 1; part != null && part.kind == KEY; keys++) {
                part = keys == 7 ? NULL : constants.getOrDefault(part.typeOfKey + "/" + part.number, NULL);
            }
            return part;
        }
    }

    private static final class Type {
        int id;
        char name;
        boolean forEvents;
        String names = "";
        final List<Integer> types = new ArrayList<>();
        final List<Integer> flags = new ArrayList<>();
    }

    final Bytes bytes = new Bytes();
    final List<Event> events = new ArrayList<>();
    int chunks = 0;
    final List<Integer> chunkPlaces = new ArrayList<>();

    private final Random random;
    private final List<Type> types = new ArrayList<>();
    private Map<String, Part> constants = new HashMap<>();
    private long start = 0;
    private long perSecond = 1;
    private int values = 0;
    private int constantsTold = 0;

    private Model(long seed) {
        random = new Random(seed);
    }

    /** Only one that has room in an object is answered, so some seeds are passed over. */
    static Model from(long seed) {
        for (long s = seed * 1000; s < seed * 1000 + 1000; s++) {
            Model model = new Model(s);
            int n = 1 + model.below(4);
            for (int i = 0; i < n; i++) {
                model.addChunk();
            }
            if (model.bytes.size() <= 960 && model.values <= 1200 && model.events.size() <= 60) {
                return model;
            }
        }
        throw new IllegalStateException("no recording has room");
    }

    int below(int n) {
        return random.nextInt(n);
    }

    /** Small ones, the extremes, and any. */
    long number() {
        switch (below(5)) {
            case 0:
                return random.nextLong();
            case 1:
                return (1L << below(64)) - below(2);
            case 2:
                return -(1L << below(64));
            default:
                return below(12) - 4;
        }
    }

    private void addChunk() {
        start = number() & 0xFFFFFFFFL;
        perSecond = 1 + (number() & 0x7FFFFFFFL) * (1 + below(2));
        constants = new HashMap<>();
        constantsTold = 0;
        tellTypes();
        ChunkMaker maker = new ChunkMaker().clock(start, perSecond);
        List<Integer> places = new ArrayList<>();
        List<Integer> links = new ArrayList<>();
        List<Map<String, Part>> pools = new ArrayList<>();
        int metadataTurn = below(4);
        int turns = 4 + below(9);
        for (int turn = 0; turn < turns; turn++) {
            if (turn == metadataTurn) {
                maker.metadataHere().event(0, metadata());
            } else if (below(3) == 0) {
                int link = places.isEmpty() ? -1 : below(places.size() + 1) - 1;
                int delta = link < 0 ? 0 : maker.here() - places.get(link);
                places.add(maker.here());
                links.add(link);
                pools.add(addCheckpoint(maker, delta));
            } else {
                addEvent(maker);
            }
        }
        int last = places.isEmpty() ? -1 : below(places.size() + 1) - 1;
        maker.lastCheckpointAt(last < 0 ? 0 : places.get(last));
        for (int at = last; at >= 0; at = links.get(at)) {
            pools.get(at).forEach(constants::putIfAbsent);
        }
        chunkPlaces.add(bytes.size());
        bytes.join(maker.done());
        chunks++;
    }

    /** The first one is for events always; no structure holds but those behind it, unless by key. */
    private void tellTypes() {
        types.clear();
        int n = 2 + below(5);
        for (int t = 0; t < n; t++) {
            Type type = new Type();
            type.id = 16 + t + (below(3) == 0 ? 200 : 0);
            type.name = (char) ('A' + below(5));
            type.forEvents = t == 0 || t < n - 1 && below(2) == 0;
            types.add(type);
        }
        for (int t = 0; t < n; t++) {
            int fields = types.get(t).forEvents ? below(9) : 1 + below(3);
            for (int f = 0; f < fields; f++) {
                addField(types.get(t), t);
            }
        }
    }

    private void addField(Type type, int t) {
        char name = (char) ('a' + below(26));
        int flags = below(3) == 0 ? below(4) : 0;
        int other = below(types.size());
        boolean held = !types.get(other).forEvents && ((flags & Bytes.POOL) != 0 || other > t) && below(2) == 0;
        if (type.names.indexOf(name) < 0 || type.names.isEmpty()) {
            type.names += name;
            type.types.add(held ? types.get(other).id : 2 + below(9));
            type.flags.add(flags);
        }
    }

    private Bytes metadata() {
        Bytes[] told = new Bytes[types.size()];
        for (int t = 0; t < told.length; t++) {
            Type type = types.get(t);
            Bytes[] fields = new Bytes[type.names.length()];
            for (int f = 0; f < fields.length; f++) {
                fields[f] = Bytes.field(type.names.charAt(f), type.types.get(f), type.flags.get(f));
            }
            told[t] = Bytes.type(type.id, type.name, type.forEvents ? 1 : 0, fields);
        }
        return Bytes.types(told);
    }

    private Map<String, Part> addCheckpoint(ChunkMaker maker, int delta) {
        Map<String, Part> own = new HashMap<>();
        Bytes[] pools = new Bytes[below(4)];
        for (int p = 0; p < pools.length; p++) {
            Type type = types.get(below(types.size()));
            int id = type.forEvents || below(3) > 0 ? below(3) == 0 ? 2 + below(9) : Bytes.TEXT : type.id;
            Bytes[] all = new Bytes[Math.min(below(6), 40 - constantsTold)];
            constantsTold += all.length;
            for (int c = 0; c < all.length; c++) {
                long key = key();
                Bytes value = new Bytes();
                own.putIfAbsent(id + "/" + key, addValue(value, id, 0));
                all[c] = Bytes.constant(key, value);
            }
            pools[p] = Bytes.pool(id, all);
        }
        maker.checkpoint(delta, pools);
        return own;
    }

    private long key() {
        return below(10) == 0 ? number() : below(6) - 1;
    }

    private void addEvent(ChunkMaker maker) {
        Type type = types.get(below(types.size()));
        if (type.forEvents) {
            long ticks = below(2) == 0 ? number() : start + below(100000);
            Bytes fields = new Bytes();
            Part held = addValue(fields, type.id, 0);
            maker.happening(type.id, ticks, fields);
            events.add(new Event(chunks, type.name, ticks, held, this));
        }
    }

    private Part addValue(Bytes out, int id, int flags) {
        values++;
        if ((flags & Bytes.ARRAY) != 0) {
            int n = below(8) == 0 ? 11 : below(4);
            out.number(n);
            Part array = new Part(12, n);
            for (int i = 0; i < n; i++) {
                array.parts.add(addValue(out, id, flags & Bytes.POOL));
            }
            return array;
        }
        if ((flags & Bytes.POOL) != 0) {
            return addKey(out, id);
        }
        return id == Bytes.TEXT ? addText(out) : id < Bytes.TEXT ? addPlain(out, id) : addStructure(out, id);
    }

    private Part addKey(Bytes out, int id) {
        Part part = new Part(KEY, key());
        part.typeOfKey = id;
        out.number(part.number);
        return part;
    }

    private Part addStructure(Bytes out, int id) {
        Type type = types.get(0);
        for (Type each : types) {
            type = each.id == id ? each : type;
        }
        Part part = new Part(11, type.name);
        part.names = type.names;
        for (int f = 0; f < type.types.size(); f++) {
            part.parts.add(addValue(out, type.types.get(f), type.flags.get(f)));
        }
        return part;
    }

    private Part addPlain(Bytes out, int id) {
        long n = number();
        switch (id) {
            case Bytes.BOOLEAN:
                out.add((int) n);
                return new Part(id, (n & 255) == 0 ? 0 : 1);
            case Bytes.BYTE:
                out.add((int) n);
                return new Part(id, (byte) n);
            case Bytes.FLOAT:
                out.big(n, 4);
                return new Part(id, n & 0xFFFFFFFFL);
            case Bytes.DOUBLE:
                out.big(n, 8);
                return new Part(id, n);
            default:
                out.number(n);
                return new Part(id, id == Bytes.SHORT ? (short) n : id == Bytes.CHAR ? (char) n : id == Bytes.INT ? (int) n : n);
        }
    }

    private Part addText(Bytes out) {
        int form = below(3) == 0 ? 2 : below(6);
        out.add(form);
        if (form == 0) {
            return NULL;
        }
        if (form == 2) {
            return addKey(out, Bytes.TEXT);
        }
        StringBuilder text = new StringBuilder();
        for (int n = form == 1 ? 0 : below(4); n > 0; n--) {
            text.append(character(form));
        }
        Part part = new Part(Bytes.TEXT, text.length());
        part.text = text.toString();
        if (form == 3) {
            byte[] coded = part.text.getBytes(java.nio.charset.StandardCharsets.UTF_8);
            out.number(coded.length);
            for (byte b : coded) {
                out.add(b);
            }
        } else if (form != 1) {
            out.number(text.length());
            for (int i = 0; i < text.length(); i++) {
                addLetter(out, form, text.charAt(i));
            }
        }
        return part;
    }

    private void addLetter(Bytes out, int form, char c) {
        if (form == 5) {
            out.add(c);
        } else {
            // Bits above the lowest 16 are for nothing.
            out.number(c | (long) below(2) << (16 + below(48)));
        }
    }

    /** Any that the form can tell: in UTF-8 none from 55296 to 57343, in form 5 none above 255. */
    private char character(int form) {
        char c = (char) (below(2) == 0 ? ' ' + below(95) : number());
        return form == 5 ? (char) (c & 255) : form == 3 && c >= 55296 && c <= 57343 ? '?' : c;
    }
}
