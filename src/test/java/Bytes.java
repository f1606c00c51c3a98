import java.util.ArrayList;
import java.util.List;

/** A row of bytes that grows, and the parts of recordings as such rows. */
final class Bytes {
    static final int BOOLEAN = 2;
    static final int BYTE = 3;
    static final int SHORT = 4;
    static final int CHAR = 5;
    static final int INT = 6;
    static final int LONG = 7;
    static final int FLOAT = 8;
    static final int DOUBLE = 9;
    static final int TEXT = 10;
    static final int POOL = 1;
    static final int ARRAY = 2;
    static final int STRUCTURE = 0;
    static final int EVENT = 1;

    private final List<Integer> row = new ArrayList<>();

    static Bytes of(int... bytes) {
        return new Bytes().add(bytes);
    }

    static Bytes none() {
        return new Bytes();
    }

    Bytes add(int... bytes) {
        for (int b : bytes) {
            row.add(b & 255);
        }
        return this;
    }

    Bytes join(Bytes other) {
        row.addAll(other.row);
        return this;
    }

    /** A compressed number. */
    Bytes number(long n) {
        long left = n;
        for (int i = 0; i < 8; i++) {
            if (left >= 0 && left < 128) {
                return add((int) left);
            }
            add((int) (left & 127) | 128);
            left >>>= 7;
        }
        return add((int) left);
    }

    Bytes big(long n, int size) {
        for (int i = size - 1; i >= 0; i--) {
            add((int) (n >>> (8 * i)));
        }
        return this;
    }

    /** A text of form 5. */
    Bytes latin(String text) {
        add(5).number(text.length());
        for (int i = 0; i < text.length(); i++) {
            add(text.charAt(i));
        }
        return this;
    }

    Bytes times(int n) {
        Bytes all = new Bytes();
        for (int i = 0; i < n; i++) {
            all.join(this);
        }
        return all;
    }

    Bytes set(int place, int b) {
        row.set(place, b & 255);
        return this;
    }

    Bytes first(int n) {
        Bytes some = new Bytes();
        some.row.addAll(row.subList(0, n));
        return some;
    }

    Bytes copy() {
        return first(size());
    }

    int at(int place) {
        return row.get(place);
    }

    int size() {
        return row.size();
    }

    void feedTo(FlightReader reader) {
        int at = 0;
        while (at < size()) {
            int n = Math.min(4, size() - at);
            int word = 0;
            for (int i = 0; i < n; i++) {
                word = word << 8 | row.get(at + i);
            }
            if (!reader.feed(word, n)) {
                throw new IllegalStateException("the test feeds too much");
            }
            at += n;
        }
    }

    static Bytes event(int type, Bytes content) {
        Bytes rest = new Bytes().number(type).join(content);
        int length = rest.size() + 1;
        if (length > 127) {
            length++;
        }
        return new Bytes().number(length).join(rest);
    }

    static Bytes field(char name, int type, int flags) {
        return of(name).number(type).add(flags);
    }

    static Bytes type(int id, char name, int kind, Bytes... fields) {
        Bytes told = new Bytes().number(id).add(name, kind).number(fields.length);
        for (Bytes field : fields) {
            told.join(field);
        }
        return told;
    }

    static Bytes types(Bytes... types) {
        Bytes told = new Bytes().number(types.length);
        for (Bytes type : types) {
            told.join(type);
        }
        return told;
    }

    static Bytes pools(Bytes... pools) {
        return types(pools);
    }

    /** Each constant is its key and its value. */
    static Bytes pool(int type, Bytes... constants) {
        Bytes pool = new Bytes().number(type).number(constants.length);
        for (Bytes constant : constants) {
            pool.join(constant);
        }
        return pool;
    }

    static Bytes constant(long key, Bytes value) {
        return new Bytes().number(key).join(value);
    }
}
