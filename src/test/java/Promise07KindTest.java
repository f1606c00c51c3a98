/** Promise 7: kinds of what paths lead to, with constants taken for their keys. */
final class Promise07KindTest {
    public static void main(String[] args) {
        plain();
        structures();
        wrong();
        keysInARow();
        chains();
        chunksApart();
        typesApart();
        Check.end();
    }

    private static void plain() {
        FlightReader reader = Check.opened("rich", Samples.rich(), 2);
        String names = "zbscilfd";
        for (int i = 0; i < names.length(); i++) {
            Check.same("kind of " + names.charAt(i), reader.kind(0, names.charAt(i)), 2 + i);
            Check.same("no part of it", reader.kind(0, Check.path(names.charAt(i) + "a")), 0);
            Check.same("no part of it", reader.kind(0, Check.path(names.charAt(i) + "0")), 0);
        }
        Check.same("a field that is not there", reader.kind(0, 'a'), 0);
    }

    private static void structures() {
        FlightReader reader = Check.opened("rich", Samples.rich(), 2);
        Check.same("the event", reader.kind(1, 0), 11);
        kinds(reader, "s", 11, "a", 12, "k", 12, "e", 12, "m", 1, "p", 11, "t", 10, "q", 0);
        kinds(reader, "st", 1, "so", 11, "sn", 7, "sot", 1, "soo", 11, "soot", 10, "soon", 7);
        kinds(reader, "a0", 11, "a1", 11, "a2", 0, "a9", 0, "aa", 0, "a0t", 10, "a0o", 11, "a1t", 10, "a1o", 1);
        kinds(reader, "a1oo", 0, "a1ot", 0, "a0oo", 11, "a0ot", 10);
        kinds(reader, "k0", 6, "k1", 6, "k2", 1, "k3", 0, "e0", 0, "mt", 0, "m0", 0, "pt", 10, "po", 11, "pot", 1, "poot", 10);
        kinds(reader, "t0", 0, "st0", 0, "s0", 0, "0", 0);
        Check.same("0 ends it", reader.kind(1, Check.path("s") | 'q' << 16), 11);
        Check.same("0 ends it at once", reader.kind(1, 'q' << 8), 11);
    }

    private static void wrong() {
        FlightReader reader = Check.opened("rich", Samples.rich(), 2);
        for (int e : new int[] {-1, 2, Integer.MAX_VALUE, Integer.MIN_VALUE}) {
            Check.noIndex("kind(" + e + ")", () -> reader.kind(e, 0));
        }
        FlightReader other = Check.opened("rich", Samples.rich(), 2);
        for (int b = 1; b < 256; b++) {
            boolean field = b < 128 && "sakemp".indexOf(b) >= 0 || b == 't';
            if (!field) {
                Check.same("byte " + b, reader.kind(1, b), 0);
                Check.same("byte " + b + " behind", other.kind(1, 's' | b << 24 | 'o' << 8 | 'o' << 16), b == 'o' ? 11 : b == 'n' ? 7 : 0);
            }
        }
        Check.same("all bits", reader.kind(1, -1), 0);
    }

    /** Each pair in turn: a path, and its kind from event 1. */
    private static void kinds(FlightReader reader, Object... pairs) {
        for (int i = 0; i < pairs.length; i += 2) {
            Check.same("kind of " + pairs[i], reader.kind(1, Check.path((String) pairs[i])), (Integer) pairs[i + 1]);
        }
    }

    /** Text 0 is a text, and text i the key i - 1: seven keys in a row are too many. */
    private static void keysInARow() {
        for (int flags = 0; flags < 2; flags++) {
            ChunkMaker maker = ChunkMaker.with(Bytes.type(16, 'E', 1, Bytes.field('t', Bytes.TEXT, flags)));
            Bytes[] texts = new Bytes[9];
            texts[0] = Bytes.constant(0, Bytes.none().latin("end"));
            for (int i = 1; i < 8; i++) {
                texts[i] = Bytes.constant(i, Bytes.of(2, i - 1));
            }
            texts[8] = Bytes.constant(8, Bytes.of(2, 8));
            maker.checkpoint(0, Bytes.pool(Bytes.TEXT, texts));
            for (int i = 0; i < 10; i++) {
                maker.happening(16, 1, flags == 1 ? Bytes.of(i) : Bytes.of(2, i));
            }
            FlightReader reader = Check.opened("keys", maker.done(), 10);
            for (int i = 0; i < 10; i++) {
                Check.same((i + 1) + " keys", reader.kind(i, 't'), i < 6 ? 10 : 1);
                Check.same((i + 1) + " keys, length", reader.value(i, 't'), i < 6 ? 3 : 0);
            }
        }
    }

    private static void chains() {
        Bytes e = Bytes.type(16, 'E', 1, Bytes.field('n', Bytes.INT, Bytes.POOL));
        ChunkMaker maker = ChunkMaker.with(e);
        int first = maker.here();
        maker.checkpoint(0, ints(1, 10), ints(2, 20), ints(4, 40));
        int outside = maker.here();
        maker.checkpoint(outside - first, ints(3, 33));
        int third = maker.here();
        maker.checkpoint(third - first, ints(2, 22), ints(2, 23), ints(5, 50), ints(5, 51));
        for (int key = 1; key <= 5; key++) {
            maker.happening(16, 1, Bytes.of(key));
        }
        long[] due = {10, 22, 0, 40, 50};
        values("the last one wins, and there the first", maker.done(), due);
        values("the chain begins earlier", maker.lastCheckpointAt(outside).done(), new long[] {10, 20, 33, 40, 0});
        values("the first one alone", maker.lastCheckpointAt(first).done(), new long[] {10, 20, 0, 40, 0});
        values("no chain", maker.lastCheckpointAt(0).done(), new long[] {0, 0, 0, 0, 0});
    }

    private static void values(String what, Bytes chunk, long[] due) {
        FlightReader reader = Check.opened(what, chunk, due.length);
        for (int i = 0; i < due.length; i++) {
            Check.same(what + ", kind of " + i, reader.kind(i, 'n'), due[i] == 0 ? 1 : 6);
            Check.same(what + ", value of " + i, reader.value(i, 'n'), due[i]);
        }
    }

    private static Bytes ints(long key, int value) {
        return Bytes.pool(Bytes.INT, Bytes.constant(key, Bytes.of(value)));
    }

    private static void chunksApart() {
        Bytes e = Bytes.type(16, 'E', 1, Bytes.field('n', Bytes.INT, Bytes.POOL));
        Bytes both = ChunkMaker.with(e).checkpoint(0, ints(1, 10)).happening(16, 1, Bytes.of(1)).done()
                .join(ChunkMaker.with(e).checkpoint(0, ints(2, 20)).happening(16, 1, Bytes.of(1)).done())
                .join(ChunkMaker.with(e).happening(16, 1, Bytes.of(1)).done());
        values("each chunk has its own", both, new long[] {10, 0, 0});
        Bytes other = Bytes.type(16, 'E', 1, Bytes.field('m', Bytes.INT, 0), Bytes.field('n', Bytes.TEXT, 0));
        Bytes two = ChunkMaker.with(e).happening(16, 1, Bytes.of(1)).done()
                .join(ChunkMaker.with(other).happening(16, 1, Bytes.of(3, 1)).done());
        FlightReader reader = Check.opened("types of each chunk", two, 2);
        Check.same("m of the first", reader.kind(0, 'm'), 0);
        Check.same("m of the second", reader.kind(1, 'm'), 6);
        Check.same("n of the second", reader.kind(1, 'n'), 10);
    }

    private static void typesApart() {
        ChunkMaker maker = ChunkMaker.with(Bytes.type(16, 'E', 1, Bytes.field('a', Bytes.INT, Bytes.POOL),
                Bytes.field('b', Bytes.LONG, Bytes.POOL), Bytes.field('c', Bytes.BYTE, Bytes.POOL),
                Bytes.field('d', 17, Bytes.POOL), Bytes.field('e', Bytes.TEXT, Bytes.POOL)), Bytes.type(17, 'S', 0, Bytes.field('n', Bytes.INT, 0)));
        maker.checkpoint(0, ints(1, 10), Bytes.pool(Bytes.LONG, Bytes.constant(1, Bytes.of(20))),
                Bytes.pool(17, Bytes.constant(1, Bytes.of(30))), Bytes.pool(Bytes.TEXT, Bytes.constant(1, Bytes.of(0))));
        maker.happening(16, 1, Bytes.of(1, 1, 1, 1, 1));
        FlightReader reader = Check.opened("one key of several types", maker.done(), 1);
        Check.same("INT", reader.value(0, 'a'), 10);
        Check.same("LONG", reader.value(0, 'b'), 20);
        Check.same("BYTE", reader.kind(0, 'c'), 1);
        Check.same("a structure", reader.value(0, Check.path("dn")), 30);
        Check.same("a text that is null", reader.kind(0, 'e'), 1);
    }
}
