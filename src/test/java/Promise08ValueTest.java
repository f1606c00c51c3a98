/** Promise 8: numbers, bits, lengths, names, and 0 of null. */
final class Promise08ValueTest {
    public static void main(String[] args) {
        FlightReader reader = Check.opened("rich", Samples.rich(), 2);
        values(reader, 0, "z", 1L, "b", -56L, "s", -1L, "c", 65535L, "i", -1L, "l", Long.MIN_VALUE,
                "f", 0xBF800000L, "d", 0xC000000000000001L, "", (long) 'P');
        values(reader, 1, "", (long) 'Q', "s", (long) 'S', "so", (long) 'S', "a", 2L, "k", 3L, "e", 0L, "m", 0L,
                "t", 2L, "st", 0L, "sot", 0L, "soot", 4L, "sn", 3L, "son", 66L, "a0t", 1L, "a1t", 0L, "a0n", -1L, "a1n", 2L,
                "k0", 11L, "k1", 22L, "k2", 0L, "pn", 55L, "pon", 66L, "poon", 55L, "a1o", 0L);
        for (String none : new String[] {"q", "a2", "e0", "mt", "k3", "t0", "sna", "A", "0"}) {
            Check.noElement("value of " + none, () -> reader.value(1, Check.path(none)));
        }
        for (int e : new int[] {-1, 2, Integer.MAX_VALUE, Integer.MIN_VALUE}) {
            Check.noIndex("value(" + e + ")", () -> reader.value(e, 0));
            Check.noIndex("value(" + e + ") of nothing", () -> reader.value(e, 'q'));
        }
        numbers();
        parts();
        Check.end();
    }

    /** Each pair in turn: a path, and its value. */
    private static void values(FlightReader reader, int e, Object... pairs) {
        for (int i = 0; i < pairs.length; i += 2) {
            Check.same("value of " + pairs[i], reader.value(e, Check.path((String) pairs[i])), (Long) pairs[i + 1]);
        }
    }

    private static void numbers() {
        long[] some = {0, 1, 127, 128, 255, 256, 16383, 16384, 32767, 32768, 65535, 65536, 0x7FFFFFFFL, 0x80000000L,
            0xFFFFFFFFL, 1L << 56, (1L << 56) - 1, Long.MAX_VALUE, Long.MIN_VALUE, -1, -128, -32769, 0x0123456789ABCDEFL};
        for (long n : some) {
            same(Bytes.SHORT, new Bytes().number(n), (short) n);
            same(Bytes.CHAR, new Bytes().number(n), (char) n);
            same(Bytes.INT, new Bytes().number(n), (int) n);
            same(Bytes.LONG, new Bytes().number(n), n);
            same(Bytes.FLOAT, new Bytes().big(n, 4), n & 0xFFFFFFFFL);
            same(Bytes.DOUBLE, new Bytes().big(n, 8), n);
        }
        for (int b = 0; b < 256; b++) {
            same(Bytes.BOOLEAN, Bytes.of(b), b == 0 ? 0 : 1);
            same(Bytes.BYTE, Bytes.of(b), (byte) b);
        }
        same(Bytes.LONG, Bytes.of(0x81, 0x80, 0x80, 0x00), 1);
        same(Bytes.LONG, Bytes.of(0x80, 0x80, 0x80, 0x80, 0x80, 0x80, 0x80, 0x80, 0x80), Long.MIN_VALUE);
    }

    private static void same(int type, Bytes content, long due) {
        ChunkMaker maker = ChunkMaker.with(Bytes.type(16, 'E', 1, Bytes.field('n', type, 0)));
        FlightReader reader = Check.opened("type " + type, maker.happening(16, 1, content).done(), 1);
        Check.same("kind", reader.kind(0, 'n'), type);
        Check.same("value of type " + type, reader.value(0, 'n'), due);
    }

    private static void parts() {
        ChunkMaker maker = ChunkMaker.with(Bytes.type(16, 'E', 1, Bytes.field('a', Bytes.BYTE, Bytes.ARRAY)));
        Bytes twelve = Bytes.of(12);
        for (int i = 0; i < 12; i++) {
            twelve.add(i + 50);
        }
        FlightReader reader = Check.opened("twelve parts", maker.happening(16, 1, twelve).done(), 1);
        Check.same("its length", reader.value(0, 'a'), 12);
        for (int i = 0; i < 10; i++) {
            Check.same("part " + i, reader.value(0, 'a' | ('0' + i) << 8), i + 50);
        }
        Check.noElement("behind 9", () -> reader.value(0, 'a' | ('9' + 1) << 8));
        Check.noElement("before 0", () -> reader.value(0, 'a' | ('0' - 1) << 8));
    }
}
