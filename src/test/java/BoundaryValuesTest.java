/** The boundary cases of "Terms": values. */
final class BoundaryValuesTest {
    private static final long[] NUMBERS = {0, 1, 127, 128, 32767, 32768, 32769, 65535, 65536, 65537, 0x7FFFFFFFL, 0x80000000L,
        0x80000001L, 0xFFFFFFFFL, 0x100000000L, 0x100000001L, Long.MAX_VALUE, Long.MIN_VALUE, -1, -32768, -32769, -65536,
        0xFFFFFFFF80000000L, 0xFFFFFFFF7FFFFFFFL};

    public static void main(String[] args) {
        Check.sentence(8, "with ARRAY how many there are, and each; else one.", BoundaryValuesTest::arrays);
        Check.sentence(8, "One with POOL is a key, a long number: the CONSTANT of the type with that key.", BoundaryValuesTest::keys);
        Check.sentence(8, "BOOLEAN a byte (0 is 0, all else 1)", BoundaryValuesTest::booleans);
        Check.sentence(8, "BYTE a byte (with its sign)", BoundaryValuesTest::bytes);
        Check.sentence(8, "SHORT, CHAR, INT, LONG a number, of which the lowest 16 (with sign), 16 (without), 32 (with sign), "
                + "64 bits are taken", BoundaryValuesTest::numbers);
        Check.sentence(8, "FLOAT, DOUBLE four or eight bytes, the highest first", BoundaryValuesTest::floats);
        Check.sentence(8, "a structure: its fields.", BoundaryValuesTest::structures);
        Check.sentence(9, "TEXT: a byte: 0: it is NULL; 1: empty", BoundaryValuesTest::nullAndEmpty);
        Check.sentence(9, "2: a key of a constant of type TEXT", BoundaryValuesTest::textKeys);
        Check.sentence(9, "3: a length, and so many bytes in UTF-8 (of one to three bytes each, the shortest ones, "
                + "no code from 55296 to 57343)", BoundaryValuesTest::utf8);
        Check.sentence(9, "4: how many characters, each a number of which the lowest 16 bits are taken", BoundaryValuesTest::characters);
        Check.sentence(9, "5: a length, and so many bytes, each a character.", BoundaryValuesTest::latin);
        Check.end();
    }

    private static void arrays() {
        for (int n : new int[] {0, 1, 2, 127, 128, 800}) {
            Bytes parts = new Bytes().number(n).join(Bytes.of(7).times(n));
            FlightReader reader = Check.opened(n + " parts", ChunkMaker.holding(Bytes.BYTE, Bytes.ARRAY).value(parts).done(), 1);
            Check.same("an array", reader.kind(0, 'n'), 12);
            Check.same("how many", reader.value(0, 'n'), n);
            Check.same("the first one's kind", reader.kind(0, Check.path("n0")), n > 0 ? 3 : 0);
            Check.same("the second one's kind", reader.kind(0, Check.path("n1")), n > 1 ? 3 : 0);
        }
        FlightReader one = Check.opened("no ARRAY", ChunkMaker.holding(Bytes.BYTE, 0).value(Bytes.of(7)).done(), 1);
        Check.same("a byte", one.kind(0, 'n'), 3);
    }

    private static void keys() {
        for (long key : new long[] {0, 1, -1, Long.MIN_VALUE, Long.MAX_VALUE, 1L << 31, 1L << 32}) {
            ChunkMaker maker = ChunkMaker.holding(Bytes.INT, Bytes.POOL);
            maker.checkpoint(0, Bytes.pool(Bytes.LONG, Bytes.constant(key, Bytes.of(1))),
                    Bytes.pool(Bytes.INT, Bytes.constant(key + 1, Bytes.of(2)), Bytes.constant(key, Bytes.of(3)),
                            Bytes.constant(key ^ 1L << 32, Bytes.of(4))));
            FlightReader reader = Check.opened("key " + key, maker.value(new Bytes().number(key)).done(), 1);
            Check.same("of the type, with the key " + key, reader.value(0, 'n'), 3);
        }
    }

    private static void value(int type, Bytes content, long due) {
        FlightReader reader = Check.opened("type " + type, ChunkMaker.holding(type, 0).value(content).done(), 1);
        Check.same("its kind", reader.kind(0, 'n'), type);
        Check.same("type " + type, reader.value(0, 'n'), due);
    }

    private static void booleans() {
        for (int b = 0; b < 256; b++) {
            value(Bytes.BOOLEAN, Bytes.of(b), b == 0 ? 0 : 1);
        }
    }

    private static void bytes() {
        for (int b = 0; b < 256; b++) {
            value(Bytes.BYTE, Bytes.of(b), b < 128 ? b : b - 256);
        }
    }

    private static void numbers() {
        for (long n : NUMBERS) {
            long low = n & 65535;
            value(Bytes.SHORT, new Bytes().number(n), low < 32768 ? low : low - 65536);
            value(Bytes.CHAR, new Bytes().number(n), low);
            long half = n & 0xFFFFFFFFL;
            value(Bytes.INT, new Bytes().number(n), half < 0x80000000L ? half : half - 0x100000000L);
            value(Bytes.LONG, new Bytes().number(n), n);
        }
    }

    private static void floats() {
        value(Bytes.FLOAT, Bytes.of(1, 2, 3, 4), 0x01020304L);
        value(Bytes.FLOAT, Bytes.of(0x7F, 0xFF, 0xFF, 0xFF), 0x7FFFFFFFL);
        value(Bytes.FLOAT, Bytes.of(0x80, 0, 0, 0), 0x80000000L);
        value(Bytes.FLOAT, Bytes.of(255, 255, 255, 255), 0xFFFFFFFFL);
        value(Bytes.DOUBLE, Bytes.of(1, 2, 3, 4, 5, 6, 7, 8), 0x0102030405060708L);
        value(Bytes.DOUBLE, Bytes.of(0x7F, 0xF8, 0, 0, 0, 0, 0, 1), 0x7FF8000000000001L);
        value(Bytes.DOUBLE, Bytes.of(0x80, 0, 0, 0, 0, 0, 0, 0), Long.MIN_VALUE);
        value(Bytes.DOUBLE, Bytes.of(255).times(8), -1);
    }

    private static void structures() {
        Bytes[] fields = new Bytes[8];
        for (int i = 0; i < 8; i++) {
            fields[i] = Bytes.field((char) ('h' - i), Bytes.BYTE, 0);
        }
        ChunkMaker maker = ChunkMaker.with(Bytes.type(16, 'E', 1, Bytes.field('s', 17, 0), Bytes.field('n', Bytes.BYTE, 0)),
                Bytes.type(17, 'S', 0, fields));
        FlightReader reader = Check.opened("eight fields", maker.value(Bytes.of(1, 2, 3, 4, 5, 6, 7, 8, 9)).done(), 1);
        for (int i = 0; i < 8; i++) {
            Check.same("field " + i, reader.value(0, 's' | ('h' - i) << 8), i + 1);
        }
        Check.same("what lies behind it", reader.value(0, 'n'), 9);
    }

    private static FlightReader text(Bytes content) {
        ChunkMaker maker = ChunkMaker.with(Bytes.type(16, 'E', 1, Bytes.field('n', Bytes.TEXT, 0), Bytes.field('z', Bytes.BYTE, 0)));
        FlightReader reader = Check.opened("text", maker.value(content.copy().add(77)).done(), 1);
        Check.same("what lies behind it", reader.value(0, 'z'), 77);
        return reader;
    }

    private static void letters(Bytes content, int... due) {
        FlightReader reader = text(content);
        Check.same("its kind", reader.kind(0, 'n'), 10);
        Check.same("its length", reader.value(0, 'n'), due.length);
        for (int i = 0; i < due.length; i++) {
            Check.same("letter " + i, reader.letter(0, 'n', i), due[i]);
        }
    }

    private static void nullAndEmpty() {
        FlightReader none = text(Bytes.of(0));
        Check.same("the kind of NULL", none.kind(0, 'n'), 1);
        Check.same("its value", none.value(0, 'n'), 0);
        Check.noElement("its letter", () -> none.letter(0, 'n', 0));
        letters(Bytes.of(1));
        Check.noArgument("a letter of an empty text", () -> text(Bytes.of(1)).letter(0, 'n', 0));
    }

    private static void textKeys() {
        for (long key : new long[] {0, -1, Long.MIN_VALUE, Long.MAX_VALUE}) {
            ChunkMaker maker = ChunkMaker.holding(Bytes.TEXT, 0);
            maker.checkpoint(0, Bytes.pool(Bytes.INT, Bytes.constant(key, Bytes.of(1))),
                    Bytes.pool(Bytes.TEXT, Bytes.constant(key, Bytes.none().latin("ab"))));
            maker.value(Bytes.of(2).number(key)).value(Bytes.of(2).number(key ^ 8));
            FlightReader reader = Check.opened("key " + key, maker.done(), 2);
            Check.same("of type TEXT", reader.value(0, 'n'), 2);
            Check.same("its letter", reader.letter(0, 'n', 1), 'b');
            Check.same("no such key", reader.kind(1, 'n'), 1);
        }
    }

    private static void utf8() {
        letters(Bytes.of(3, 0));
        letters(Bytes.of(3, 2, 0, 0x7F), 0, 127);
        letters(Bytes.of(3, 4, 0xC2, 0x80, 0xDF, 0xBF), 128, 2047);
        letters(Bytes.of(3, 6, 0xE0, 0xA0, 0x80, 0xED, 0x9F, 0xBF), 2048, 55295);
        letters(Bytes.of(3, 6, 0xEE, 0x80, 0x80, 0xEF, 0xBF, 0xBF), 57344, 65535);
        refused("127 in two bytes", 0xC1, 0xBF);
        refused("0 in two bytes", 0xC0, 0x80);
        refused("2047 in three bytes", 0xE0, 0x9F, 0xBF);
        refused("0 in three bytes", 0xE0, 0x80, 0x80);
        refused("55296", 0xED, 0xA0, 0x80);
        refused("57343", 0xED, 0xBF, 0xBF);
        refused("65536", 0xF0, 0x90, 0x80, 0x80);
        refused("a first byte below", 0x80, 0x80);
        refused("a first byte below", 0xBF, 0xBF);
        refused("a first byte above", 0xF0, 0x80, 0x80);
        refused("a first byte above", 0xF0, 0xA0, 0x80);
        refused("a first byte above", 0xFF, 0xBF, 0xBF);
        refused("a second byte below", 0xC2, 0x7F);
        refused("a second byte above", 0xC2, 0xC0);
        refused("a third byte below", 0xE1, 0x80, 0x7F);
        refused("a third byte above", 0xE1, 0x80, 0xC0);
    }

    private static void refused(String what, int... bytes) {
        Bytes content = Bytes.of(3, bytes.length + 2, 'a').add(bytes).add('z');
        Check.faulty(what, ChunkMaker.holding(Bytes.TEXT, 0).value(content).done(), 6, ChunkMaker.holding(Bytes.TEXT, 0).here() + 6);
    }

    private static void characters() {
        letters(Bytes.of(4, 0));
        letters(new Bytes().add(4, 5).number(0).number(65535).number(65536).number(65537).number(-1), 0, 65535, 0, 1, 65535);
        letters(new Bytes().add(4, 2).number(55296).number(57343), 55296, 57343);
        letters(new Bytes().add(4, 3).number(Long.MIN_VALUE).number(Long.MAX_VALUE).number(0x7FFF8000L), 0, 65535, 32768);
    }

    private static void latin() {
        letters(Bytes.of(5, 0));
        letters(Bytes.of(5, 4, 0, 127, 128, 255), 0, 127, 128, 255);
        FlightReader reader = Check.opened("the longest", Samples.longest(), 1);
        int last = (int) reader.value(0, 'n') - 1;
        Check.yes("its length needs two bytes", last > 127);
        Check.same("the last letter", reader.letter(0, 'n', last), 'x');
        Check.noArgument("the letter behind it", () -> reader.letter(0, 'n', last + 1));
    }
}
