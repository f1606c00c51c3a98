/** The boundary cases of "Terms": bytes and numbers. */
final class BoundaryNumbersTest {
    private static final long LAST = 2147483647L;
    private static final long FIRST_TOO_GREAT = 2147483648L;

    public static void main(String[] args) {
        Check.sentence(2, "BYTES are fed, at most 960 of them.", BoundaryNumbersTest::bytes);
        Check.sentence(8, "A NUMBER is COMPRESSED: seven bits of each byte, the lowest ones first, as long as bit 7 is set",
                BoundaryNumbersTest::sevenBits);
        Check.sentence(8, "a ninth byte gives all its eight bits: 64 bits.", BoundaryNumbersTest::ninthByte);
        Check.sentence(8, "LONG numbers are those 64 bits, as two's complement", BoundaryNumbersTest::longs);
        String below = "where a count, a length, a place or an id is meant it has to be below 2147483648.";
        Check.sentence(3, below, BoundaryNumbersTest::greatLengths);
        Check.sentence(3, below, BoundaryNumbersTest::greatTypeIds);
        String cut = "or it is a count, length, place or id that is not below 2147483648";
        Check.sentence(3, cut, BoundaryNumbersTest::greatTellings);
        Check.sentence(3, cut, BoundaryNumbersTest::greatCountsOfValues);
        Check.sentence(3, cut, BoundaryNumbersTest::greatCheckpoints);
        Check.end();
    }

    private static void bytes() {
        Bytes longest = Samples.longest();
        Check.same("its bytes", longest.size(), 960);
        FlightReader reader = new FlightReader();
        longest.first(957).feedTo(reader);
        Check.no("four bytes with room for three", reader.feed(0, 4));
        Check.yes("three bytes", reader.feed('x' << 16 | 'x' << 8 | 'x', 3));
        for (int n = 1; n <= 4; n++) {
            Check.no(n + " bytes with room for none", reader.feed(0, n));
        }
        Check.same("open() of 960 bytes", reader.open(), 1);
        Check.same("the last letter", reader.letter(0, 'n', (int) reader.value(0, 'n') - 1), 'x');
    }

    private static void sevenBits() {
        number(0, 0);
        number(127, 127);
        number(128, 128, 1);
        number(255, 255, 1);
        number(16383, 255, 127);
        number(16384, 128, 128, 1);
        number(2 + 3 * 128 + 4 * 16384, 130, 131, 4);
        number((1L << 49) - 1, 255, 255, 255, 255, 255, 255, 127);
        number(1L << 49, 128, 128, 128, 128, 128, 128, 128, 1);
        number((1L << 56) - 1, 255, 255, 255, 255, 255, 255, 255, 127);
        number(0, 128, 0);
        number(1, 129, 128, 128, 128, 128, 128, 128, 0);
    }

    private static void ninthByte() {
        number(1L << 56, 128, 128, 128, 128, 128, 128, 128, 128, 1);
        number(0, 128, 128, 128, 128, 128, 128, 128, 128, 0);
        number(127L << 56, 128, 128, 128, 128, 128, 128, 128, 128, 127);
        number(128L << 56, 128, 128, 128, 128, 128, 128, 128, 128, 128);
        number(129L << 56, 128, 128, 128, 128, 128, 128, 128, 128, 129);
        number(-1, 255, 255, 255, 255, 255, 255, 255, 255, 255);
        ChunkMaker two = ChunkMaker.with(Bytes.type(16, 'E', 1, Bytes.field('a', Bytes.LONG, 0), Bytes.field('b', Bytes.LONG, 0)));
        FlightReader reader = Check.opened("no tenth byte", two.value(Bytes.of(255).times(9).add(5)).done(), 1);
        Check.same("the number behind nine bytes", reader.value(0, 'b'), 5);
    }

    private static void number(long due, int... bytes) {
        FlightReader reader = Check.opened("LONG " + due, ChunkMaker.holding(Bytes.LONG, 0).value(Bytes.of(bytes)).done(), 1);
        Check.same("a number of " + bytes.length + " bytes", reader.value(0, 'n'), due);
    }

    private static void longs() {
        for (long n : new long[] {Long.MIN_VALUE, Long.MIN_VALUE + 1, -1, 0, Long.MAX_VALUE - 1, Long.MAX_VALUE}) {
            ChunkMaker maker = ChunkMaker.with(Bytes.type(16, 'E', 1, Bytes.field('n', Bytes.LONG, 0), Bytes.field('k', Bytes.INT, 1)));
            maker.checkpoint(0, Bytes.pool(Bytes.INT, Bytes.constant(n, Bytes.of(7))));
            maker.happening(16, n, new Bytes().number(n).number(n));
            FlightReader reader = Check.opened("with " + n, maker.done(), 1);
            Check.same("a value", reader.value(0, 'n'), n);
            Check.same("ticks", reader.event(0, 2), n);
            Check.same("the constant of the key " + n, reader.value(0, 'k'), 7);
        }
    }

    /** What the greatest number makes there, and that the next one and a negative one are CUT where they begin. */
    private static void great(String what, ChunkMaker before, Bytes front, int kind, int placeOfLast) {
        int place = before.here() + front.size();
        Bytes start = before.done();
        Bytes last = front.copy().number(LAST);
        Check.faulty(what + ", the last", grown(start, last), kind, placeOfLast);
        for (long n : new long[] {FIRST_TOO_GREAT, 1L << 32, Long.MAX_VALUE, Long.MIN_VALUE, -1}) {
            Check.faulty(what + " of " + n, grown(start, front.copy().number(n)), 2, place);
        }
    }

    /** A chunk with bytes added, whose size is mended; nine more are there, so that no number is cut by the end. */
    private static Bytes grown(Bytes chunk, Bytes more) {
        Bytes all = chunk.copy().join(more).join(Bytes.of(0).times(9));
        return all.set(6, all.size() >> 8).set(7, all.size());
    }

    private static void greatLengths() {
        int at = ChunkMaker.simple().here();
        great("an event's length", ChunkMaker.simple(), Bytes.none(), 5, at);
        great("the metadata's length", new ChunkMaker().metadataAt(20), Bytes.none(), 5, 20);
        int text = ChunkMaker.holding(Bytes.TEXT, 0).here() + 4;
        great("a length in UTF-8", ChunkMaker.holding(Bytes.TEXT, 0), Bytes.of(14, 16, 1, 3), 2, text);
        great("a length of bytes", ChunkMaker.holding(Bytes.TEXT, 0), Bytes.of(14, 16, 1, 5), 2, text);
    }

    private static void greatTypeIds() {
        int at = ChunkMaker.simple().here();
        great("an event's type", ChunkMaker.simple(), Bytes.of(12), 3, at + 1);
        great("the metadata's type", new ChunkMaker().metadataAt(20), Bytes.of(12), 3, 21);
        ChunkMaker far = ChunkMaker.with(Bytes.type((int) LAST, 'E', 1, Bytes.field('n', Bytes.INT, 0)));
        FlightReader reader = Check.opened("the greatest id", far.happening((int) LAST, 1, Bytes.of(9)).done(), 1);
        Check.same("its event's field", reader.value(0, 'n'), 9);
    }

    private static void greatTellings() {
        great("how many types", new ChunkMaker().metadataAt(20), Bytes.of(12, 0), 4, 22);
        // Behind the id comes a byte 0, which is no name.
        great("a told id", new ChunkMaker().metadataAt(20), Bytes.of(14, 0, 1), 4, 28);
        great("how many fields", new ChunkMaker().metadataAt(20), Bytes.of(14, 0, 1, 16, 'E', 1), 4, 26);
        // The event holds what follows: flags, and no more.
        great("a field's type", new ChunkMaker().metadataAt(20), Bytes.of(14, 0, 1, 16, 'E', 1, 1, 'n'), 4, 20);
    }

    private static void greatCountsOfValues() {
        int array = ChunkMaker.holding(Bytes.INT, Bytes.ARRAY).here();
        great("how many parts", ChunkMaker.holding(Bytes.INT, Bytes.ARRAY), Bytes.of(12, 16, 1), 2, array + 12);
        int text = ChunkMaker.holding(Bytes.TEXT, 0).here();
        great("how many characters", ChunkMaker.holding(Bytes.TEXT, 0), Bytes.of(13, 16, 1, 4), 2, text + 13);
    }

    private static void greatCheckpoints() {
        int at = ChunkMaker.simple().here();
        Check.faulty("the last DELTA", ChunkMaker.simple().checkpoint(LAST).done(), 7, at + 2);
        for (long n : new long[] {FIRST_TOO_GREAT, Long.MAX_VALUE, Long.MIN_VALUE, -1}) {
            Check.faulty("DELTA of " + n, ChunkMaker.simple().checkpoint(n).done(), 2, at + 2);
        }
        great("how many pools", ChunkMaker.simple(), Bytes.of(9, 1, 0), 3, at + 8);
        great("a pool's type", ChunkMaker.simple(), Bytes.of(12, 1, 0, 1), 3, at + 4);
        great("how many constants", ChunkMaker.simple(), Bytes.of(12, 1, 0, 1, 6), 2, at + 12);
    }
}
