/** The boundary cases of "Terms": chunks, their headers and the faults 1 and 2 in them. */
final class BoundaryChunksTest {
    public static void main(String[] args) {
        Check.sentence(3, "A RECORDING is one or more CHUNKS, one behind the other, at most 4.", BoundaryChunksTest::chunks);
        Check.sentence(3, "0 to 3: 70, 76, 82, 0; 4: 2; 5: any", BoundaryChunksTest::signature);
        Check.sentence(3, "6, 7: its SIZE in bytes (the higher byte first, likewise all that follow), at least 20",
                BoundaryChunksTest::size);
        Check.sentence(3, "8, 9: the place in the chunk of its METADATA", BoundaryChunksTest::metadataPlace);
        Check.sentence(3, "10, 11: that of its last CHECKPOINT, 0 if it has none", BoundaryChunksTest::checkpointPlace);
        Check.sentence(6, "12 to 15 the TICKS at its start; 16 to 19 the ticks in a second (both without a sign; at least 1)",
                BoundaryChunksTest::ticks);
        Check.sentence(3, "Behind it, up to its end, lie EVENTS: a LENGTH (all bytes of the event, those of this number, too)",
                BoundaryChunksTest::events);
        Check.sentence(3, "1 HEADER (place: the byte; of size and ticks in a second their first one)", BoundaryChunksTest::places);
        Check.sentence(3, "if the chunk's end lies behind the bytes', 2 CUT, place: the size's first byte", BoundaryChunksTest::ends);
        Check.sentence(3, "of bytes 0 to 7 one that is not there at all is 2 (place: the bytes' number), in its turn.",
                BoundaryChunksTest::missing);
        Check.sentence(3, "bytes 0 to 4, the size (at least 20;", BoundaryChunksTest::turns);
        Check.end();
    }

    /** The smallest chunk: its header and metadata that tell nothing. */
    private static Bytes smallest() {
        return ChunkMaker.with().done();
    }

    private static void chunks() {
        Check.faulty("no chunk", Bytes.none(), 2, 0);
        for (int n = 1; n <= 4; n++) {
            Check.same("chunks", Check.opened(n + " chunks", smallest().times(n), 0).chunks(), n);
        }
        Check.faulty("5 chunks", smallest().times(5), 8, 4 * smallest().size());
    }

    private static void signature() {
        int[] due = {70, 76, 82, 0, 2};
        for (int i = 0; i < 5; i++) {
            for (int b : new int[] {0, 1, 2, 3, 69, 70, 71, 75, 77, 81, 83, 255}) {
                Bytes other = smallest().set(i, b);
                if (b != due[i]) {
                    Check.faulty("byte " + i + " is " + b, other, 1, i);
                }
            }
        }
        for (int b = 0; b < 256; b++) {
            Check.opened("byte 5 is " + b, smallest().set(5, b), 0);
        }
    }

    private static void size() {
        Check.same("the smallest chunk", smallest().size(), 23);
        Check.opened("size 23", smallest(), 0);
        Check.faulty("size 0", smallest().set(7, 0), 1, 6);
        Check.faulty("size 19", smallest().set(7, 19), 1, 6);
        // Its size is right then, but there is no place for metadata behind the header.
        Check.faulty("size 20", smallest().set(7, 20).set(9, 20).first(20), 3, 8);
        Bytes longest = Samples.longest();
        Check.same("the higher byte of 960", longest.at(6), 3);
        Check.same("the lower byte of 960", longest.at(7), 192);
        Check.opened("size 960", longest, 1);
        Check.faulty("size 65535", Samples.longest().set(6, 255).set(7, 255), 2, 6);
    }

    private static void metadataPlace() {
        Bytes told = Bytes.event(0, Bytes.types(Bytes.type(16, 'E', 1, Bytes.field('n', Bytes.INT, 0))));
        Check.opened("the first place", new ChunkMaker().metadataAt(20).raw(told).done(), 0);
        Check.faulty("one before", new ChunkMaker().metadataAt(19).raw(told).done(), 3, 8);
        ChunkMaker late = new ChunkMaker();
        for (int i = 0; i < 50; i++) {
            late.number(i);
        }
        Check.yes("a place that needs both bytes", late.here() > 255);
        FlightReader reader = Check.opened("the last place", late.metadataHere().raw(told).done(), 50);
        Check.same("the last event before it", reader.value(49, 'n'), 49);
    }

    private static void checkpointPlace() {
        Bytes pool = Bytes.pool(Bytes.INT, Bytes.constant(1, Bytes.of(7)));
        ChunkMaker maker = ChunkMaker.holding(Bytes.INT, Bytes.POOL).value(Bytes.of(1)).checkpoint(0, pool);
        Check.same("the constant", Check.opened("a checkpoint", maker.done(), 1).value(0, 'n'), 7);
        Check.same("no constant", Check.opened("none is told of", maker.lastCheckpointAt(0).done(), 1).kind(0, 'n'), 1);
        Check.opened("there is none", ChunkMaker.simple().lastCheckpointAt(0).done(), 0);
        Check.faulty("none at 1", ChunkMaker.simple().lastCheckpointAt(1).done(), 7, 10);
        ChunkMaker far = ChunkMaker.holding(Bytes.INT, Bytes.POOL);
        for (int i = 0; i < 50; i++) {
            far.value(Bytes.of(1)).event(0, Bytes.none());
        }
        Check.yes("a place that needs both bytes", far.here() > 255);
        Check.same("the constant", Check.opened("far", far.checkpoint(0, pool).done(), 50).value(0, 'n'), 7);
    }

    private static void ticks() {
        nanos(0, 1, 0, 0);
        nanos(0x7FFFFFFFL, 1, 0x80000000L, 1000000000L);
        nanos(0x80000000L, 1, 0x80000000L, 0);
        nanos(0xFFFFFFFFL, 1, 0x100000000L, 1000000000L);
        nanos(0, 0x7FFFFFFFL, 0x7FFFFFFFL, 1000000000L);
        nanos(0, 0x80000000L, 0x80000000L, 1000000000L);
        nanos(0, 0xFFFFFFFFL, 0xFFFFFFFFL, 1000000000L);
        nanos(0x01020304L, 0x05060708L, 0x01020304L + 0x05060708L, 1000000000L);
        Check.faulty("no ticks in a second", ChunkMaker.simple().clock(5, 0).done(), 1, 16);
        for (int place = 16; place < 20; place++) {
            Check.opened("one bit of them", ChunkMaker.simple().clock(0, 0).done().set(place, 1), 0);
        }
    }

    private static void nanos(long start, long perSecond, long ticks, long due) {
        Bytes chunk = ChunkMaker.simple().clock(start, perSecond).happening(16, ticks, Bytes.of(0)).done();
        Check.same(ticks + " from " + start + " by " + perSecond, Check.opened("clock", chunk, 1).event(0, 3), due);
    }

    private static void events() {
        int at = ChunkMaker.simple().here();
        Check.opened("no event but metadata", ChunkMaker.simple().done(), 0);
        Check.opened("of two bytes, up to the end", ChunkMaker.simple().raw(Bytes.of(2, 0)).done(), 0);
        Check.opened("a number of two bytes counts as two", ChunkMaker.simple().raw(Bytes.of(133, 0, 16, 1, 9)).done(), 1);
        Check.faulty("one byte behind the last", ChunkMaker.simple().number(1).raw(Bytes.of(0)).done(), 5, at + 5);
        Check.faulty("one byte of a number behind it", ChunkMaker.simple().number(1).raw(Bytes.of(130)).done(), 2, at + 5);
        ChunkMaker longer = ChunkMaker.holding(Bytes.TEXT, 0);
        Bytes text = Bytes.of(5, 122).join(Bytes.of('x').times(122));
        Check.same("length 127", Check.opened("length 127", longer.value(text).done(), 1).value(0, 'n'), 122);
        Check.same("length 129", Check.opened("length 129", ChunkMaker.holding(Bytes.TEXT, 0)
                .value(Bytes.of(5, 123).join(Bytes.of('x').times(123))).done(), 1).value(0, 'n'), 123);
    }

    private static void places() {
        Bytes front = smallest();
        for (int i = 0; i < 5; i++) {
            Check.faulty("byte " + i + " of the second", front.copy().join(smallest().set(i, 9)), 1, 23 + i);
        }
        Check.faulty("the size of the second", front.copy().join(smallest().set(7, 19)), 1, 29);
        Check.faulty("the ticks of the second", front.copy().join(ChunkMaker.with().clock(1, 0).done()), 1, 39);
    }

    private static void ends() {
        Check.opened("at the bytes' end", smallest(), 0);
        Check.faulty("one behind it", smallest().set(7, 24), 2, 6);
        Check.faulty("only the header is there", smallest().first(20), 2, 6);
        Check.faulty("eight bytes are there", smallest().first(8), 2, 6);
        Check.faulty("of the second", smallest().join(smallest().first(22)), 2, 29);
    }

    private static void missing() {
        for (int before = 0; before <= 3; before++) {
            for (int n = before == 0 ? 0 : 1; n < 8; n++) {
                Check.faulty(n + " bytes behind " + before, smallest().times(before).join(smallest().first(n)), 2, 23 * before + n);
            }
        }
        for (int n = 1; n <= 5; n++) {
            Bytes wrong = smallest().set(n - 1, 99).first(n);
            Check.faulty("the last of " + n + " is wrong", wrong, 1, n - 1);
        }
        Check.faulty("a wrong byte before", smallest().set(0, 99).first(3), 1, 0);
    }

    private static void turns() {
        Bytes bad = ChunkMaker.with().clock(1, 0).done();
        Check.faulty("byte 4 before the size", bad.copy().set(4, 1).set(7, 0), 1, 4);
        Check.faulty("too small a size before the ticks", bad.copy().set(7, 19), 1, 6);
        Check.faulty("too great a size before the ticks", bad.copy().set(7, 24), 2, 6);
        Check.faulty("19 of less bytes", smallest().set(7, 19).first(8), 1, 6);
        Check.faulty("the ticks before the metadata's place", bad.copy().set(9, 0), 1, 16);
    }
}
