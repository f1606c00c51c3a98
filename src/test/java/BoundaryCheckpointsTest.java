/** The boundary cases of "Terms": checkpoints, constants and their chain, and fault 7. */
final class BoundaryCheckpointsTest {
    public static void main(String[] args) {
        Check.sentence(3, "a number DELTA (0 if it is the first one; else another checkpoint lies so many bytes before it)",
                BoundaryCheckpointsTest::deltas);
        Check.sentence(3, "how many POOLS, and of each: its type's id (plain or a structure)", BoundaryCheckpointsTest::pools);
        Check.sentence(3, "how many constants, and each: its key (a long number) and its value", BoundaryCheckpointsTest::constants);
        Check.sentence(8, "and its value, as of a field without flags.", BoundaryCheckpointsTest::values);
        Check.sentence(3, "of a type of kind EVENT: the TICKS when it was (a long number), then the values of its type's fields.",
                BoundaryCheckpointsTest::otherEvents);
        Check.sentence(8, "CONSTANTS of a chunk are those of the checkpoints in its CHAIN: the last one, the one DELTA before it, "
                + "and so on.", BoundaryCheckpointsTest::chain);
        Check.sentence(8, "Of several with the same type and key it is that of the checkpoint which is met first in the chain, "
                + "and there the first one.", BoundaryCheckpointsTest::several);
        Check.sentence(3, "7 CHAIN: the last checkpoint, or one DELTA before another, is not a place at which an event of type 1 begins",
                BoundaryCheckpointsTest::faults);
        Check.sentence(3, "(place: of the last one byte 10 of the header; else where DELTA begins)", BoundaryCheckpointsTest::faultPlaces);
        Check.end();
    }

    private static Bytes ints(long key, int value) {
        return Bytes.pool(Bytes.INT, Bytes.constant(key, Bytes.of(value)));
    }

    private static void deltas() {
        Check.opened("0", ChunkMaker.simple().checkpoint(0).done(), 0);
        Check.opened("the one right before", ChunkMaker.simple().checkpoint(0).checkpoint(4).done(), 0);
        int first = ChunkMaker.simple().here();
        for (int delta = 1; delta <= 8; delta++) {
            Bytes chunk = ChunkMaker.simple().checkpoint(0).checkpoint(delta).done();
            if (delta != 4) {
                Check.faulty("DELTA " + delta, chunk, 7, first + 6);
            }
        }
        Check.faulty("to byte 0", ChunkMaker.simple().checkpoint(first).done(), 7, first + 2);
        Check.faulty("before byte 0", ChunkMaker.simple().checkpoint(first + 1).done(), 7, first + 2);
        ChunkMaker full = ChunkMaker.with().checkpoint(0);
        while (full.here() + 4 <= 960) {
            full.checkpoint(4);
        }
        Check.opened("as many as there can be", full.done(), 0);
        ChunkMaker far = ChunkMaker.holding(Bytes.INT, Bytes.POOL).checkpoint(0, ints(1, 9)).value(Bytes.of(1));
        Bytes text = new Bytes().number(700);
        far.event(0, Bytes.none().join(text).join(Bytes.of(0).times(700)));
        int back = far.here() - ChunkMaker.holding(Bytes.INT, Bytes.POOL).here();
        Check.same("a constant far before", Check.opened("far", far.checkpoint(back).done(), 1).value(0, 'n'), 9);
    }

    private static ChunkMaker types() {
        return ChunkMaker.with(Bytes.type(16, 'E', 1, Bytes.field('n', Bytes.INT, 0)),
                Bytes.type(17, 'S', 0, Bytes.field('n', Bytes.INT, 0)), Bytes.type(18, 'Z', 0));
    }

    private static void pools() {
        int at = types().here();
        Check.opened("no pools", types().checkpoint(0).done(), 0);
        for (int id = 0; id <= 19; id++) {
            Bytes chunk = types().checkpoint(0, Bytes.pool(id)).done();
            if (id >= 2 && id <= 10 || id == 17 || id == 18) {
                Check.opened("a pool of type " + id, chunk, 0);
            } else {
                Check.faulty("a pool of type " + id, chunk, 3, at + 4);
            }
        }
        Bytes many = Bytes.of(6, 0).times(200);
        Check.opened("200 pools", types().event(1, Bytes.of(0).number(200).join(many)).done(), 0);
        Check.faulty("the last of 200", types().event(1, Bytes.of(0).number(200).join(many.copy().set(398, 16))).done(), 3,
                at + 6 + 398);
        Check.opened("pools of the same type", types().checkpoint(0, ints(1, 1), ints(1, 1), ints(2, 2)).done(), 0);
    }

    private static void constants() {
        int at = types().here();
        Check.opened("none", types().checkpoint(0, Bytes.pool(Bytes.INT)).done(), 0);
        Check.faulty("one that is not there", types().event(1, Bytes.of(0, 1, 6, 1)).done(), 2, at + 6);
        Check.faulty("one without its value", types().event(1, Bytes.of(0, 1, 6, 1, 5)).done(), 2, at + 7);
        Check.faulty("one more than told", types().event(1, Bytes.of(0, 1, 6, 1, 5, 5, 6, 6)).done(), 5, at + 8);
        Bytes[] forty = new Bytes[40];
        for (int i = 0; i < 40; i++) {
            forty[i] = Bytes.constant(Long.MAX_VALUE + i, Bytes.of(i));
        }
        ChunkMaker maker = ChunkMaker.holding(Bytes.INT, Bytes.POOL).checkpoint(0, Bytes.pool(Bytes.INT, forty));
        FlightReader reader = Check.opened("40", maker.value(new Bytes().number(Long.MAX_VALUE + 39)).done(), 1);
        Check.same("the last one", reader.value(0, 'n'), 39);
    }

    private static void values() {
        Bytes s = Bytes.type(17, 'S', 0, Bytes.field('a', Bytes.BYTE, Bytes.ARRAY), Bytes.field('k', Bytes.BYTE, Bytes.POOL));
        ChunkMaker maker = ChunkMaker.with(Bytes.type(16, 'E', 1, Bytes.field('n', 17, 3), Bytes.field('b', Bytes.BYTE, 1)), s);
        maker.checkpoint(0, Bytes.pool(17, Bytes.constant(1, Bytes.of(2, 5, 6, 9)), Bytes.constant(2, Bytes.of(0, 8))),
                Bytes.pool(Bytes.BYTE, Bytes.constant(9, Bytes.of(200))));
        FlightReader reader = Check.opened("constants", maker.value(Bytes.of(3, 1, 2, 3, 9)).done(), 1);
        Check.same("an array in it", reader.value(0, Check.path("n0a")), 2);
        Check.same("a part of that", reader.value(0, Check.path("n0a1")), 6);
        Check.same("a key in it", reader.value(0, Check.path("n0k")), -56);
        Check.same("an empty array in it", reader.kind(0, Check.path("n1a0")), 0);
        Check.same("a key without a constant", reader.kind(0, Check.path("n1k")), 1);
        Check.same("one that is not there", reader.kind(0, Check.path("n2")), 1);
        Check.same("a plain one", reader.value(0, 'b'), -56);
    }

    private static void otherEvents() {
        int at = types().here();
        for (int id : new int[] {2, 10, 15, 17, 18, 19}) {
            Check.faulty("of type " + id, types().happening(id, 1, Bytes.of(1)).done(), 3, at + 1);
        }
        for (long ticks : new long[] {Long.MIN_VALUE, -1, 0, Long.MAX_VALUE}) {
            FlightReader reader = Check.opened("ticks", types().happening(16, ticks, Bytes.of(1)).done(), 1);
            Check.same("ticks", reader.event(0, 2), ticks);
        }
        Check.opened("no fields", ChunkMaker.with(Bytes.type(16, 'E', 1)).value(Bytes.none()).done(), 1);
        Check.faulty("no ticks", ChunkMaker.with(Bytes.type(16, 'E', 1)).event(16, Bytes.none()).done(), 2, 29);
    }

    private static ChunkMaker fourInARow() {
        ChunkMaker maker = ChunkMaker.holding(Bytes.INT, Bytes.POOL);
        for (int key = 1; key <= 4; key++) {
            maker.value(Bytes.of(key));
        }
        int before = maker.here();
        maker.checkpoint(0, ints(1, 11));
        for (int key = 2; key <= 4; key++) {
            int here = maker.here();
            maker.checkpoint(here - before, ints(key, 10 * key + key));
            before = here;
        }
        return maker;
    }

    private static void chain() {
        int first = ChunkMaker.holding(Bytes.INT, Bytes.POOL).here() + 16;
        FlightReader all = Check.opened("all four", fourInARow().done(), 4);
        for (int e = 0; e < 4; e++) {
            Check.same("constant " + e, all.value(e, 'n'), 11 * (e + 1));
        }
        // Each of these checkpoints has eight bytes.
        for (int last = 0; last < 4; last++) {
            FlightReader some = Check.opened("up to " + last, fourInARow().lastCheckpointAt(first + 8 * last).done(), 4);
            for (int e = 0; e < 4; e++) {
                Check.same("constant " + e + " of " + last, some.kind(e, 'n'), e <= last ? 6 : 1);
            }
        }
        Check.same("none", Check.opened("no chain", fourInARow().lastCheckpointAt(0).done(), 4).kind(0, 'n'), 1);
        Bytes two = fourInARow().done().join(fourInARow().lastCheckpointAt(0).done());
        Check.same("another chunk's are not its own", Check.opened("two chunks", two, 8).kind(4, 'n'), 1);
    }

    private static void several() {
        ChunkMaker maker = ChunkMaker.holding(Bytes.INT, Bytes.POOL).value(Bytes.of(1)).value(Bytes.of(2)).value(Bytes.of(3));
        int first = maker.here();
        maker.checkpoint(0, ints(1, 10), ints(2, 20), ints(2, 21), ints(3, 30));
        int outside = maker.here();
        maker.checkpoint(outside - first, ints(3, 33));
        int last = maker.here();
        maker.checkpoint(last - first, ints(1, 11), Bytes.pool(Bytes.LONG, Bytes.constant(3, Bytes.of(34))), ints(1, 12));
        FlightReader reader = Check.opened("several", maker.done(), 3);
        Check.same("the last checkpoint's, and its first", reader.value(0, 'n'), 11);
        Check.same("the first of one checkpoint", reader.value(1, 'n'), 20);
        Check.same("not one outside the chain, nor of another type", reader.value(2, 'n'), 30);
    }

    private static void faults() {
        int at = ChunkMaker.simple().here();
        Bytes chunk = ChunkMaker.simple().number(1).checkpoint(0).done();
        for (int place = 1; place < 80; place++) {
            Bytes other = chunk.copy().set(11, place);
            if (place == at + 5) {
                Check.opened("where it begins", other, 1);
            } else {
                Check.faulty("at " + place, other, 7, 10);
            }
        }
        Bytes hidden = ChunkMaker.simple().event(0, Bytes.of(4, 1, 0, 0)).lastCheckpointAt(at + 2).done();
        Check.faulty("what looks like one inside another event", hidden, 7, 10);
        Check.opened("a wrong DELTA outside the chain", ChunkMaker.simple().checkpoint(9).checkpoint(0).done(), 0);
    }

    private static void faultPlaces() {
        int at = ChunkMaker.simple().here();
        Bytes first = ChunkMaker.simple().checkpoint(0).done();
        Check.faulty("byte 10 of the second chunk", first.copy().join(ChunkMaker.simple().lastCheckpointAt(20).done()), 7,
                first.size() + 10);
        Check.faulty("DELTA of the last", ChunkMaker.simple().checkpoint(0).checkpoint(5).done(), 7, at + 6);
        Check.faulty("DELTA of one before", ChunkMaker.simple().checkpoint(1).checkpoint(4).done(), 7, at + 2);
        Check.faulty("to the chunk before", first.copy().join(ChunkMaker.simple().checkpoint(first.size()).done()), 7,
                first.size() + at + 2);
        Bytes longer = Bytes.of(133, 0, 1, 5, 0);
        Check.faulty("behind a longer length", ChunkMaker.simple().lastCheckpointAt(at).raw(longer).done(), 7, at + 3);
    }
}
