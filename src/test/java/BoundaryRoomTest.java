/** The boundary cases of "Terms": fault 8, one too much. */
final class BoundaryRoomTest {
    public static void main(String[] args) {
        Check.sentence(3, "8 ROOM: more than 4 chunks (place: where the fifth begins, before its header is looked at)",
                BoundaryRoomTest::chunks);
        Check.sentence(3, "60 events of the recording besides metadata and checkpoints", BoundaryRoomTest::events);
        Check.sentence(3, "(place: where the one too much begins, when its type is known)", BoundaryRoomTest::eventPlaces);
        Check.sentence(3, "or 40 constants of a chunk's checkpoints, in the chain or not", BoundaryRoomTest::constants);
        Check.sentence(3, "(place: the key of the one too much, before it is read)", BoundaryRoomTest::constantPlaces);
        Check.sentence(3, "1200 values of a recording (a structure, also what an event's fields are together, an array, "
                + "all that is in them, a constant's value: each one, keys and null too", BoundaryRoomTest::values);
        Check.sentence(3, "place: where the one too much begins, before it is read: of an event behind its ticks", BoundaryRoomTest::valuePlaces);
        Check.end();
    }

    private static void chunks() {
        Bytes four = ChunkMaker.with().done().times(4);
        Check.same("chunks", Check.opened("four", four, 0).chunks(), 4);
        Check.faulty("a good fifth", four.copy().join(ChunkMaker.with().done()), 8, 92);
        Check.faulty("one byte of a fifth", four.copy().add(70), 8, 92);
        Check.faulty("one that begins no chunk", four.copy().add(0), 8, 92);
        Check.faulty("a fault in the fourth", ChunkMaker.with().done().times(3).join(ChunkMaker.with().done().set(4, 1)).add(0), 1, 73);
    }

    private static ChunkMaker filled(int n) {
        ChunkMaker maker = ChunkMaker.with(Bytes.type(16, 'E', 1), Bytes.type(17, 'F', 1));
        for (int i = 0; i < n; i++) {
            maker.happening(16 + i % 2, i, Bytes.none());
        }
        return maker;
    }

    private static void events() {
        Check.opened("59", filled(59).done(), 59);
        FlightReader full = Check.opened("60", filled(60).done(), 60);
        Check.same("the last one's ticks", full.event(59, 2), 59);
        Check.faulty("61", filled(61).done(), 8, filled(60).here());
        ChunkMaker others = filled(60).checkpoint(0).checkpoint(0).event(0, Bytes.none()).event(0, Bytes.none());
        Check.opened("60 and others", others.done(), 60);
        Bytes three = filled(20).done().times(3);
        Check.opened("20 in each of three chunks", three, 60);
        Check.opened("60 in three chunks, none in the fourth", three.copy().join(filled(0).done()), 60);
        Check.faulty("one in the fourth", three.copy().join(filled(1).done()), 8, three.size() + filled(0).here());
    }

    private static void eventPlaces() {
        int at = filled(60).here();
        Check.faulty("before its ticks", filled(60).event(16, Bytes.none()).done(), 8, at);
        Check.faulty("before too much", filled(60).event(16, Bytes.of(1, 2, 3)).done(), 8, at);
        Check.faulty("its length comes before", filled(60).raw(Bytes.of(1, 16)).done(), 5, at);
        Check.faulty("a type that is none comes before", filled(60).event(18, Bytes.of(1)).done(), 3, at + 1);
        Check.faulty("a type that is cut comes before", filled(60).raw(Bytes.of(2, 144)).done(), 2, at + 1);
    }

    private static Bytes pool(int n) {
        Bytes[] all = new Bytes[n];
        for (int i = 0; i < n; i++) {
            all[i] = Bytes.constant(i, Bytes.of(i));
        }
        return Bytes.pool(Bytes.INT, all);
    }

    private static void constants() {
        int at = ChunkMaker.simple().here();
        Check.opened("40", ChunkMaker.simple().checkpoint(0, pool(40)).done(), 0);
        Check.faulty("41", ChunkMaker.simple().checkpoint(0, pool(41)).done(), 8, at + 6 + 80);
        Check.opened("40 in two pools", ChunkMaker.simple().checkpoint(0, pool(20), pool(20)).done(), 0);
        Check.faulty("41 in two pools", ChunkMaker.simple().checkpoint(0, pool(20), pool(21)).done(), 8, at + 8 + 80);
        Check.opened("40 in two checkpoints", ChunkMaker.simple().checkpoint(0, pool(20)).checkpoint(0, pool(20)).done(), 0);
        ChunkMaker apart = ChunkMaker.simple().checkpoint(0, pool(20)).checkpoint(0, pool(21)).lastCheckpointAt(0);
        Check.faulty("41 in two checkpoints, in no chain", apart.done(), 8, at + 46 + 46);
        Check.opened("40 and an empty pool", ChunkMaker.simple().checkpoint(0, pool(40), pool(0)).done(), 0);
        Check.opened("40 in each of four chunks", ChunkMaker.simple().checkpoint(0, pool(40)).done().times(4), 0);
    }

    private static void constantPlaces() {
        int at = ChunkMaker.simple().here() + 6 + 80;
        Bytes forty = Bytes.of(0, 1, 6, 41).join(Bytes.of(1, 1).times(40));
        Check.faulty("its key is not there", ChunkMaker.simple().event(1, forty).done(), 8, at);
        Check.faulty("its key is cut", ChunkMaker.simple().event(1, forty.copy().add(200)).done(), 8, at);
        Check.faulty("its value is cut", ChunkMaker.simple().event(1, forty.copy().add(1)).done(), 8, at);
        Check.faulty("the fortieth is cut", ChunkMaker.simple().event(1, forty.first(83)).done(), 2, at - 1);
    }

    /** Type 16 makes 2 + 5 * n values of n bytes; the others are what may come behind. */
    private static ChunkMaker nesting(int n) {
        ChunkMaker maker = ChunkMaker.with(
                Bytes.type(16, 'E', 1, Bytes.field('a', 17, Bytes.ARRAY)),
                Bytes.type(17, 'A', 0, Bytes.field('b', 18, 0)),
                Bytes.type(18, 'B', 0, Bytes.field('c', 19, 0)),
                Bytes.type(19, 'C', 0, Bytes.field('d', 20, 0)),
                Bytes.type(20, 'D', 0, Bytes.field('n', Bytes.BYTE, 0)),
                Bytes.type(21, 'F', 1),
                Bytes.type(22, 'G', 1, Bytes.field('k', Bytes.BYTE, 3)),
                Bytes.type(23, 'H', 1, Bytes.field('t', Bytes.TEXT, 2)),
                Bytes.type(24, 'I', 1, Bytes.field('a', Bytes.LONG, 0), Bytes.field('b', Bytes.BYTE, 0)),
                Bytes.type(25, 'J', 0));
        return maker.happening(16, 1, new Bytes().number(n).join(Bytes.of(7).times(n)));
    }

    /** An array of 239 makes 1197 values, so three more have room. */
    private static void values() {
        int at = nesting(239).here();
        Check.opened("1197", nesting(239).done(), 1);
        Bytes event = Bytes.event(21, Bytes.of(1));
        Check.opened("1200 with three events", nesting(239).raw(event.times(3)).done(), 4);
        Check.faulty("1201 with four events", nesting(239).raw(event.times(4)).done(), 8, at + 3 * 3 + 3);
        Check.opened("1200 with an array and a key", nesting(239).happening(22, 1, Bytes.of(1, 9)).done(), 2);
        Check.faulty("1201 with two keys", nesting(239).happening(22, 1, Bytes.of(2, 9, 9)).done(), 8, at + 5);
        Check.opened("1200 with an array and null", nesting(239).happening(23, 1, Bytes.of(1, 0)).done(), 2);
        Check.faulty("1201 with null twice", nesting(239).happening(23, 1, Bytes.of(2, 0, 0)).done(), 8, at + 5);
        Check.opened("1200 with two fields", nesting(239).happening(24, 1, Bytes.of(1, 1)).done(), 2);
        Check.opened("1199 with an empty array", nesting(239).happening(22, 1, Bytes.of(0)).done(), 2);
        Check.faulty("1201 inside of parts", nesting(240).done(), 8, nesting(0).here() - 4 + 6 + 239);
        Bytes byKeys = Bytes.pool(25, Bytes.constant(1, Bytes.none()), Bytes.constant(2, Bytes.none()), Bytes.constant(3, Bytes.none()));
        Check.opened("1200 with constants", nesting(239).checkpoint(0, byKeys).done(), 1);
        Check.faulty("1201 with an event behind them", nesting(239).checkpoint(0, byKeys).raw(event).done(), 8, at + 9 + 3);
        Bytes small = nesting(1).done();
        Check.opened("1199 in two chunks", small.copy().join(nesting(238).done()), 2);
        Check.opened("1200 in two chunks", small.copy().join(nesting(238).raw(event).done()), 3);
        Check.faulty("1201 in two chunks", small.copy().join(nesting(238).raw(event.times(2)).done()), 8,
                small.size() + nesting(238).here() + 6);
    }

    private static void valuePlaces() {
        int at = nesting(239).here();
        Bytes full = Bytes.event(22, Bytes.of(1, 1, 9));
        int end = at + full.size();
        Check.faulty("an event behind its ticks", nesting(239).raw(full).happening(21, Long.MIN_VALUE, Bytes.none()).done(), 8, end + 11);
        Check.faulty("an event whose ticks are cut", nesting(239).raw(full).event(21, Bytes.none()).done(), 2, end + 2);
        Check.faulty("a part that is not there", nesting(239).event(22, Bytes.of(1, 2, 9)).done(), 8, at + 5);
        Check.faulty("a field that is not there", nesting(239).happening(21, 1, Bytes.none()).event(24, Bytes.of(1, 1)).done(), 8, at + 3 + 4);
        Bytes four = Bytes.pool(Bytes.BYTE, Bytes.constant(1, Bytes.of(1)), Bytes.constant(2, Bytes.of(2)),
                Bytes.constant(3, Bytes.of(3)), Bytes.constant(300, Bytes.none()));
        Check.faulty("a constant behind its key", nesting(239).checkpoint(0, four).done(), 8, at + 6 + 6 + 2);
        Check.faulty("a constant whose key is cut", nesting(239).event(1, Bytes.of(0, 1, 3, 4, 1, 1, 2, 2, 3, 3, 200)).done(), 2, at + 6 + 6);
    }
}
