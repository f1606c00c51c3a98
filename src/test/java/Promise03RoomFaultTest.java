/** Promise 3: fault 8, one too much of events, constants and values. */
final class Promise03RoomFaultTest {
    public static void main(String[] args) {
        events();
        constants();
        values();
        Check.end();
    }

    private static void events() {
        ChunkMaker maker = filled(60);
        Check.opened("others are free", maker.checkpoint(0).event(0, Bytes.none()).done(), 60);
        Bytes last = Bytes.event(16, Bytes.of(1, 1));
        int at = maker.here();
        Check.faulty("the 61st", maker.raw(last).done(), 8, at);
        Bytes full = filled(60).done();
        Check.faulty("in the second chunk", full.copy().join(ChunkMaker.simple().number(1).done()), 8,
                full.size() + ChunkMaker.simple().here());
        Check.faulty("its type comes before", filled(60).event(17, Bytes.none()).done(), 3, filled(60).here() + 1);
        Check.faulty("before its ticks", filled(60).event(16, Bytes.none()).done(), 8, filled(60).here());
        Check.faulty("its length comes before", filled(60).raw(Bytes.of(1)).done(), 5, filled(60).here());
    }

    private static ChunkMaker filled(int n) {
        ChunkMaker maker = ChunkMaker.simple();
        for (int i = 0; i < n; i++) {
            maker.number(i);
        }
        return maker;
    }

    private static void constants() {
        int at = ChunkMaker.simple().here();
        Check.opened("forty", ChunkMaker.simple().checkpoint(0, pool(40)).done(), 0);
        Check.faulty("forty-one", ChunkMaker.simple().checkpoint(0, pool(41)).done(), 8, at + 6 + 80);
        Check.faulty("before its key is read", ChunkMaker.simple().event(1, Bytes.of(0, 1, 6, 41).join(Bytes.of(1, 1).times(40))).done(), 8,
                at + 6 + 80);
        ChunkMaker two = ChunkMaker.simple().checkpoint(0, pool(30)).lastCheckpointAt(0);
        int second = two.here();
        Check.faulty("outside the chain, too", two.checkpoint(0, pool(11)).done(), 8, second + 6 + 20);
        Bytes each = ChunkMaker.simple().checkpoint(0, pool(40)).done();
        Check.opened("each chunk has its own", each.times(4), 0);
    }

    private static Bytes pool(int n) {
        Bytes[] all = new Bytes[n];
        for (int i = 0; i < n; i++) {
            all[i] = Bytes.constant(i, Bytes.of(i));
        }
        return Bytes.pool(Bytes.INT, all);
    }

    /** A structure of four in one another around a byte: five values, of one byte. */
    private static ChunkMaker nesting() {
        return ChunkMaker.with(
                Bytes.type(16, 'E', 1, Bytes.field('a', 17, Bytes.ARRAY)),
                Bytes.type(17, 'A', 0, Bytes.field('b', 18, 0)),
                Bytes.type(18, 'B', 0, Bytes.field('c', 19, 0)),
                Bytes.type(19, 'C', 0, Bytes.field('d', 20, 0)),
                Bytes.type(20, 'D', 0, Bytes.field('n', Bytes.BYTE, 0)),
                Bytes.type(21, 'F', 1, Bytes.field('n', Bytes.BYTE, 0)),
                Bytes.type(22, 'G', 1, Bytes.field('k', Bytes.BYTE, 3)),
                Bytes.type(23, 'H', 1, Bytes.field('t', Bytes.TEXT, 2)),
                Bytes.type(24, 'I', 1));
    }

    /** An event of 2 + 5 * n values. */
    private static ChunkMaker nesting(int n) {
        return nesting().happening(16, 1, new Bytes().number(n).join(Bytes.of(7).times(n)));
    }

    private static void values() {
        // 2 + 5 * 239 is 1197.
        int at = nesting(239).here();
        Check.opened("1199", nesting(239).happening(21, 1, Bytes.of(1)).done(), 2);
        Check.opened("1200", nesting(239).happening(21, 1, Bytes.of(1)).happening(24, 1, Bytes.none()).done(), 3);
        Check.faulty("1201, a field", nesting(239).happening(21, 1, Bytes.of(1)).happening(21, 300, Bytes.of(1)).done(), 8, at + 4 + 4);
        Check.faulty("1201, an event without fields",
                nesting(239).happening(21, 1, Bytes.of(1)).happening(24, 1, Bytes.none()).happening(24, 1, Bytes.none()).done(),
                8, at + 4 + 3 + 3);
        Check.opened("1200 with keys", nesting(239).happening(22, 1, Bytes.of(1, 9)).done(), 2);
        Check.faulty("1201, a key", nesting(239).happening(22, 1, Bytes.of(2, 9, 9)).done(), 8, at + 5);
        Check.faulty("1201 before it is read", nesting(239).happening(22, 1, Bytes.of(2, 9)).done(), 8, at + 5);
        Check.opened("1200 with null", nesting(239).happening(23, 1, Bytes.of(1, 0)).done(), 2);
        Check.faulty("1201, null", nesting(239).happening(23, 1, Bytes.of(2, 0, 0)).done(), 8, at + 5);
        Check.opened("1200 with constants", nesting(239).checkpoint(0, ofBytes(3)).done(), 1);
        Check.faulty("1201, a constant", nesting(239).checkpoint(0, ofBytes(4)).done(), 8, at + 6 + 7);
        // Of the array's 240th part three structures have room, all of which begin where it begins.
        Check.faulty("1201 inside", nesting(240).done(), 8, nesting().here() + 6 + 239);
        Bytes chunk = nesting(1).done();
        Check.opened("the recording's values", chunk.copy().join(nesting(238).done()), 2);
        Check.faulty("the recording's values", chunk.copy().join(nesting(239).done()), 8,
                chunk.size() + nesting().here() + 6 + 238);
    }

    private static Bytes ofBytes(int n) {
        Bytes[] all = new Bytes[n];
        for (int i = 0; i < n; i++) {
            all[i] = Bytes.constant(i, Bytes.of(i));
        }
        return Bytes.pool(Bytes.BYTE, all);
    }
}
