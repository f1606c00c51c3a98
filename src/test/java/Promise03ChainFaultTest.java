/** Promise 3: the faults of checkpoints and of their chain (2, 3, 5, 7). */
final class Promise03ChainFaultTest {
    public static void main(String[] args) {
        contents();
        chain();
        order();
        Check.end();
    }

    private static ChunkMaker maker() {
        return ChunkMaker.with(Bytes.type(16, 'E', 1, Bytes.field('n', Bytes.INT, Bytes.POOL)),
                Bytes.type(17, 'S', 0, Bytes.field('n', Bytes.INT, 0)), Bytes.type(18, 'Z', 0));
    }

    private static void contents() {
        int at = maker().here() + 2;
        Bytes whole = Bytes.of(0, 2, 6, 1, 130, 0, 5, 17, 1, 3, 131, 0);
        int[] begins = {0, 1, 2, 3, 4, 4, 6, 7, 8, 9, 10, 10};
        for (int n = 0; n < whole.size(); n++) {
            Check.faulty("cut to " + n, maker().event(1, whole.first(n)).done(), 2, at + begins[n]);
        }
        Check.opened("whole", maker().event(1, whole).done(), 0);
        Check.faulty("more", maker().event(1, whole.copy().add(0)).done(), 5, at + 12);
        for (int id : new int[] {0, 1, 11, 15, 16, 19}) {
            Check.faulty("pool of type " + id, maker().event(1, Bytes.of(0, 1, id, 0)).done(), 3, at + 2);
        }
        for (int id = 2; id <= 10; id++) {
            Check.opened("pool of type " + id, maker().event(1, Bytes.of(0, 1, id, 0)).done(), 0);
        }
        Check.opened("constants without a byte", maker().event(1, Bytes.of(0, 1, 18, 2, 1, 2)).done(), 0);
        Check.faulty("a text in a pool", maker().event(1, Bytes.of(0, 1, 10, 1, 1, 6)).done(), 6, at + 5);
        Check.faulty("many pools", maker().event(1, Bytes.of(0).number(1L << 31)).done(), 2, at + 1);
        Check.faulty("a great delta", maker().event(1, new Bytes().number(1L << 31).add(0)).done(), 2, at);
        Check.opened("a wrong delta outside the chain", maker().event(1, new Bytes().number((1L << 31) - 1).add(0)).done(), 0);
    }

    private static void chain() {
        Bytes good = maker().done();
        int size = good.size();
        Check.faulty("no checkpoint there", maker().lastCheckpointAt(20).done(), 7, 10);
        Check.faulty("at the end", maker().lastCheckpointAt(size).done(), 7, 10);
        Check.faulty("in the header", maker().lastCheckpointAt(1).done(), 7, 10);
        Check.faulty("far behind", maker().lastCheckpointAt(65535).done(), 7, 10);
        Check.faulty("within one", maker().checkpoint(0).lastCheckpointAt(size + 1).done(), 7, 10);
        Check.faulty("an event", maker().lastCheckpointAt(size).happening(16, 1, Bytes.of(1)).done(), 7, 10);
        Check.faulty("in the second chunk", good.copy().join(maker().lastCheckpointAt(20).done()), 7, size + 10);
        Check.opened("in the second chunk", good.copy().join(maker().checkpoint(0).done()), 0);
        Check.opened("two", maker().checkpoint(0).checkpoint(4).done(), 0);
        Check.opened("three", maker().checkpoint(0).checkpoint(4).checkpoint(4).done(), 0);
        Check.opened("over one", maker().checkpoint(0).checkpoint(99).checkpoint(8).done(), 0);
        Check.faulty("delta too short", maker().checkpoint(0).checkpoint(3).done(), 7, size + 6);
        Check.faulty("delta before all", maker().checkpoint(4).done(), 7, size + 2);
        Check.faulty("delta to the metadata", maker().checkpoint(size - 20).done(), 7, size + 2);
        Check.faulty("the second of the chain", maker().checkpoint(1).checkpoint(4).done(), 7, size + 2);
        Check.faulty("to the chunk before", maker().checkpoint(0).done().join(maker().checkpoint(size + 4).done()), 7,
                size + 4 + size + 2);
        Check.faulty("the most", maker().checkpoint(Integer.MAX_VALUE).done(), 7, size + 2);
        Check.opened("no chain, though there are some", maker().checkpoint(77).lastCheckpointAt(0).done(), 0);
        Bytes kept = Bytes.of(4, 1, 0, 0);
        Check.faulty("one inside metadata", maker().lastCheckpointAt(size + 2).event(0, kept).done(), 7, 10);
    }

    private static void order() {
        int at = maker().here();
        Check.faulty("events come before the chain", maker().lastCheckpointAt(1).raw(Bytes.of(0)).done(), 5, at);
        Bytes first = maker().lastCheckpointAt(1).done();
        Check.faulty("a chunk comes before the next one", first.join(Bytes.of(0)), 7, 10);
    }
}
