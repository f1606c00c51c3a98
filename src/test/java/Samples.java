/** Recordings that several tests look into. */
final class Samples {
    private Samples() {
    }

    /**
     * An event of each plain type, a structure with a text and a key, an array of structures, an array of keys, an
     * empty array, and a key without a constant.
     */
    static Bytes rich() {
        ChunkMaker maker = ChunkMaker.with(
                Bytes.type(16, 'P', 1, Bytes.field('z', Bytes.BOOLEAN, 0), Bytes.field('b', Bytes.BYTE, 0),
                        Bytes.field('s', Bytes.SHORT, 0), Bytes.field('c', Bytes.CHAR, 0), Bytes.field('i', Bytes.INT, 0),
                        Bytes.field('l', Bytes.LONG, 0), Bytes.field('f', Bytes.FLOAT, 0), Bytes.field('d', Bytes.DOUBLE, 0)),
                Bytes.type(17, 'Q', 1, Bytes.field('s', 18, 0), Bytes.field('a', 18, Bytes.ARRAY),
                        Bytes.field('k', Bytes.INT, Bytes.POOL | Bytes.ARRAY), Bytes.field('e', Bytes.INT, Bytes.ARRAY),
                        Bytes.field('m', 18, Bytes.POOL), Bytes.field('p', 18, Bytes.POOL), Bytes.field('t', Bytes.TEXT, 0)),
                Bytes.type(18, 'S', 0, Bytes.field('t', Bytes.TEXT, 0), Bytes.field('o', 18, Bytes.POOL),
                        Bytes.field('n', Bytes.LONG, 0)));
        maker.checkpoint(0,
                Bytes.pool(Bytes.INT, Bytes.constant(1, Bytes.of(11)), Bytes.constant(-2, Bytes.of(22))),
                Bytes.pool(18, Bytes.constant(5, Bytes.none().latin("five").number(6).number(55)),
                        Bytes.constant(6, Bytes.of(0).number(5).number(66))));
        maker.happening(16, 1, Bytes.of(7, 200).number(0x1FFFF).number(0x1FFFF).number(0x1FFFFFFFFL)
                .number(Long.MIN_VALUE).big(0xBF800000L, 4).big(0xC000000000000001L, 8));
        Bytes parts = Bytes.of(2).latin("x").number(5).number(-1).add(1).number(99).number(2);
        maker.happening(17, 2, Bytes.of(0).number(6).number(3).join(parts).add(3, 1).number(-2).add(3).add(0)
                .number(77).number(5).add(4, 2).number(0x10041).number(8364));
        return maker.done();
    }

    /** A recording of 960 bytes, which is as long as one can be: one event with a long text. */
    static Bytes longest() {
        int letters = 960 - ChunkMaker.holding(Bytes.TEXT, 0).here() - 7;
        return ChunkMaker.holding(Bytes.TEXT, 0).value(Bytes.of(5).number(letters).join(Bytes.of('x').times(letters))).done();
    }

    /** One event of type E with a LONG field n for each number. */
    static Bytes longs(long... numbers) {
        ChunkMaker maker = ChunkMaker.holding(Bytes.LONG, 0);
        for (long n : numbers) {
            maker.value(new Bytes().number(n));
        }
        return maker.done();
    }
}
