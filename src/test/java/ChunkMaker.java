/** Puts a chunk together: its header is written last, when all places are known. */
final class ChunkMaker {
    private final Bytes body = new Bytes();
    private int metadataAt = 0;
    private int checkpointAt = 0;
    private long startTicks = 1000;
    private long ticksPerSecond = 500;

    /** A chunk with these types, told at its beginning. */
    static ChunkMaker with(Bytes... types) {
        ChunkMaker maker = new ChunkMaker();
        maker.metadataAt = maker.here();
        maker.event(0, Bytes.types(types));
        return maker;
    }

    /** A chunk with one type of event, with one INT field n. */
    static ChunkMaker simple() {
        return with(Bytes.type(16, 'E', Bytes.EVENT, Bytes.field('n', Bytes.INT, 0)));
    }

    /** A chunk with one type of event, with one field n. */
    static ChunkMaker holding(int type, int flags) {
        return with(Bytes.type(16, 'E', Bytes.EVENT, Bytes.field('n', type, flags)));
    }

    /** The place in the chunk of what is added next. */
    int here() {
        return 20 + body.size();
    }

    ChunkMaker raw(Bytes bytes) {
        body.join(bytes);
        return this;
    }

    ChunkMaker event(int type, Bytes content) {
        return raw(Bytes.event(type, content));
    }

    /** An event with its ticks and what is in its fields. */
    ChunkMaker happening(int type, long ticks, Bytes fields) {
        return event(type, new Bytes().number(ticks).join(fields));
    }

    /** An event of the first type; its fields begin three bytes behind its own beginning (four from length 128 on). */
    ChunkMaker value(Bytes fields) {
        return happening(16, 1, fields);
    }

    ChunkMaker number(long n) {
        return happening(16, 1000, new Bytes().number(n));
    }

    /** A checkpoint, which is the chunk's last one until another comes. */
    ChunkMaker checkpoint(long delta, Bytes... pools) {
        checkpointAt = here();
        return event(1, new Bytes().number(delta).join(Bytes.pools(pools)));
    }

    ChunkMaker metadataHere() {
        metadataAt = here();
        return this;
    }

    ChunkMaker metadataAt(int place) {
        metadataAt = place;
        return this;
    }

    ChunkMaker lastCheckpointAt(int place) {
        checkpointAt = place;
        return this;
    }

    ChunkMaker clock(long start, long perSecond) {
        startTicks = start;
        ticksPerSecond = perSecond;
        return this;
    }

    Bytes done() {
        return Bytes.of(70, 76, 82, 0, 2, 1).big(here(), 2).big(metadataAt, 2).big(checkpointAt, 2)
                .big(startTicks, 4).big(ticksPerSecond, 4).join(body);
    }
}
