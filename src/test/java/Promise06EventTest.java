/** Promise 6: an event's chunk, its type's name, its ticks and its nanoseconds. */
final class Promise06EventTest {
    public static void main(String[] args) {
        order();
        wrong();
        nanos();
        Check.end();
    }

    private static void order() {
        Bytes two = Bytes.none();
        for (int i = 0; i < 3; i++) {
            ChunkMaker maker = ChunkMaker.with(Bytes.type(16, (char) ('A' + i), 1), Bytes.type(17, 'Z', 1));
            maker.happening(17, 50 - i, Bytes.none()).checkpoint(0).happening(16, -7 - i, Bytes.none());
            two.join(maker.done());
        }
        FlightReader reader = Check.opened("three chunks", two, 6);
        for (int i = 0; i < 3; i++) {
            Check.same("chunk", reader.event(2 * i, 0), i);
            Check.same("chunk", reader.event(2 * i + 1, 0), i);
            Check.same("name", reader.event(2 * i, 1), 'Z');
            Check.same("name", reader.event(2 * i + 1, 1), 'A' + i);
            Check.same("ticks", reader.event(2 * i, 2), 50 - i);
            Check.same("ticks", reader.event(2 * i + 1, 2), -7 - i);
        }
    }

    private static void wrong() {
        FlightReader reader = Check.opened("two events", ChunkMaker.simple().number(1).number(2).done(), 2);
        for (int e : new int[] {-1, 2, 60, Integer.MAX_VALUE, Integer.MIN_VALUE}) {
            Check.noIndex("event(" + e + ", 0)", () -> reader.event(e, 0));
            Check.noIndex("event(" + e + ", 4)", () -> reader.event(e, 4));
        }
        for (int what : new int[] {-1, 4, Integer.MAX_VALUE, Integer.MIN_VALUE}) {
            Check.noArgument("event(1, " + what + ")", () -> reader.event(1, what));
        }
    }

    private static void nanos() {
        nanos(1000, 500, 1100, 200000000L);
        nanos(1000, 500, 1000, 0);
        nanos(1000, 500, 999, -2000000L);
        nanos(0, 3, 1, 333333333L);
        nanos(0, 3, -1, -333333334L);
        nanos(0, 3, -4, -1333333334L);
        nanos(0, 1, 7, 7000000000L);
        nanos(0xFFFFFFFFL, 1, 0, -4294967295000000000L);
        nanos(0, 0xFFFFFFFFL, 0xFFFFFFFEL, 999999999L);
        nanos(0, 0xFFFFFFFFL, 0xFFFFFFFFL, 1000000000L);
        nanos(0, 1, Long.MAX_VALUE, Long.MAX_VALUE * 1000000000L);
        nanos(0, 7, Long.MIN_VALUE, Math.floorDiv(Long.MIN_VALUE, 7L) * 1000000000L
                + Math.floorMod(Long.MIN_VALUE, 7L) * 1000000000L / 7);
        // The ticks less those at the start go beyond 64 bits here.
        nanos(1, 1, Long.MIN_VALUE, Long.MAX_VALUE * 1000000000L);
    }

    private static void nanos(long start, long perSecond, long ticks, long due) {
        Bytes chunk = ChunkMaker.simple().clock(start, perSecond).happening(16, ticks, Bytes.of(0)).done();
        FlightReader reader = Check.opened("clock", chunk, 1);
        Check.same("ticks", reader.event(0, 2), ticks);
        Check.same("nanoseconds of " + ticks + " from " + start + " by " + perSecond, reader.event(0, 3), due);
    }
}
