/** Promise 15: groups in the order in which their numbers are met. */
final class Promise15GroupTest {
    public static void main(String[] args) {
        ChunkMaker maker = ChunkMaker.with(
                Bytes.type(16, 'E', 1, Bytes.field('k', Bytes.BYTE, 0), Bytes.field('n', Bytes.LONG, 0)),
                Bytes.type(17, 'F', 1, Bytes.field('k', Bytes.LONG, 0)),
                Bytes.type(18, 'G', 1, Bytes.field('k', Bytes.TEXT, 0), Bytes.field('n', Bytes.INT, 0)),
                Bytes.type(19, 'H', 1, Bytes.field('k', Bytes.BOOLEAN, 0), Bytes.field('n', Bytes.TEXT, 0)));
        maker.happening(16, 1, Bytes.of(3).number(10));
        maker.happening(16, 1, Bytes.of(1).number(-4));
        maker.happening(17, 1, Bytes.of(3));
        maker.happening(18, 1, Bytes.of(1, 3));
        maker.happening(16, 1, Bytes.of(3).number(-7));
        maker.happening(19, 1, Bytes.of(9, 1));
        maker.happening(17, 1, Bytes.none().number(-1));
        FlightReader reader = Check.opened("groups", maker.done(), 7);
        Check.same("by k", reader.group('k', 'n'), 3);
        row(reader, 0, 3, 3, 2, 3, -7, 10);
        row(reader, 1, 1, 2, 1, -4, -4, -4);
        row(reader, 2, -1, 1, 0, 0, 0, 0);
        Check.same("by k, of k", reader.group('k', 'k'), 3);
        row(reader, 0, 3, 3, 3, 9, 3, 3);
        row(reader, 1, 1, 2, 2, 2, 1, 1);
        row(reader, 2, -1, 1, 1, -1, -1, -1);
        Check.same("by n", reader.group('n', 'k'), 4);
        row(reader, 0, 10, 1, 1, 3, 3, 3);
        row(reader, 2, 3, 1, 0, 0, 0, 0);
        Check.same("by nothing", reader.group('q', 'k'), 0);
        Check.same("by the event", reader.group(0, 'k'), 0);
        Check.typed(reader, "k>1");
        Check.same("select", reader.select(true), 3);
        Check.same("the selected ones alone", reader.group('k', 'n'), 1);
        row(reader, 0, 3, 3, 2, 3, -7, 10);
        many();
        Check.end();
    }

    /** The group's number, events, numbers, sum, least and greatest. */
    private static void row(FlightReader reader, int g, long... due) {
        for (int what = 0; what < due.length; what++) {
            Check.same("grouped(" + g + ", " + what + ")", reader.grouped(g, what), due[what]);
        }
    }

    private static void many() {
        ChunkMaker maker = ChunkMaker.with(Bytes.type(16, 'E', 1, Bytes.field('n', Bytes.LONG, 0)));
        for (int i = 0; i < 60; i++) {
            maker.happening(16, 1, new Bytes().number(60 - i));
        }
        FlightReader reader = Check.opened("sixty", maker.done(), 60);
        Check.same("sixty groups", reader.group('n', 'n'), 60);
        row(reader, 0, 60, 1, 1, 60, 60, 60);
        row(reader, 59, 1, 1, 1, 1, 1, 1);
        ChunkMaker far = ChunkMaker.with(Bytes.type(16, 'E', 1, Bytes.field('k', Bytes.INT, 0), Bytes.field('n', Bytes.LONG, 0)));
        far.happening(16, 1, Bytes.of(1).number(Long.MAX_VALUE)).happening(16, 1, Bytes.of(1).number(Long.MAX_VALUE));
        FlightReader sums = Check.opened("far", far.done(), 2);
        Check.same("one group", sums.group('k', 'n'), 1);
        row(sums, 0, 1, 2, 2, -2, Long.MAX_VALUE, Long.MAX_VALUE);
    }
}
