/** Promise 4: fault tells of the latest open() alone. */
final class Promise04FaultTest {
    public static void main(String[] args) {
        FlightReader reader = new FlightReader();
        none(reader, "no open()");
        Bytes.of(70, 76, 0).feedTo(reader);
        none(reader, "only fed");
        Check.noArgument("open()", reader::open);
        told(reader, 1, 2);
        reader.feed(1, 1);
        reader.type('?');
        Check.noArgument("select()", () -> reader.select(true));
        told(reader, 1, 2);
        Check.noArgument("open() of a byte", reader::open);
        told(reader, 1, 0);
        ChunkMaker.simple().number(1).raw(Bytes.of(9)).done().feedTo(reader);
        Check.noArgument("open() of a long event", reader::open);
        told(reader, 5, ChunkMaker.simple().number(1).here());
        ChunkMaker.simple().number(1).done().feedTo(reader);
        Check.same("open()", reader.open(), 1);
        none(reader, "good");
        Check.noArgument("open() of nothing", reader::open);
        told(reader, 2, 0);
        Check.end();
    }

    private static void none(FlightReader reader, String when) {
        Check.same("fault(0), " + when, reader.fault(0), 0);
        Check.same("fault(1), " + when, reader.fault(1), -1);
        others(reader);
    }

    private static void told(FlightReader reader, int kind, int place) {
        Check.same("fault(0)", reader.fault(0), kind);
        Check.same("fault(1)", reader.fault(1), place);
        others(reader);
    }

    private static void others(FlightReader reader) {
        Check.same("fault(2)", reader.fault(2), -1);
        Check.same("fault(-1)", reader.fault(-1), -1);
        Check.same("fault(least)", reader.fault(Integer.MIN_VALUE), -1);
        Check.same("fault(most)", reader.fault(Integer.MAX_VALUE), -1);
    }
}
