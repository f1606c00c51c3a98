/** Promise 1: no bytes, no recording, nothing typed or selected. */
final class Promise01NewObjectTest {
    public static void main(String[] args) {
        FlightReader reader = new FlightReader();
        Check.same("chunks()", reader.chunks(), 0);
        Check.same("fault(0)", reader.fault(0), 0);
        Check.same("fault(1)", reader.fault(1), -1);
        Check.same("misfit()", reader.misfit(), -1);
        Check.noIndex("event(0, 0)", () -> reader.event(0, 0));
        Check.noIndex("kind(0, 0)", () -> reader.kind(0, 0));
        Check.noIndex("value(0, 0)", () -> reader.value(0, 0));
        Check.noIndex("letter(0, 0, 0)", () -> reader.letter(0, 0, 0));
        Check.noIndex("selected(0)", () -> reader.selected(0));
        Check.noIndex("grouped(0, 0)", () -> reader.grouped(0, 0));
        Check.same("fold(0, n)", reader.fold(0, 'n'), 0);
        Check.same("fold(1, n)", reader.fold(1, 'n'), 0);
        Check.noElement("fold(2, n)", () -> reader.fold(2, 'n'));
        Check.same("group(n, n)", reader.group('n', 'n'), 0);
        Check.same("select(false), nothing typed", reader.select(false), 0);
        Check.same("select(true), nothing typed", reader.select(true), 0);
        Check.noArgument("open(), no bytes", reader::open);
        Check.same("fault(0), no bytes", reader.fault(0), 2);
        Check.same("fault(1), no bytes", reader.fault(1), 0);

        FlightReader one = Check.opened("one of two", ChunkMaker.simple().number(1).done(), 1);
        FlightReader other = new FlightReader();
        Check.same("objects share nothing", other.chunks(), 0);
        Check.same("the first one has its recording", one.chunks(), 1);
        Check.end();
    }
}
