/** Promise 16: what is told of groups, and how long they are there. */
final class Promise16GroupedTest {
    public static void main(String[] args) {
        FlightReader reader = Check.opened("two", ChunkMaker.simple().number(4).number(5).number(4).done(), 3);
        gone(reader, "no group()");
        Check.same("group", reader.group('n', 'n'), 2);
        Check.same("number", reader.grouped(1, 0), 5);
        Check.same("events", reader.grouped(0, 1), 2);
        Check.same("numbers", reader.grouped(0, 2), 2);
        Check.same("sum", reader.grouped(0, 3), 8);
        Check.same("least", reader.grouped(0, 4), 4);
        Check.same("greatest", reader.grouped(0, 5), 4);
        for (int g : new int[] {2, -1, 60, Integer.MAX_VALUE, Integer.MIN_VALUE}) {
            Check.noIndex("grouped(" + g + ", 0)", () -> reader.grouped(g, 0));
            Check.noIndex("grouped(" + g + ", 9)", () -> reader.grouped(g, 9));
        }
        for (int what : new int[] {-1, 6, Integer.MAX_VALUE, Integer.MIN_VALUE}) {
            Check.noArgument("grouped(0, " + what + ")", () -> reader.grouped(0, what));
        }
        staying(reader);
        Check.same("a later one with none", reader.group('q', 'n'), 0);
        gone(reader, "none in the latest");
        Check.same("group", reader.group('n', 'n'), 2);
        Check.same("select() of all", reader.select(true), 3);
        gone(reader, "select() that changed nothing");
        Check.same("group", reader.group('n', 'n'), 2);
        ChunkMaker.simple().number(4).done().feedTo(reader);
        Check.same("feeding leaves them", reader.grouped(0, 0), 4);
        Check.same("open()", reader.open(), 1);
        gone(reader, "open()");
        Check.end();
    }

    private static void staying(FlightReader reader) {
        Check.typed(reader, "n=");
        Check.noArgument("select()", () -> reader.select(true));
        Check.same("select() that threw", reader.grouped(1, 0), 5);
        Check.noArgument("open()", reader::open);
        Check.same("open() that threw", reader.grouped(1, 0), 5);
        Check.same("fold", reader.fold(3, 'n'), 5);
        Check.same("fold leaves them", reader.grouped(1, 5), 5);
    }

    private static void gone(FlightReader reader, String when) {
        Check.noIndex("grouped(0, 0), " + when, () -> reader.grouped(0, 0));
        Check.noIndex("grouped(0, 9), " + when, () -> reader.grouped(0, 9));
    }
}
