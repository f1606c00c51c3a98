/** Promise 11: which events pass, of those that are selected or of all. */
final class Promise11SelectTest {
    public static void main(String[] args) {
        comparisons();
        kinds();
        names();
        freshOrNot();
        refused();
        limits();
        Check.end();
    }

    private static FlightReader numbers() {
        ChunkMaker maker = ChunkMaker.simple();
        for (int n : new int[] {-5, 0, 3, 5, 3}) {
            maker.number(n);
        }
        return Check.opened("numbers", maker.done(), 5);
    }

    private static void comparisons() {
        FlightReader reader = numbers();
        passing(reader, "n=3", 2, 4);
        passing(reader, "n#3", 0, 1, 3);
        passing(reader, "n<3", 0, 1);
        passing(reader, "n>3", 3);
        passing(reader, "n=-5", 0);
        passing(reader, "n>-5", 1, 2, 3, 4);
        passing(reader, "n<-4", 0);
        passing(reader, "n=-0", 1);
        passing(reader, "n=000000003", 2, 4);
        passing(reader, "n>0&n<5", 2, 4);
        passing(reader, "n>0&n<5&n#3");
        passing(reader, "", 0, 1, 2, 3, 4);
        passing(reader, "E:", 0, 1, 2, 3, 4);
        passing(reader, "E:n>3", 3);
        passing(reader, "F:");
        passing(reader, "F:n>3");
        passing(reader, "q=0");
        passing(reader, "q#0");
        passing(reader, "n.0#0");
        passing(reader, "0=0");
    }

    private static void kinds() {
        FlightReader reader = Check.opened("rich", Samples.rich(), 2);
        passing(reader, "z=1", 0);
        passing(reader, "b=-56", 0);
        passing(reader, "s=-1", 0);
        passing(reader, "c=65535", 0);
        passing(reader, "i=-1", 0);
        passing(reader, "l<-999999999", 0);
        passing(reader, "f>0");
        passing(reader, "f#0");
        passing(reader, "d<0");
        passing(reader, "t#0");
        passing(reader, "a=2");
        passing(reader, "a#7");
        passing(reader, "m=0");
        passing(reader, "m#1");
        passing(reader, "s.n=3", 1);
        passing(reader, "s.o.n=66", 1);
        passing(reader, "s.o.o.n=55", 1);
        passing(reader, "a.0.n=-1", 1);
        passing(reader, "k.0=11", 1);
        passing(reader, "k.1>21", 1);
        passing(reader, "k.2=0");
        passing(reader, "p.o.o.n=55&k.0=11&a.1.n=2", 1);
    }

    private static void names() {
        ChunkMaker maker = ChunkMaker.with(Bytes.type(16, 'A', 1), Bytes.type(17, 'B', 1), Bytes.type(18, 'A', 1));
        for (int i = 0; i < 6; i++) {
            maker.happening(16 + i % 3, i, Bytes.none());
        }
        FlightReader reader = Check.opened("names", maker.done(), 6);
        passing(reader, "A:", 0, 2, 3, 5);
        passing(reader, "B:", 1, 4);
        passing(reader, "C:");
        passing(reader, "Z:");
        passing(reader, "B:", 1, 4);
        passing(reader, "", 0, 1, 2, 3, 4, 5);
    }

    private static void freshOrNot() {
        FlightReader reader = numbers();
        Check.typed(reader, "n>0");
        Check.same("select(false)", reader.select(false), 3);
        Check.typed(reader, "n<5");
        Check.same("of those", reader.select(false), 2);
        Check.same("the first of them", reader.selected(0), 2);
        Check.same("the second of them", reader.selected(1), 4);
        Check.same("nothing is typed", reader.select(false), 2);
        Check.typed(reader, "n<5");
        Check.same("of all", reader.select(true), 4);
        Check.typed(reader, "n>9");
        Check.same("none", reader.select(false), 0);
        Check.same("of none", reader.select(false), 0);
        Check.same("all", reader.select(true), 5);
        FlightReader empty = new FlightReader();
        Check.typed(empty, "n>0");
        Check.same("no recording", empty.select(true), 0);
        Check.typed(empty, "n>");
        Check.noArgument("no recording, no filter", () -> empty.select(true));
    }

    private static void refused() {
        FlightReader reader = numbers();
        Check.typed(reader, "n=3");
        Check.same("select(true)", reader.select(true), 2);
        Check.same("group", reader.group('n', 'n'), 1);
        Check.typed(reader, "n=5&");
        Check.noArgument("no filter", () -> reader.select(true));
        Check.same("the selection stays", reader.selected(1), 4);
        Check.noIndex("the selection stays", () -> reader.selected(2));
        Check.same("the groups stay", reader.grouped(0, 1), 2);
        Check.same("nothing is typed then", reader.select(false), 2);
        Check.noIndex("no groups are left", () -> reader.grouped(0, 1));
        for (String none : new String[] {"q?", "q.q", "E:q.a.", "n=7&q", "n>-"}) {
            Check.typed(reader, none);
            Check.noArgument("no filter", () -> reader.select(true));
            passing(reader, "n=3", 2, 4);
        }
    }

    private static void limits() {
        FlightReader reader = Check.opened("limits", ChunkMaker.simple().number(999999999).number(-999999999).done(), 2);
        passing(reader, "n=999999999", 0);
        passing(reader, "n=-999999999", 1);
        passing(reader, "n>999999998", 0);
        ChunkMaker longs = ChunkMaker.with(Bytes.type(16, 'E', 1, Bytes.field('n', Bytes.LONG, 0)));
        longs.number(Long.MAX_VALUE).number(Long.MIN_VALUE).number(1L << 32);
        FlightReader far = Check.opened("longs", longs.done(), 3);
        passing(far, "n>999999999", 0, 2);
        passing(far, "n<-999999999", 1);
        passing(far, "n=0");
    }

    private static void passing(FlightReader reader, String filter, int... due) {
        Check.typed(reader, filter);
        Check.same("select by " + filter, reader.select(true), due.length);
        Check.same("misfit() of " + filter, reader.misfit(), -1);
        for (int i = 0; i < due.length; i++) {
            Check.same("event " + i + " by " + filter, reader.selected(i), due[i]);
        }
        Check.noIndex("no more by " + filter, () -> reader.selected(due.length));
    }
}
