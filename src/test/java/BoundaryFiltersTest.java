/** The boundary cases of "Terms": filters, and of the promises 10 to 13 around them. */
final class BoundaryFiltersTest {
    public static void main(String[] args) {
        Check.sentence(11, "FILTERS are typed: perhaps a type's name A .. Z and :", BoundaryFiltersTest::names);
        Check.sentence(11, "then no COMPARISON, or some with & between", BoundaryFiltersTest::comparisons);
        Check.sentence(11, "a path (one to four of its characters, with . between)", BoundaryFiltersTest::paths);
        Check.sentence(11, "one of = # < >, perhaps -, 1 to 9 digits.", BoundaryFiltersTest::signsAndDigits);
        Check.sentence(11, "An event PASSES if its type has that name and each comparison holds", BoundaryFiltersTest::passing);
        Check.sentence(11, "what the path leads to is a BOOLEAN, BYTE, SHORT, CHAR, INT or LONG (a NUMBER)", BoundaryFiltersTest::numbers);
        Check.sentence(11, "and is equal to, other than, less than or greater than that.", BoundaryFiltersTest::signs);
        Check.sentence(10, "A character more of a filter; false, refused, if there are 40", BoundaryFiltersTest::forty);
        Check.sentence(10, "or it is not 32 .. 126.", BoundaryFiltersTest::typable);
        Check.sentence(11, "Takes what was typed as a filter; nothing is typed then.", BoundaryFiltersTest::nothingTyped);
        Check.sentence(11, "Of the events that are selected (fresh: of all) those that pass are selected now: how many.",
                BoundaryFiltersTest::freshOrNot);
        Check.sentence(11, "IllegalArgumentException if it is none (the selection stays)", BoundaryFiltersTest::refused);
        Check.sentence(11, "misfit() is the first character with which it is the beginning of no filter (its length at its end).",
                BoundaryFiltersTest::misfits);
        Check.sentence(12, "Where the latest select() threw; -1 if it did not, or there was none.", BoundaryFiltersTest::latest);
        Check.sentence(13, "The i-th selected event. IndexOutOfBoundsException if there is none such.", BoundaryFiltersTest::selected);
        Check.end();
    }

    private static FlightReader reader() {
        ChunkMaker maker = ChunkMaker.with(Bytes.type(16, 'A', 1, Bytes.field('n', Bytes.LONG, 0)),
                Bytes.type(17, 'Z', 1, Bytes.field('n', Bytes.LONG, 0)));
        maker.happening(16, 1, new Bytes().number(-1)).happening(17, 1, Bytes.of(0)).happening(16, 1, Bytes.of(1));
        return Check.opened("three events", maker.done(), 3);
    }

    /** Selects of all events; the row is the events that pass, as Seen tells them. */
    private static void taken(String filter, String due) {
        taken(reader(), filter, due);
    }

    private static void taken(FlightReader reader, String filter, String due) {
        Check.typed(reader, filter);
        int count = reader.select(true);
        Check.sameText("selected by " + filter, Seen.selected(reader), due);
        Check.same("how many by " + filter, count, due.length() / 2);
        Check.same("misfit() of " + filter, reader.misfit(), -1);
    }

    private static void misfit(String text, int due) {
        FlightReader reader = reader();
        Check.typed(reader, text);
        Check.noArgument("select by " + text, () -> reader.select(true));
        Check.same("misfit of " + text, reader.misfit(), due);
        Check.sameText("all stay selected", Seen.selected(reader), " 0 1 2");
    }

    private static void names() {
        taken("A:", " 0 2");
        taken("Z:", " 1");
        taken("B:", "");
        taken("Z:n=0", " 1");
        for (char c = 32; c < 127; c++) {
            boolean beginsPath = c >= 'a' && c <= 'z' || c >= '0' && c <= '9';
            if (c < 'A' || c > 'Z') {
                misfit(c + ":", beginsPath ? 1 : 0);
            }
        }
        misfit("A", 1);
        misfit("AZ:", 1);
        misfit("A::", 2);
        misfit("A:Z:", 2);
    }

    private static void comparisons() {
        taken("", " 0 1 2");
        taken("n=0", " 1");
        taken("n<1&n>-1", " 1");
        String ten = "n<9&n<9&n<9&n<9&n<9&n<9&n<9&n<9&n<9&n<1";
        Check.same("as long as can be", ten.length(), 39);
        taken(ten, " 0 1");
        misfit("&", 0);
        misfit("&n=0", 0);
        misfit("A:&n=0", 2);
        misfit("n=0&", 4);
        misfit("n=0&&n=0", 4);
        misfit("n=0 &n=0", 3);
        misfit("n=0n=0", 3);
        misfit("n=0&A:", 4);
        misfit("n<9&n<9&n<9&n<9&n<9&n<9&n<9&n<9&n<9&n<9&", 40);
    }

    private static void paths() {
        ChunkMaker maker = ChunkMaker.with(Bytes.type(16, 'E', 1, Bytes.field('a', 17, 2)),
                Bytes.type(17, 'S', 0, Bytes.field('z', Bytes.BYTE, 2)));
        Bytes row = Bytes.of(1, 10);
        for (int i = 0; i < 10; i++) {
            row.add(50 + i);
        }
        FlightReader reader = Check.opened("arrays", maker.value(row).done(), 1);
        taken(reader, "a.0.z.0=50", " 0");
        taken(reader, "a.0.z.9=59", " 0");
        taken(reader, "a.0.z.9=59&a.0.z.0=50", " 0");
        taken(reader, "a.0.z=10", "");
        taken(reader, "9=0", "");
        misfit("=1", 0);
        misfit(".n=1", 0);
        misfit("nn=1", 1);
        misfit("n.=1", 2);
        misfit("n..n=1", 2);
        misfit("n.A=1", 2);
        misfit("`=1", 0);
        misfit("{=1", 0);
        misfit("/=1", 0);
        misfit("n./", 2);
        misfit("n.{", 2);
        misfit("n.a.b.c.d=1", 7);
        misfit("n.a.b.c.", 7);
        misfit("n.a.b.c", 7);
    }

    private static void signsAndDigits() {
        taken("n=1", " 2");
        taken("n=-1", " 0");
        taken("n=-0", " 1");
        taken("n=000000001", " 2");
        taken("n=-000000001", " 0");
        taken("n<999999999", " 0 1 2");
        taken("n>-999999999", " 0 1 2");
        misfit("n=", 2);
        misfit("n=-", 3);
        misfit("n=--1", 3);
        misfit("n=-&", 3);
        misfit("n=1-", 3);
        misfit("n=0000000001", 11);
        misfit("n=-0000000001", 12);
        misfit("n=/", 2);
        misfit("n=:", 2);
        misfit("n=1:", 3);
        misfit("n==1", 2);
        misfit("n<>1", 2);
        for (char c = 32; c < 127; c++) {
            if ("=#<>.".indexOf(c) < 0) {
                misfit("n" + c + "1", 1);
            }
        }
    }

    private static void passing() {
        taken("A:n#0&n>0", " 2");
        taken("A:n=0", "");
        taken("Z:n=0&n=1", "");
        taken("n#0&n#1", " 0");
        taken("n=0&q=0", "");
        ChunkMaker same = ChunkMaker.with(Bytes.type(16, 'A', 1), Bytes.type(17, 'A', 1), Bytes.type(18, 'B', 1));
        same.happening(16, 1, Bytes.none()).happening(17, 1, Bytes.none()).happening(18, 1, Bytes.none());
        taken(Check.opened("two types of a name", same.done(), 3), "A:", " 0 1");
    }

    private static void numbers() {
        FlightReader reader = Check.opened("rich", Samples.rich(), 2);
        for (String path : new String[] {"z", "b", "c", "i", "l"}) {
            taken(reader, path + "#-9", " 0");
        }
        FlightReader second = Check.opened("rich", Samples.rich(), 2);
        taken(second, "s.n#-9", " 1");
        taken(second, "k.0#-9", " 1");
        for (String path : new String[] {"f", "d", "t", "a", "e", "m", "p", "k.2", "q", "s.t"}) {
            taken(second, path + "#-9", "");
        }
    }

    private static void signs() {
        long[] around = {-1000000000L, -999999999, -999999998, -1, 0, 1, 999999998, 999999999, 1000000000L, Long.MIN_VALUE, Long.MAX_VALUE};
        for (long that : new long[] {-999999999, 0, 999999999}) {
            FlightReader reader = Check.opened("numbers", Samples.longs(around), around.length);
            for (char sign : new char[] {'=', '#', '<', '>'}) {
                int due = 0;
                for (long n : around) {
                    boolean holds = sign == '=' ? n == that : sign == '#' ? n != that : sign == '<' ? n < that : n > that;
                    due += holds ? 1 : 0;
                }
                Check.typed(reader, "n" + sign + that);
                Check.same("n" + sign + that, reader.select(true), due);
            }
        }
    }

    private static void forty() {
        FlightReader reader = reader();
        String most = "A:n>-999999999&n<999999999&n#0&n#1&n#222";
        Check.same("its length", most.length(), 40);
        Check.typed(reader, most.substring(0, 39));
        Check.yes("the fortieth", reader.type('2'));
        for (char c = 32; c < 127; c++) {
            Check.no("the forty-first", reader.type(c));
        }
        Check.same("the forty are taken as they are", reader.select(true), 1);
        Check.same("the event", reader.selected(0), 0);
        Check.typed(reader, most);
        Check.no("forty again, and one more", reader.type('2'));
    }

    private static void typable() {
        for (int c = 0; c < 65536; c++) {
            FlightReader reader = new FlightReader();
            boolean due = c >= 32 && c <= 126;
            if (reader.type((char) c) != due) {
                Check.same("type of " + c, due ? 0 : 1, due ? 1 : 0);
            }
        }
        FlightReader reader = reader();
        Check.typed(reader, "n=");
        for (char c : new char[] {0, 31, 127, 128, 255, '\uffff', (char) ('1' + 256)}) {
            Check.no("refused", reader.type(c));
        }
        Check.typed(reader, "1");
        Check.same("what was refused is not typed", reader.select(true), 1);
        Check.same("the event", reader.selected(0), 2);
    }

    private static void nothingTyped() {
        FlightReader reader = reader();
        Check.typed(reader, "n=1");
        Check.same("a filter", reader.select(true), 1);
        Check.same("nothing is typed then", reader.select(true), 3);
        for (String none : new String[] {"n=", "A:n", "A:n.q?", "n=1&q", "n>-"}) {
            Check.typed(reader, none);
            Check.noArgument("no filter", () -> reader.select(true));
            Check.typed(reader, "n=0");
            Check.same("nothing was typed then", reader.select(true), 1);
        }
        Check.typed(reader, "A:");
        Check.same("a name", reader.select(true), 2);
        Check.typed(reader, "n=0");
        Check.same("no name is typed then", reader.select(true), 1);
        Check.typed(reader, "n=");
        Check.noArgument("open()", reader::open);
        ChunkMaker.simple().number(1).done().feedTo(reader);
        Check.same("open()", reader.open(), 1);
        Check.typed(reader, "1");
        Check.same("open() leaves what is typed", reader.select(true), 1);
    }

    private static void freshOrNot() {
        FlightReader reader = reader();
        Check.typed(reader, "n>-1");
        Check.same("of all that are selected", reader.select(false), 2);
        Check.typed(reader, "n<1");
        Check.same("of two", reader.select(false), 1);
        Check.sameText("the one", Seen.selected(reader), " 1");
        Check.same("of one, by nothing", reader.select(false), 1);
        Check.typed(reader, "n<1");
        Check.same("of all", reader.select(true), 2);
        Check.sameText("the two", Seen.selected(reader), " 0 1");
        Check.typed(reader, "n>5");
        Check.same("none", reader.select(false), 0);
        Check.same("of none", reader.select(false), 0);
        Check.same("of all, by nothing", reader.select(true), 3);
        FlightReader empty = new FlightReader();
        Check.same("no recording", empty.select(true), 0);
        Check.same("no recording", empty.select(false), 0);
    }

    private static void refused() {
        for (boolean fresh : new boolean[] {false, true}) {
            FlightReader reader = reader();
            Check.typed(reader, "n<1");
            Check.same("select", reader.select(true), 2);
            Check.same("group", reader.group('n', 'n'), 2);
            String before = Seen.of(reader);
            for (String none : new String[] {"?", "A", "n=1&", "n=1&n=?", "Z:q.0>-"}) {
                Check.typed(reader, none);
                Check.noArgument("select by " + none, () -> reader.select(fresh));
                Check.sameText("all stays", Seen.of(reader), before);
            }
        }
        FlightReader empty = new FlightReader();
        Check.typed(empty, "n");
        Check.noArgument("no recording", () -> empty.select(true));
        Check.same("its misfit", empty.misfit(), 1);
    }

    private static void misfits() {
        misfit(" ", 0);
        misfit("A", 1);
        misfit("A:n", 3);
        misfit("A:n.", 4);
        misfit("A:n=", 4);
        misfit("A:n=-", 5);
        misfit("A:n=-1&", 7);
        misfit("A:n=-1&?", 7);
        misfit("?????", 0);
        misfit("n=1?????", 3);
        String forty = "n=1&n=1&n=1&n=1&n=1&n=1&n=1&n=1&n=1&n=1";
        misfit(forty + "-", 39);
        misfit(forty + "&", 40);
    }

    private static void latest() {
        FlightReader reader = reader();
        Check.same("there was none", reader.misfit(), -1);
        Check.typed(reader, "n?");
        Check.same("typing is no select()", reader.misfit(), -1);
        Check.noArgument("select()", () -> reader.select(true));
        Check.same("it threw", reader.misfit(), 1);
        Check.noArgument("open()", reader::open);
        Check.same("open() that threw leaves it", reader.misfit(), 1);
        ChunkMaker.simple().done().feedTo(reader);
        Check.same("open()", reader.open(), 0);
        Check.same("open() leaves it", reader.misfit(), 1);
        Check.typed(reader, "A");
        Check.noArgument("select()", () -> reader.select(false));
        Check.same("the latest one", reader.misfit(), 1);
        Check.same("select()", reader.select(false), 0);
        Check.same("it did not throw", reader.misfit(), -1);
    }

    private static void selected() {
        FlightReader reader = reader();
        Check.same("the first", reader.selected(0), 0);
        Check.same("the last", reader.selected(2), 2);
        for (int i : new int[] {-1, 3, 60, Integer.MIN_VALUE, Integer.MAX_VALUE}) {
            Check.noIndex("selected(" + i + ")", () -> reader.selected(i));
        }
        Check.typed(reader, "n=1");
        Check.same("select", reader.select(true), 1);
        Check.same("the only one", reader.selected(0), 2);
        Check.noIndex("behind the only one", () -> reader.selected(1));
        Check.typed(reader, "n=7");
        Check.same("select of none", reader.select(true), 0);
        Check.noIndex("of none", () -> reader.selected(0));
        long[] sixty = new long[60];
        FlightReader full = Check.opened("60", Samples.longs(sixty), 60);
        Check.same("the sixtieth", full.selected(59), 59);
        Check.noIndex("behind the sixtieth", () -> full.selected(60));
    }
}
