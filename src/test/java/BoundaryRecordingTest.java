/** The boundary cases of the promises 1 to 6: a new object, feed, open, fault, chunks and event. */
final class BoundaryRecordingTest {
    public static void main(String[] args) {
        Check.sentence(1, "No bytes, no recording, nothing typed or selected.", BoundaryRecordingTest::newObject);
        Check.sentence(1, "An object is used for at most 512 calls after it has been made", BoundaryRecordingTest::lastCall);
        Check.sentence(2, "Appends the n lowest bytes of word, the highest of them first", BoundaryRecordingTest::lowestBytes);
        Check.sentence(2, "false, refused, if n is not 1 .. 4", BoundaryRecordingTest::howManyBytes);
        Check.sentence(2, "or there would be more than 960.", BoundaryRecordingTest::tooManyBytes);
        Check.sentence(3, "Reads the bytes as a recording, which takes the place of the one before", BoundaryRecordingTest::replaces);
        Check.sentence(3, "how many events it has (without metadata and checkpoints); all of them are selected then.",
                BoundaryRecordingTest::howManyEvents);
        Check.sentence(3, "No bytes are there then.", BoundaryRecordingTest::noBytesThen);
        Check.sentence(3, "IllegalArgumentException if there is a fault (the recording before stays; no bytes are there either).",
                BoundaryRecordingTest::faulty);
        Check.sentence(4, "The latest open()'s fault: its kind (what = 0), its place (1); 0, -1 if there was none",
                BoundaryRecordingTest::latestFault);
        Check.sentence(4, "-1 for other whats.", BoundaryRecordingTest::otherWhats);
        Check.sentence(5, "How many chunks the recording has; 0 if there is none.", BoundaryRecordingTest::chunks);
        Check.sentence(6, "Of an event, in the recording's order: its chunk (what = 0), its type's name (1), its ticks (2)",
                BoundaryRecordingTest::events);
        Check.sentence(6, "with d = its ticks less those at the start (64 bits, what is beyond is lost) and f ticks a second",
                BoundaryRecordingTest::ticksPassed);
        Check.sentence(6, "d / f * 1000000000 + d % f * 1000000000 / f; / goes to the lower whole number, % is what is left then",
                BoundaryRecordingTest::lowerNumbers);
        Check.sentence(6, "what is beyond 64 bits is lost).", BoundaryRecordingTest::nanosBeyond);
        Check.sentence(6, "IndexOutOfBoundsException if there is no such event; IllegalArgumentException if there is no such what.",
                BoundaryRecordingTest::eventRefused);
        Check.end();
    }

    private static void newObject() {
        FlightReader reader = new FlightReader();
        Check.sameText("nothing is seen", Seen.of(reader), "chunks 0; selected; groups");
        Check.same("misfit()", reader.misfit(), -1);
        Check.same("nothing typed: a filter that all pass", reader.select(false), 0);
        Check.same("it did not throw", reader.misfit(), -1);
        Check.same("how many numbers", reader.fold(0, 0), 0);
        Check.same("no groups", reader.group(0, 0), 0);
        Check.noArgument("no bytes", reader::open);
        Check.same("the fault of no bytes", reader.fault(0), 2);
        Check.same("its place", reader.fault(1), 0);
        Check.opened("room for all 960 bytes", Samples.longest(), 1);
    }

    /** The 512th call answers as any other, whatever the calls before it were. */
    private static void lastCall() {
        FlightReader reader = new FlightReader();
        Bytes recording = Samples.longs(7);
        recording.feedTo(reader);
        Check.same("open()", reader.open(), 1);
        int calls = (recording.size() + 3) / 4 + 1;
        for (; calls < 511; calls++) {
            Check.noArgument("open() of no bytes", reader::open);
        }
        Check.same("call 512", reader.value(0, 'n'), 7);
        FlightReader grouping = Check.opened("60 numbers", Samples.longs(new long[60]), 60);
        // 2 calls of fault() and what was fed.
        for (calls = (Samples.longs(new long[60]).size() + 3) / 4 + 3; calls < 511; calls++) {
            Check.same("group()", grouping.group('n', 'n'), 1);
        }
        Check.same("call 512", grouping.grouped(0, 1), 60);
    }

    private static void lowestBytes() {
        for (int n = 1; n <= 4; n++) {
            // A header's first bytes, cut behind them, and then with the last of them wrong.
            fault(0x464C5200 >>> 8 * (4 - n) | high(n), n, 2, n);
            fault((0x464C5200 >>> 8 * (4 - n) | high(n)) ^ 1, n, 1, n - 1);
        }
        for (int n = 1; n <= 4; n++) {
            FlightReader reader = fedBy(Samples.rich(), n);
            Check.same("open() of what was fed by " + n, reader.open(), 2);
            Check.same("a DOUBLE", reader.value(0, 'd'), 0xC000000000000001L);
        }
    }

    /** Bits above the n lowest bytes, which have to be left out. */
    private static int high(int n) {
        return n == 4 ? 0 : 0x99999999 << 8 * n;
    }

    private static void fault(int word, int n, int kind, int place) {
        FlightReader reader = new FlightReader();
        Check.yes("feed of " + n, reader.feed(word, n));
        Check.noArgument("open()", reader::open);
        Check.same("kind, fed " + n, reader.fault(0), kind);
        Check.same("place, fed " + n, reader.fault(1), place);
    }

    private static FlightReader fedBy(Bytes recording, int n) {
        FlightReader reader = new FlightReader();
        for (int at = 0; at < recording.size(); at += n) {
            int size = Math.min(n, recording.size() - at);
            int word = 0xA5A5A5A5;
            for (int i = 0; i < size; i++) {
                word = word << 8 | recording.at(at + i);
            }
            Check.yes("feed", reader.feed(word, size));
        }
        return reader;
    }

    private static void howManyBytes() {
        Bytes recording = ChunkMaker.simple().number(7).done();
        FlightReader reader = new FlightReader();
        recording.first(4).feedTo(reader);
        for (int n : new int[] {0, 5, -1, 8, 260, Integer.MIN_VALUE, Integer.MAX_VALUE, Integer.MIN_VALUE + 1}) {
            Check.no("feed of " + n, reader.feed(0x55555555, n));
        }
        for (int at = 4; at < recording.size(); at++) {
            Check.yes("feed of 1", reader.feed(recording.at(at), 1));
        }
        Check.same("nothing was between", reader.open(), 1);
        Check.same("its number", reader.value(0, 'n'), 7);
    }

    private static void tooManyBytes() {
        Bytes longest = Samples.longest();
        for (int room = 0; room <= 4; room++) {
            FlightReader reader = new FlightReader();
            longest.first(960 - room).feedTo(reader);
            for (int n = room + 1; n <= 4; n++) {
                Check.no(n + " bytes, room for " + room, reader.feed(0, n));
            }
            Check.no("5 bytes", reader.feed(0, 5));
            for (int i = 0; i < room; i++) {
                Check.yes("a byte, room for " + (room - i), reader.feed('x', 1));
            }
            Check.no("a byte, room for none", reader.feed('x', 1));
            Check.same("the 960 are as they were", reader.open(), 1);
            Check.yes("room again", reader.feed(0, 4));
        }
    }

    private static void replaces() {
        FlightReader reader = Check.opened("rich", Samples.rich(), 2);
        Check.typed(reader, "z=1");
        Check.same("select", reader.select(true), 1);
        Check.same("group", reader.group('z', 'z'), 1);
        Samples.longs(5, 6, 7).feedTo(reader);
        Check.same("chunks of the one before", reader.chunks(), 1);
        Check.same("open()", reader.open(), 3);
        Check.sameText("all of it", Seen.of(reader), Seen.of(Check.opened("alone", Samples.longs(5, 6, 7), 3)));
        ChunkMaker.with().done().feedTo(reader);
        Check.same("open() of nothing told", reader.open(), 0);
        Check.sameText("all of it", Seen.of(reader), "chunks 1; selected; groups");
        roomAgain();
        constantsBefore();
    }

    /** What a recording takes of the room for values and letters is free for the next ones. */
    private static void roomAgain() {
        Bytes letters = Bytes.of(5).number(500).join(Bytes.of('x').times(500));
        Bytes text = ChunkMaker.holding(Bytes.TEXT, 0).value(letters).done();
        ChunkMaker maker = ChunkMaker.with(Bytes.type(16, 'E', 1, Bytes.field('n', 17, Bytes.ARRAY)),
                Bytes.type(17, 'S', 0, Bytes.field('t', 18, 0)), Bytes.type(18, 'T', 0, Bytes.field('b', Bytes.BYTE, 0)));
        Bytes values = maker.value(new Bytes().number(300).join(Bytes.of(9).times(300))).done();
        for (Bytes each : new Bytes[] {text, values}) {
            FlightReader reader = new FlightReader();
            for (int i = 0; i < 3; i++) {
                each.feedTo(reader);
                Check.same("open() again", reader.open(), 1);
                Check.same("all is there", reader.value(0, 'n'), each == text ? 500 : 300);
            }
            Check.same("nothing of the one before", reader.kind(0, 'n'), each == text ? 10 : 12);
        }
    }

    /** Neither constants nor checkpoints of a recording are those of the next ones. */
    private static void constantsBefore() {
        FlightReader reader = new FlightReader();
        Bytes[] pools = {Bytes.pool(Bytes.INT, Bytes.constant(1, Bytes.of(11)), Bytes.constant(2, Bytes.of(22))),
            Bytes.pool(Bytes.INT, Bytes.constant(1, Bytes.of(11)))};
        for (int i = 0; i < 4; i++) {
            ChunkMaker.holding(Bytes.INT, 1).checkpoint(0, pools[i / 2]).value(Bytes.of(2)).done().feedTo(reader);
            Check.same("open()", reader.open(), 1);
            Check.same("a constant of its own", reader.kind(0, 'n'), i < 2 ? 6 : 1);
        }
        ChunkMaker two = ChunkMaker.holding(Bytes.INT, 1).checkpoint(0, pools[0]);
        int second = two.here();
        two.checkpoint(0).done().feedTo(reader);
        Check.same("two checkpoints", reader.open(), 0);
        ChunkMaker.holding(Bytes.INT, 1).checkpoint(0, pools[0]).lastCheckpointAt(second).event(0, Bytes.of(0, 0)).done().feedTo(reader);
        Check.noArgument("a checkpoint of the one before", reader::open);
        Check.same("its fault", reader.fault(0), 7);
    }

    private static void howManyEvents() {
        Check.opened("none", ChunkMaker.with().done(), 0);
        Check.opened("none but others", ChunkMaker.simple().checkpoint(0).event(0, Bytes.none()).checkpoint(0).done(), 0);
        FlightReader one = Check.opened("one among others", ChunkMaker.simple().checkpoint(0).number(1).event(0, Bytes.none()).done(), 1);
        Check.sameText("it is selected", Seen.selected(one), " 0");
        FlightReader all = Check.opened("60", Samples.longs(new long[60]), 60);
        Check.same("the last is selected", all.selected(59), 59);
        Check.noIndex("no more", () -> all.selected(60));
        FlightReader four = Check.opened("in four chunks", Samples.longs(1).join(Samples.longs()).join(Samples.longs(2, 3)).join(Samples.longs(4)), 4);
        Check.sameText("all are selected", Seen.selected(four), " 0 1 2 3");
    }

    private static void noBytesThen() {
        FlightReader reader = Check.opened("good", Samples.longs(1), 1);
        Check.noArgument("no bytes", reader::open);
        Check.same("kind", reader.fault(0), 2);
        Check.same("place", reader.fault(1), 0);
        Samples.longs(2, 3).feedTo(reader);
        Check.same("only those fed since", reader.open(), 2);
        Samples.longest().feedTo(reader);
        Check.same("room for 960 again", reader.open(), 1);
    }

    private static void faulty() {
        FlightReader reader = Check.opened("good", Samples.longs(4, 5, 4), 3);
        Check.typed(reader, "n=4");
        Check.same("select", reader.select(true), 2);
        Check.same("group", reader.group('n', 'n'), 1);
        String before = Seen.of(reader);
        Bytes[] bad = {Bytes.none(), Bytes.of(1), ChunkMaker.simple().clock(0, 0).done(),
            ChunkMaker.simple().metadataAt(0).done(), ChunkMaker.simple().number(9).raw(Bytes.of(0)).done(),
            ChunkMaker.simple().number(9).lastCheckpointAt(1).done(), Samples.longs(9, 9).join(Bytes.of(70)),
            Samples.longs(1).times(4).add(70)};
        for (Bytes each : bad) {
            each.feedTo(reader);
            Check.noArgument("open()", reader::open);
            Check.yes("a fault", reader.fault(0) > 0);
            Check.sameText("all stays", Seen.of(reader), before);
            Check.noArgument("no bytes are there either", reader::open);
            Check.same("place", reader.fault(1), 0);
        }
        Samples.longs(8).feedTo(reader);
        Check.same("a good one", reader.open(), 1);
    }

    private static void latestFault() {
        FlightReader reader = new FlightReader();
        told(reader, 0, -1);
        Check.noArgument("open()", reader::open);
        told(reader, 2, 0);
        ChunkMaker.simple().raw(Bytes.of(0)).done().feedTo(reader);
        told(reader, 2, 0);
        Check.noArgument("open()", reader::open);
        told(reader, 5, ChunkMaker.simple().here());
        Samples.longs(1).feedTo(reader);
        Check.same("open()", reader.open(), 1);
        told(reader, 0, -1);
        Check.yes("feed", reader.feed(1, 1));
        Check.noArgument("open()", reader::open);
        told(reader, 1, 0);
        Check.same("select", reader.select(true), 1);
        told(reader, 1, 0);
    }

    private static void told(FlightReader reader, int kind, int place) {
        Check.same("fault(0)", reader.fault(0), kind);
        Check.same("fault(1)", reader.fault(1), place);
    }

    private static void otherWhats() {
        FlightReader reader = new FlightReader();
        for (int round = 0; round < 2; round++) {
            for (int what : new int[] {-1, 2, 3, 256, Integer.MIN_VALUE, Integer.MAX_VALUE}) {
                Check.same("fault(" + what + ")", reader.fault(what), -1);
            }
            Check.noArgument("open()", reader::open);
        }
    }

    private static void chunks() {
        FlightReader reader = new FlightReader();
        Check.same("no recording", reader.chunks(), 0);
        Check.noArgument("open()", reader::open);
        Check.same("none after a fault", reader.chunks(), 0);
        for (int n : new int[] {4, 1, 3}) {
            Samples.longs(1).times(n).feedTo(reader);
            Check.same("open()", reader.open(), n);
            Check.same("chunks()", reader.chunks(), n);
        }
        Samples.longs(1).times(4).add(70).feedTo(reader);
        Check.noArgument("five", reader::open);
        Check.same("as before", reader.chunks(), 3);
    }

    private static void events() {
        Bytes all = new Bytes();
        for (int c = 0; c < 4; c++) {
            ChunkMaker maker = ChunkMaker.with(Bytes.type(16, c == 3 ? 'Z' : (char) ('A' + c), 1));
            maker.happening(16, Long.MAX_VALUE - c, Bytes.none()).happening(16, Long.MIN_VALUE + c, Bytes.none());
            all.join(maker.done());
        }
        FlightReader reader = Check.opened("four chunks", all, 8);
        for (int e = 0; e < 8; e++) {
            Check.same("chunk of " + e, reader.event(e, 0), e / 2);
            Check.same("name of " + e, reader.event(e, 1), e / 2 == 3 ? 'Z' : 'A' + e / 2);
            Check.same("ticks of " + e, reader.event(e, 2), e % 2 == 0 ? Long.MAX_VALUE - e / 2 : Long.MIN_VALUE + e / 2);
        }
    }

    private static void nanos(long start, long perSecond, long ticks, long due) {
        Bytes chunk = ChunkMaker.simple().clock(start, perSecond).happening(16, ticks, Bytes.of(0)).done();
        String what = ticks + " from " + start + " by " + perSecond;
        Check.same(what, Check.opened(what, chunk, 1).event(0, 3), due);
    }

    private static void ticksPassed() {
        nanos(1000, 1000000000, 1000, 0);
        nanos(1000, 1000000000, 1001, 1);
        nanos(1000, 1000000000, 999, -1);
        nanos(0, 1000000000, Long.MAX_VALUE, Long.MAX_VALUE);
        nanos(0, 1000000000, Long.MIN_VALUE, Long.MIN_VALUE);
        // One tick less than the least 64 bits is the greatest.
        nanos(1, 1000000000, Long.MIN_VALUE, Long.MAX_VALUE);
        nanos(0xFFFFFFFFL, 1000000000, Long.MIN_VALUE, Long.MAX_VALUE - 0xFFFFFFFEL);
        nanos(1, 1000000000, Long.MIN_VALUE + 1, Long.MIN_VALUE);
    }

    private static void lowerNumbers() {
        nanos(0, 3, 1, 333333333L);
        nanos(0, 3, 2, 666666666L);
        nanos(0, 3, -1, -333333334L);
        nanos(0, 3, -2, -666666667L);
        nanos(0, 3, -3, -1000000000L);
        nanos(0, 3, -4, -1333333334L);
        nanos(0, 0xFFFFFFFFL, 1, 0);
        nanos(0, 0xFFFFFFFFL, 4, 0);
        nanos(0, 0xFFFFFFFFL, 5, 1);
        nanos(0, 0xFFFFFFFFL, -1, -1);
        nanos(0, 0xFFFFFFFFL, 0xFFFFFFFEL, 999999999L);
        nanos(0xFFFFFFFFL, 0xFFFFFFFFL, 0, -1000000000L);
    }

    private static void nanosBeyond() {
        nanos(0, 1, 9223372036L, 9223372036000000000L);
        nanos(0, 1, 9223372037L, -9223372036709551616L);
        nanos(0, 1, -9223372036L, -9223372036000000000L);
        nanos(0, 1, -9223372037L, 9223372036709551616L);
        nanos(0, 1, Long.MAX_VALUE, -1000000000L);
        nanos(0, 1, Long.MIN_VALUE, 0);
    }

    private static void eventRefused() {
        FlightReader reader = Check.opened("two events", Samples.longs(1, 2), 2);
        String before = Seen.of(reader);
        for (int e : new int[] {-1, 2, 60, Integer.MIN_VALUE, Integer.MAX_VALUE}) {
            for (int what : new int[] {-1, 0, 3, 4}) {
                Check.noIndex("event(" + e + ", " + what + ")", () -> reader.event(e, what));
            }
        }
        for (int what : new int[] {-1, 4, Integer.MIN_VALUE, Integer.MAX_VALUE}) {
            Check.noArgument("event(1, " + what + ")", () -> reader.event(1, what));
        }
        Check.sameText("all stays", Seen.of(reader), before);
        FlightReader full = Check.opened("60 events", Samples.longs(new long[60]), 60);
        Check.same("the sixtieth", full.event(59, 2), 1);
        Check.noIndex("behind it", () -> full.event(60, 0));
        Check.noIndex("no recording", () -> new FlightReader().event(0, 4));
    }
}
