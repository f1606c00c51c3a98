/** Promise 2: feed takes one to four bytes, the highest first, and 960 in all. */
final class Promise02FeedTest {
    public static void main(String[] args) {
        counts();
        order();
        room();
        Check.end();
    }

    private static void counts() {
        FlightReader reader = new FlightReader();
        Check.no("feed(1, 0)", reader.feed(1, 0));
        Check.no("feed(1, 5)", reader.feed(1, 5));
        Check.no("feed(1, -1)", reader.feed(1, -1));
        Check.no("feed(1, most)", reader.feed(1, Integer.MAX_VALUE));
        Check.no("feed(1, least)", reader.feed(1, Integer.MIN_VALUE));
        Check.noArgument("nothing was fed", reader::open);
        Check.same("place", reader.fault(1), 0);
    }

    private static void order() {
        Bytes recording = ChunkMaker.simple().number(7).done();
        for (int n = 1; n <= 4; n++) {
            FlightReader reader = new FlightReader();
            int at = 0;
            while (at < recording.size()) {
                int size = Math.min(n, recording.size() - at);
                // The bytes above the lowest ones have to be left out.
                int word = size < 4 ? 0x55555555 : 0;
                for (int i = 0; i < size; i++) {
                    word = word << 8 | recording.at(at + i);
                }
                Check.yes("feed of " + size, reader.feed(word, size));
                at += size;
            }
            Check.same("open() of bytes fed by " + n, reader.open(), 1);
            Check.same("value", reader.value(0, 'n'), 7);
        }
    }

    private static void room() {
        FlightReader reader = new FlightReader();
        for (int i = 0; i < 239; i++) {
            Check.yes("feed", reader.feed(0x464C5200, 4));
        }
        Check.yes("feed up to 959", reader.feed(0, 3));
        Check.no("feed of two with room for one", reader.feed(0, 2));
        Check.no("feed of four with room for one", reader.feed(0, 4));
        Check.yes("the last one", reader.feed(0, 1));
        Check.no("one too much", reader.feed(0, 1));
        Check.noArgument("open()", reader::open);
        Check.same("byte 4 is not 2", reader.fault(1), 4);
        Check.yes("room again", reader.feed(0, 4));
    }
}
