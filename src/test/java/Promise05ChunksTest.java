/** Promise 5: how many chunks the recording has. */
final class Promise05ChunksTest {
    public static void main(String[] args) {
        FlightReader reader = new FlightReader();
        Check.same("no recording", reader.chunks(), 0);
        Bytes chunk = ChunkMaker.simple().number(1).done();
        for (int n = 4; n >= 1; n--) {
            chunk.times(n).feedTo(reader);
            Check.same("bytes that are not read yet", reader.chunks(), n == 4 ? 0 : n + 1);
            Check.same("open()", reader.open(), n);
            Check.same("chunks()", reader.chunks(), n);
        }
        chunk.times(3).add(0).feedTo(reader);
        Check.noArgument("a faulty one", reader::open);
        Check.same("the one before", reader.chunks(), 1);
        Check.end();
    }
}
