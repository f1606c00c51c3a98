/** Promise 10: forty characters from 32 to 126 may be typed. */
final class Promise10TypeTest {
    public static void main(String[] args) {
        for (int c = 0; c < 65536; c++) {
            boolean due = c >= 32 && c <= 126;
            FlightReader reader = new FlightReader();
            if (reader.type((char) c) != due) {
                Check.same("type of " + c, due ? 0 : 1, due ? 1 : 0);
            }
        }
        FlightReader reader = Check.opened("one event", ChunkMaker.simple().number(123456789).done(), 1);
        String full = "E:n=123456789&n>1&n>2&n>3&n>4&n>5&n>6789";
        Check.same("the length of it", full.length(), 40);
        Check.typed(reader, full);
        Check.no("the 41st", reader.type('0'));
        Check.no("the 41st", reader.type((char) 31));
        Check.same("select(true)", reader.select(true), 1);
        Check.typed(reader, full);
        Check.no("the 41st again", reader.type('&'));
        Check.same("what is refused does not count", reader.select(true), 1);
        Check.no("a tabulator", reader.type('\t'));
        Check.typed(reader, "n=1");
        Check.no("127", reader.type((char) 127));
        Check.no("a letter beyond", reader.type('\u00e4'));
        Check.same("select(true), refused ones left out", reader.select(true), 0);
        Check.same("misfit()", reader.misfit(), -1);
        Check.typed(reader, " ");
        Check.noArgument("a space is typed, but no filter", () -> reader.select(true));
        Check.same("misfit()", reader.misfit(), 0);
        Check.end();
    }
}
