/** Promise 9: the characters of a text, in each of its forms. */
final class Promise09LetterTest {
    public static void main(String[] args) {
        ChunkMaker maker = ChunkMaker.with(Bytes.type(16, 'E', 1, Bytes.field('t', Bytes.TEXT, 0), Bytes.field('n', Bytes.INT, 0)));
        maker.checkpoint(0, Bytes.pool(Bytes.TEXT, Bytes.constant(-9, Bytes.none().latin("pooled"))));
        add(maker, Bytes.of(0));
        add(maker, Bytes.of(1));
        add(maker, Bytes.of(2).number(-9));
        add(maker, Bytes.of(2).number(9));
        add(maker, Bytes.of(3, 8, 'a', 0xC3, 0xA4, 0xE2, 0x82, 0xAC, 0, 'z'));
        add(maker, Bytes.of(4, 3).number('a').number(0x12345).number(-1));
        add(maker, Bytes.of(5, 3, 'a', 0, 255));
        add(maker, Bytes.of(3, 0));
        add(maker, Bytes.of(4, 0));
        add(maker, Bytes.of(5, 0));
        FlightReader reader = Check.opened("texts", maker.done(), 10);

        noText(reader, 0);
        letters(reader, 1);
        letters(reader, 2, 'p', 'o', 'o', 'l', 'e', 'd');
        noText(reader, 3);
        letters(reader, 4, 'a', 228, 8364, 0, 'z');
        letters(reader, 5, 'a', 0x2345, 0xFFFF);
        letters(reader, 6, 'a', 0, 255);
        letters(reader, 7);
        letters(reader, 8);
        letters(reader, 9);
        wrong(reader);
        Check.end();
    }

    private static void add(ChunkMaker maker, Bytes text) {
        maker.happening(16, 1, text.copy().add(1));
    }

    private static void letters(FlightReader reader, int e, int... due) {
        Check.same("kind", reader.kind(e, 't'), 10);
        Check.same("length", reader.value(e, 't'), due.length);
        for (int i = 0; i < due.length; i++) {
            Check.same("letter " + i + " of " + e, reader.letter(e, 't', i), due[i]);
        }
        for (int i : new int[] {-1, due.length, Integer.MAX_VALUE, Integer.MIN_VALUE}) {
            Check.noArgument("letter " + i + " of " + e, () -> reader.letter(e, 't', i));
        }
    }

    private static void noText(FlightReader reader, int e) {
        Check.same("null", reader.kind(e, 't'), 1);
        Check.noElement("letter of null", () -> reader.letter(e, 't', 0));
        Check.noElement("letter -1 of null", () -> reader.letter(e, 't', -1));
    }

    private static void wrong(FlightReader reader) {
        Check.noIndex("no event", () -> reader.letter(10, 't', 0));
        Check.noIndex("no event, no text", () -> reader.letter(-1, 'q', -1));
        Check.noElement("a number", () -> reader.letter(2, 'n', 0));
        Check.noElement("the event", () -> reader.letter(2, 0, 0));
        Check.noElement("nothing", () -> reader.letter(2, 'q', 0));
        Check.noElement("a part of a text", () -> reader.letter(2, Check.path("t0"), 0));
    }
}
