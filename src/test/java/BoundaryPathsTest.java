/** The boundary cases of "Terms": paths, and of the promises 7, 8 and 9 that follow them. */
final class BoundaryPathsTest {
    public static void main(String[] args) {
        Check.sentence(7, "PATHS: four bytes of a number, the lowest one first; 0 ends it.", BoundaryPathsTest::bytes);
        Check.sentence(7, "a .. z: the field of that name of a structure (or event)", BoundaryPathsTest::fields);
        Check.sentence(7, "0 .. 9: that part of an array (0 the first)", BoundaryPathsTest::parts);
        Check.sentence(7, "where there is none, or another byte, it leads to NOTHING.", BoundaryPathsTest::nothing);
        Check.sentence(7, "A constant is taken for its key at once: if there is none, it is NULL", BoundaryPathsTest::constants);
        Check.sentence(7, "if it is a text by key again, likewise; a seventh key one after the other is NULL.", BoundaryPathsTest::keys);
        Check.sentence(7, "What a path from an event leads to: 0 nothing, 1 null, 2 to 10 a plain value of that type, "
                + "11 a structure (or the event), 12 an array.", BoundaryPathsTest::kinds);
        Check.sentence(7, "IndexOutOfBoundsException if there is no such event.", BoundaryPathsTest::kindOfNoEvent);
        Check.sentence(8, "of FLOAT and DOUBLE the bits (of FLOAT 32, without sign)", BoundaryPathsTest::bits);
        Check.sentence(8, "of a text or an array its length, of a structure its type's name, 0 of null.", BoundaryPathsTest::lengths);
        Check.sentence(8, "IndexOutOfBoundsException if there is no such event; NoSuchElementException if the path leads to nothing.",
                BoundaryPathsTest::valueRefused);
        Check.sentence(9, "Character i of a text.", BoundaryPathsTest::letters);
        Check.sentence(9, "IndexOutOfBoundsException if there is no such event; NoSuchElementException if the path does not lead to "
                + "a text; IllegalArgumentException if there is no such character.", BoundaryPathsTest::letterRefused);
        Check.end();
    }

    /** A structure that holds itself by a key: paths can be as long as they like. */
    private static FlightReader endless() {
        ChunkMaker maker = ChunkMaker.with(Bytes.type(16, 'E', 1, Bytes.field('s', 17, 1)),
                Bytes.type(17, 'S', 0, Bytes.field('s', 17, 1), Bytes.field('n', Bytes.INT, 0)));
        maker.checkpoint(0, Bytes.pool(17, Bytes.constant(1, Bytes.of(2, 11)), Bytes.constant(2, Bytes.of(1, 22))));
        return Check.opened("endless", maker.value(Bytes.of(1)).done(), 1);
    }

    private static void bytes() {
        FlightReader reader = endless();
        Check.same("no byte", reader.value(0, 0), 'E');
        Check.same("one byte", reader.value(0, 's'), 'S');
        Check.same("two bytes", reader.value(0, 's' | 'n' << 8), 11);
        Check.same("three bytes", reader.value(0, 's' | 's' << 8 | 'n' << 16), 22);
        Check.same("four bytes", reader.value(0, 's' | 's' << 8 | 's' << 16 | 'n' << 24), 11);
        Check.same("the highest first leads to nothing", reader.kind(0, 'n' | 's' << 8), 0);
        Check.same("0 ends it", reader.value(0, 's' | '?' << 16 | '?' << 24), 'S');
        Check.same("0 ends it at once", reader.value(0, 's' << 8 | 's' << 16), 'E');
        Check.same("0 ends it behind three", reader.value(0, 's' | 's' << 8 | 'n' << 16), 22);
        Check.same("all bits", reader.kind(0, -1), 0);
        Check.same("the highest bit", reader.kind(0, 's' | 's' << 8 | 's' << 16 | ('n' | 128) << 24), 0);
    }

    private static void fields() {
        ChunkMaker maker = ChunkMaker.with(Bytes.type(16, 'E', 1, Bytes.field('a', Bytes.BYTE, 0), Bytes.field('z', Bytes.BYTE, 0),
                Bytes.field('s', 17, 0)), Bytes.type(17, 'S', 0, Bytes.field('z', Bytes.BYTE, 0), Bytes.field('a', Bytes.BYTE, 0)));
        FlightReader reader = Check.opened("a and z", maker.value(Bytes.of(1, 2, 3, 4)).done(), 1);
        Check.same("a of the event", reader.value(0, 'a'), 1);
        Check.same("z of the event", reader.value(0, 'z'), 2);
        Check.same("z of the structure", reader.value(0, Check.path("sz")), 3);
        Check.same("a of the structure", reader.value(0, Check.path("sa")), 4);
        Check.same("b of the structure", reader.kind(0, Check.path("sb")), 0);
        Check.same("the byte before a", reader.kind(0, 'a' - 1), 0);
        Check.same("the byte behind z", reader.kind(0, 'z' + 1), 0);
    }

    private static void parts() {
        for (int n : new int[] {0, 1, 9, 10, 11}) {
            Bytes array = Bytes.of(n);
            for (int i = 0; i < n; i++) {
                array.add(20 + i);
            }
            FlightReader reader = Check.opened(n + " parts", ChunkMaker.holding(Bytes.BYTE, 2).value(array).done(), 1);
            for (int i = 0; i < 10; i++) {
                int path = 'n' | ('0' + i) << 8;
                Check.same("part " + i + " of " + n, reader.kind(0, path), i < n ? 3 : 0);
                if (i < n) {
                    Check.same("part " + i, reader.value(0, path), 20 + i);
                }
            }
            Check.same("the byte before 0", reader.kind(0, 'n' | ('0' - 1) << 8), 0);
            Check.same("the byte behind 9", reader.kind(0, 'n' | ('9' + 1) << 8), 0);
        }
    }

    private static void nothing() {
        FlightReader reader = Check.opened("rich", Samples.rich(), 2);
        for (int b = 1; b < 256; b++) {
            if (b >= 128 || "sakemptq".indexOf(b) < 0) {
                Check.same("byte " + b, reader.kind(1, b), 0);
            }
        }
        for (String path : new String[] {"q", "s0", "aa", "a2", "e0", "t0", "ta", "sna", "sn0", "mt", "m0", "k2a", "a1oo", "st0", "0", "q0"}) {
            Check.same("kind of " + path, reader.kind(1, Check.path(path)), 0);
        }
    }

    private static void constants() {
        FlightReader reader = Check.opened("rich", Samples.rich(), 2);
        Check.same("a structure", reader.kind(1, Check.path("p")), 11);
        Check.same("a field of it", reader.value(1, Check.path("pn")), 55);
        Check.same("none", reader.kind(1, Check.path("m")), 1);
        Check.same("a field of none", reader.kind(1, Check.path("mn")), 0);
        Check.same("part of an array", reader.value(1, Check.path("k1")), 22);
        Check.same("none in an array", reader.kind(1, Check.path("k2")), 1);
    }

    /** Text 0 is no key, and text i the key of text i - 1; text 20 is its own key. */
    private static FlightReader keysInARow(int flags) {
        Bytes[] texts = new Bytes[10];
        texts[0] = Bytes.constant(0, Bytes.none().latin("end"));
        for (int i = 1; i < 9; i++) {
            texts[i] = Bytes.constant(i, Bytes.of(2, i - 1));
        }
        texts[9] = Bytes.constant(20, Bytes.of(2, 20));
        ChunkMaker maker = ChunkMaker.holding(Bytes.TEXT, flags).checkpoint(0, Bytes.pool(Bytes.TEXT, texts));
        for (int i = 0; i < 9; i++) {
            maker.value(flags == 1 ? Bytes.of(i) : Bytes.of(2, i));
        }
        maker.value(flags == 1 ? Bytes.of(20) : Bytes.of(2, 20));
        return Check.opened("keys", maker.done(), 10);
    }

    private static void keys() {
        for (int flags = 0; flags <= 1; flags++) {
            FlightReader reader = keysInARow(flags);
            for (int i = 0; i < 9; i++) {
                Check.same((i + 1) + " keys, kind", reader.kind(i, 'n'), i < 6 ? 10 : 1);
                Check.same((i + 1) + " keys, length", reader.value(i, 'n'), i < 6 ? 3 : 0);
            }
            Check.same("the last of six", reader.letter(5, 'n', 0), 'e');
            Check.noElement("the last of seven", () -> reader.letter(6, 'n', 0));
            Check.same("keys without an end", reader.kind(9, 'n'), 1);
        }
    }

    private static void kinds() {
        FlightReader reader = Check.opened("rich", Samples.rich(), 2);
        String plain = "zbscilfd";
        for (int i = 0; i < plain.length(); i++) {
            Check.same("kind of " + plain.charAt(i), reader.kind(0, plain.charAt(i)), 2 + i);
        }
        Check.same("nothing", reader.kind(1, 'q'), 0);
        Check.same("null", reader.kind(1, Check.path("st")), 1);
        Check.same("a text", reader.kind(1, 't'), 10);
        Check.same("an empty text", reader.kind(1, Check.path("a1t")), 10);
        Check.same("the event", reader.kind(1, 0), 11);
        Check.same("a structure", reader.kind(1, 's'), 11);
        Check.same("an array", reader.kind(1, 'a'), 12);
        Check.same("an empty array", reader.kind(1, 'e'), 12);
    }

    private static void kindOfNoEvent() {
        FlightReader reader = Check.opened("rich", Samples.rich(), 2);
        Check.same("the last event", reader.kind(1, 0), 11);
        for (int e : new int[] {-1, 2, 60, Integer.MIN_VALUE, Integer.MAX_VALUE}) {
            Check.noIndex("kind(" + e + ", 0)", () -> reader.kind(e, 0));
        }
        FlightReader empty = Check.opened("no events", ChunkMaker.simple().done(), 0);
        Check.noIndex("no events", () -> empty.kind(0, 0));
        Check.noIndex("no recording", () -> new FlightReader().kind(0, 0));
    }

    private static void bits() {
        for (long bits : new long[] {0, 1, 0x7F800001L, 0x7FFFFFFFL, 0x80000000L, 0xFF800000L, 0xFFFFFFFFL}) {
            Bytes chunk = ChunkMaker.holding(Bytes.FLOAT, 0).value(new Bytes().big(bits, 4)).done();
            Check.same("FLOAT", Check.opened("FLOAT", chunk, 1).value(0, 'n'), bits);
        }
        for (long bits : new long[] {0, 1, 0x7FF0000000000001L, Long.MAX_VALUE, Long.MIN_VALUE, -1}) {
            Bytes chunk = ChunkMaker.holding(Bytes.DOUBLE, 0).value(new Bytes().big(bits, 8)).done();
            Check.same("DOUBLE", Check.opened("DOUBLE", chunk, 1).value(0, 'n'), bits);
        }
    }

    private static void lengths() {
        FlightReader reader = Check.opened("rich", Samples.rich(), 2);
        Check.same("a text", reader.value(1, 't'), 2);
        Check.same("an empty text", reader.value(1, Check.path("a1t")), 0);
        Check.same("an array", reader.value(1, 'a'), 2);
        Check.same("an empty array", reader.value(1, 'e'), 0);
        Check.same("a structure", reader.value(1, 's'), 'S');
        Check.same("the event", reader.value(1, 0), 'Q');
        Check.same("null by itself", reader.value(1, Check.path("st")), 0);
        Check.same("null by no constant", reader.value(1, 'm'), 0);
        Bytes utf8 = Bytes.of(3, 6, 0xE2, 0x82, 0xAC, 0xC3, 0xA4, 'a');
        Check.same("characters, not bytes", Check.opened("UTF-8", ChunkMaker.holding(Bytes.TEXT, 0).value(utf8).done(), 1).value(0, 'n'), 3);
    }

    private static void valueRefused() {
        FlightReader reader = Check.opened("rich", Samples.rich(), 2);
        for (int e : new int[] {-1, 2, Integer.MIN_VALUE, Integer.MAX_VALUE}) {
            Check.noIndex("value(" + e + ", 0)", () -> reader.value(e, 0));
            Check.noIndex("value(" + e + ") of nothing", () -> reader.value(e, 'q'));
        }
        for (String path : new String[] {"q", "a2", "e0", "mn", "t0", "sna"}) {
            Check.noElement("value of " + path, () -> reader.value(1, Check.path(path)));
        }
        Check.same("null is something", reader.value(1, 'm'), 0);
    }

    private static void letters() {
        ChunkMaker maker = ChunkMaker.holding(Bytes.TEXT, 0).value(Bytes.of(3, 5, 'a', 0xE2, 0x82, 0xAC, 'z')).value(Bytes.of(5, 1, 255));
        FlightReader reader = Check.opened("texts", maker.done(), 2);
        Check.same("the first", reader.letter(0, 'n', 0), 'a');
        Check.same("the second", reader.letter(0, 'n', 1), 8364);
        Check.same("the last", reader.letter(0, 'n', 2), 'z');
        Check.same("the only one", reader.letter(1, 'n', 0), 255);
        Check.noArgument("behind the last", () -> reader.letter(0, 'n', 3));
        Check.noArgument("behind the only one", () -> reader.letter(1, 'n', 1));
    }

    private static void letterRefused() {
        FlightReader reader = Check.opened("rich", Samples.rich(), 2);
        String before = Seen.of(reader);
        for (int e : new int[] {-1, 2, Integer.MIN_VALUE, Integer.MAX_VALUE}) {
            Check.noIndex("letter(" + e + ")", () -> reader.letter(e, 't', 0));
            Check.noIndex("letter(" + e + ") of nothing", () -> reader.letter(e, 'q', -1));
        }
        for (String path : new String[] {"", "q", "s", "a", "st", "m", "sn", "t0"}) {
            Check.noElement("letter of " + path, () -> reader.letter(1, Check.path(path), 0));
            Check.noElement("letter -1 of " + path, () -> reader.letter(1, Check.path(path), -1));
        }
        for (int i : new int[] {-1, 2, Integer.MIN_VALUE, Integer.MAX_VALUE}) {
            Check.noArgument("letter " + i, () -> reader.letter(1, 't', i));
        }
        Check.noArgument("letter 0 of an empty text", () -> reader.letter(1, Check.path("a1t"), 0));
        Check.sameText("all stays", Seen.of(reader), before);
    }
}
