/** The boundary cases of "Terms": reading in its order, and the faults 2, 3, 5 and 6 of events. */
final class BoundaryFaultsTest {
    public static void main(String[] args) {
        Check.sentence(3, "READING a recording: chunk by chunk; of each first the header, then its metadata, then all its events "
                + "from byte 20 on in their order", BoundaryFaultsTest::order);
        Check.sentence(3, "then the chain.", BoundaryFaultsTest::chainComesLast);
        Check.sentence(3, "The first thing that is not as said makes a FAULT, told by its kind and place (a byte of the recording).",
                BoundaryFaultsTest::firstThing);
        Check.sentence(3, "2 CUT: a number or byte that is to be read goes beyond the end of its event", BoundaryFaultsTest::cuts);
        Check.sentence(3, "(of an event's length and type: of the chunk; and if the type ends behind the event's end)",
                BoundaryFaultsTest::cutHeads);
        Check.sentence(3, "or a length of text (of forms 3 and 5) that is longer than what is left of the event",
                BoundaryFaultsTest::longTexts);
        Check.sentence(3, "(place: the beginning of the number, or byte; of a FLOAT, DOUBLE or character of UTF-8 its first byte)",
                BoundaryFaultsTest::cutPlaces);
        Check.sentence(3, "3 TYPE: an id that is none there: of an event, or of a pool (not plain, nor a structure)",
                BoundaryFaultsTest::types);
        Check.sentence(3, "5 LENGTH: an event's length, as soon as it is read, is less than 2 or goes beyond the chunk "
                + "(place: where it begins)", BoundaryFaultsTest::lengths);
        Check.sentence(3, "or there is more than what it holds (place: the first byte too much; one that is shorter than what it "
                + "holds makes 2)", BoundaryFaultsTest::tooMuch);
        Check.sentence(3, "6 TEXT: a byte that tells no kind", BoundaryFaultsTest::textKinds);
        Check.sentence(3, "or a character that is not UTF-8 as said, or not whole (place: that byte; the character's first one)",
                BoundaryFaultsTest::characters);
        Check.end();
    }

    private static Bytes raw(int... bytes) {
        return ChunkMaker.simple().raw(Bytes.of(bytes)).done();
    }

    private static int here() {
        return ChunkMaker.simple().here();
    }

    private static void order() {
        Bytes none = Bytes.types(Bytes.type(16, 'E', 1, Bytes.field('n', 11, 0)));
        Bytes late = new ChunkMaker().raw(Bytes.of(0)).metadataHere().event(0, none).done();
        Check.faulty("metadata before events that lie before it", late, 4, 21);
        Check.faulty("the header before metadata", late.copy().set(16, 0).set(17, 0).set(18, 0).set(19, 0), 1, 16);
        Check.faulty("the first of two events", ChunkMaker.simple().event(17, Bytes.none()).raw(Bytes.of(0)).done(), 3, here() + 1);
        Check.faulty("the first byte behind the header", new ChunkMaker().raw(Bytes.of(1)).metadataHere()
                .event(0, Bytes.of(0)).done(), 5, 20);
        Check.faulty("the first of two chunks", raw(0).join(Bytes.of(1)), 5, here());
        Check.faulty("the second of two chunks", ChunkMaker.simple().done().join(raw(0)), 5, 2 * here());
    }

    private static void chainComesLast() {
        Check.faulty("an event before the chain", ChunkMaker.simple().lastCheckpointAt(1).raw(Bytes.of(0)).done(), 5, here());
        Check.faulty("a chain before the next chunk", ChunkMaker.simple().lastCheckpointAt(1).done().join(Bytes.of(1)), 7, 10);
        Check.faulty("a chain before a fifth chunk", ChunkMaker.with().done().times(3)
                .join(ChunkMaker.with().lastCheckpointAt(1).done()).join(Bytes.of(1)), 7, 79);
    }

    /** Every row has several faults; one after the other is mended, and the next one is told. */
    private static void firstThing() {
        Bytes types = Bytes.types(Bytes.type(16, 'E', 1, Bytes.field('t', Bytes.TEXT, 0)));
        ChunkMaker maker = new ChunkMaker().metadataAt(20).event(0, types.copy().set(2, '?')).clock(0, 0).lastCheckpointAt(1);
        int at = maker.here();
        Bytes all = maker.raw(Bytes.of(9, 17, 1, 6, 0)).done();
        Bytes bytes = Samples.longs(1).join(all.copy().set(0, 1)).add(70);
        int base = Samples.longs(1).size();
        told(bytes, 1, base);
        told(bytes.set(base, 70), 1, base + 16);
        told(bytes.set(base + 19, 1), 4, base + 24);
        told(bytes.set(base + 24, 'E'), 5, base + at);
        told(bytes.set(base + at, 5), 3, base + at + 1);
        told(bytes.set(base + at + 1, 16), 6, base + at + 3);
        told(bytes.set(base + at + 3, 0), 5, base + at + 4);
        told(bytes.set(base + at + 3, 3), 7, base + 10);
        told(bytes.set(base + 11, 0), 2, base + all.size() + 1);
        Check.opened("nothing is left to mend", bytes.first(base + all.size()), 2);
    }

    private static void told(Bytes bytes, int kind, int place) {
        Check.faulty("the fault at " + place, bytes, kind, place);
    }

    private static void cuts() {
        int[] sizes = {0, 0, 1, 1, 1, 1, 1, 1, 4, 8, 1};
        for (int type = 2; type <= 10; type++) {
            int at = ChunkMaker.holding(type, 0).here() + 3;
            Bytes whole = Bytes.of(1).times(sizes[type]);
            // An event behind it has bytes enough, but they are not its own.
            Bytes good = ChunkMaker.holding(type, 0).value(whole).value(whole).done();
            Check.opened("type " + type, good, 2);
            Bytes less = whole.first(sizes[type] - 1);
            Check.faulty("type " + type + ", one byte less", ChunkMaker.holding(type, 0).value(less).value(whole).done(), 2, at);
        }
        Check.faulty("ticks", raw(2, 16, 4, 16, 1, 1), 2, here() + 2);
        int at = ChunkMaker.holding(Bytes.BYTE, 3).here() + 3;
        Check.faulty("how many parts", ChunkMaker.holding(Bytes.BYTE, 3).value(Bytes.none()).done(), 2, at);
        Check.faulty("the second key", ChunkMaker.holding(Bytes.BYTE, 3).value(Bytes.of(2, 1)).done(), 2, at + 2);
        Check.opened("both keys", ChunkMaker.holding(Bytes.BYTE, 3).value(Bytes.of(2, 1, 1)).done(), 1);
    }

    private static void cutHeads() {
        Check.faulty("a length behind the chunk's end", raw(131), 2, here());
        Check.faulty("a length of nine bytes but one", raw(255, 255, 255, 255, 255, 255, 255, 255), 2, here());
        Check.faulty("a type behind the chunk's end", raw(2, 144), 2, here() + 1);
        Check.faulty("a type behind the event's end", raw(2, 144, 0, 1, 1), 2, here() + 1);
        Check.faulty("a type that ends at it, without ticks", raw(3, 144, 0), 2, here() + 3);
        Check.opened("a type that ends before it", raw(5, 144, 0, 1, 1), 1);
        Check.faulty("not by the next chunk's bytes", raw(131).join(ChunkMaker.simple().done()), 2, here());
        Check.faulty("type 0 behind the event's end", raw(2, 128, 0), 2, here() + 1);
        Check.opened("type 0 that ends at it", raw(3, 128, 0), 0);
    }

    private static void text(String what, Bytes content, int kind, int place) {
        int at = ChunkMaker.holding(Bytes.TEXT, 0).here() + 3;
        Check.faulty(what, ChunkMaker.holding(Bytes.TEXT, 0).value(content).value(Bytes.of(1)).done(), kind, at + place);
    }

    private static void longTexts() {
        for (int form : new int[] {3, 5}) {
            Bytes whole = Bytes.of(form, 2, 'a', 'b');
            Check.opened("as long as what is left", ChunkMaker.holding(Bytes.TEXT, 0).value(whole).value(Bytes.of(1)).done(), 2);
            text("one longer", Bytes.of(form, 3, 'a', 'b'), 2, 1);
            text("much longer", Bytes.of(form).number(Integer.MAX_VALUE).add('a'), 2, 1);
            text("one of which nothing is left", Bytes.of(form, 1), 2, 1);
            Check.opened("0 of which nothing is left", ChunkMaker.holding(Bytes.TEXT, 0).value(Bytes.of(form, 0)).done(), 1);
        }
        text("before what is in it", Bytes.of(3, 2, 255), 2, 1);
        text("but the character of form 4", Bytes.of(4, 3, 'a', 'b'), 2, 4);
    }

    private static void cutPlaces() {
        int at = here() + 3;
        for (int n = 1; n <= 8; n++) {
            Bytes open = Bytes.of(200).times(n);
            Check.faulty("a number of " + n + " bytes", ChunkMaker.simple().value(open).value(Bytes.of(1)).done(), 2, at);
        }
        for (int n = 0; n < 8; n++) {
            Bytes some = Bytes.of(1).times(n);
            Check.faulty("a DOUBLE of " + n, ChunkMaker.holding(Bytes.DOUBLE, 0).value(some).done(), 2, at);
            if (n < 4) {
                Check.faulty("a FLOAT of " + n, ChunkMaker.holding(Bytes.FLOAT, 0).value(some).done(), 2, at);
            }
        }
        text("a character's number", Bytes.of(4, 2, 'a', 200, 200), 2, 3);
        text("a key", Bytes.of(2, 200, 200), 2, 1);
        text("a text's kind", Bytes.none(), 2, 0);
    }

    private static void types() {
        for (int id : new int[] {2, 10, 11, 15, 17, 127}) {
            Check.faulty("event " + id, ChunkMaker.simple().event(id, Bytes.of(1, 1)).done(), 3, here() + 1);
            if (id > 10) {
                Check.faulty("pool " + id, ChunkMaker.simple().checkpoint(0, Bytes.pool(id)).done(), 3, here() + 4);
            }
        }
        Check.faulty("an event of two bytes", raw(2, 17), 3, here() + 1);
        Check.opened("an id that is there", ChunkMaker.simple().event(16, Bytes.of(1, 1)).done(), 1);
        Check.faulty("behind a longer length", raw(133, 0, 17, 1, 1), 3, here() + 2);
        Bytes chunks = ChunkMaker.with(Bytes.type(17, 'F', 1)).done();
        Check.faulty("an id of the chunk before", chunks.copy().join(raw(3, 17, 1)), 3, chunks.size() + here() + 1);
    }

    private static void lengths() {
        Check.faulty("0", raw(0, 16, 1, 1), 5, here());
        Check.faulty("1", raw(1, 16, 1, 1), 5, here());
        Check.faulty("1, the last byte", raw(1), 5, here());
        Check.opened("2", raw(2, 0), 0);
        Check.opened("up to the chunk's end", raw(4, 16, 1, 1), 1);
        Check.faulty("one beyond it", raw(5, 16, 1, 1), 5, here());
        Check.faulty("2 with one byte", raw(2), 5, here());
        Check.faulty("before its type", raw(5, 17, 1, 1), 5, here());
        Check.faulty("before a type that is cut", raw(5, 144), 5, here());
        Check.faulty("not by the next chunk's bytes", raw(5, 16, 1, 1).join(ChunkMaker.simple().done()), 5, here());
        Check.faulty("0 in nine bytes", ChunkMaker.simple().raw(Bytes.of(128).times(8).add(0)).done(), 5, here());
    }

    private static void tooMuch() {
        Check.opened("all that it holds", raw(4, 16, 1, 1), 1);
        Check.faulty("one more", raw(5, 16, 1, 1, 9), 5, here() + 4);
        Check.faulty("three more", raw(7, 16, 1, 1, 9, 9, 9), 5, here() + 4);
        Check.faulty("one less", raw(3, 16, 1, 1), 2, here() + 3);
        Check.faulty("a checkpoint with one more", ChunkMaker.simple().event(1, Bytes.of(0, 0, 9)).done(), 5, here() + 4);
        Check.faulty("a checkpoint with one less", ChunkMaker.simple().event(1, Bytes.of(0)).done(), 2, here() + 3);
        Check.faulty("metadata with one more", new ChunkMaker().metadataAt(20).event(0, Bytes.of(0, 9)).done(), 5, 23);
        Check.faulty("metadata with one less", new ChunkMaker().metadataAt(20).event(0, Bytes.none()).done(), 2, 22);
        text("behind an empty text", Bytes.of(1, 0), 5, 1);
    }

    private static void textKinds() {
        for (int form = 0; form < 256; form++) {
            Bytes content = form == 0 || form == 1 ? Bytes.of(form) : Bytes.of(form, 0);
            if (form < 6) {
                Check.opened("form " + form, ChunkMaker.holding(Bytes.TEXT, 0).value(content).done(), 1);
            } else {
                text("form " + form, content, 6, 0);
            }
        }
        text("the last byte of its event", Bytes.of(6), 6, 0);
        Bytes pool = Bytes.pool(Bytes.TEXT, Bytes.constant(1, Bytes.of(6)));
        Check.faulty("of a constant", ChunkMaker.simple().checkpoint(0, pool).done(), 6, here() + 7);
    }

    private static void characters() {
        text("the first one", Bytes.of(3, 1, 0x80), 6, 2);
        text("the third one", Bytes.of(3, 5, 'a', 0xC3, 0xA4, 0xC3, 'a'), 6, 5);
        text("its third byte is wrong", Bytes.of(3, 4, 'a', 0xE2, 0x82, 'a'), 6, 3);
        text("one byte of two", Bytes.of(3, 2, 'a', 0xC3), 6, 3);
        text("one byte of three", Bytes.of(3, 2, 'a', 0xE2), 6, 3);
        text("two bytes of three", Bytes.of(3, 3, 'a', 0xE2, 0x82), 6, 3);
        ChunkMaker two = ChunkMaker.with(Bytes.type(16, 'E', 1, Bytes.field('n', Bytes.TEXT, 0), Bytes.field('b', Bytes.BYTE, 0)));
        int at = two.here() + 3;
        // The byte behind the text would make it whole, but is the next field's.
        Check.faulty("not whole in its text", two.value(Bytes.of(3, 1, 0xC3, 0xA4)).done(), 6, at + 2);
    }
}
