/** The boundary cases of "Terms": metadata, and the faults 3 and 4 in it. */
final class BoundaryMetadataTest {
    private static final Bytes N = Bytes.field('n', Bytes.INT, 0);

    public static void main(String[] args) {
        Check.sentence(3, "how many TYPES it tells (at most 10)", BoundaryMetadataTest::types);
        Check.sentence(3, "its id (16 or more)", BoundaryMetadataTest::ids);
        Check.sentence(3, "its NAME (a byte A .. Z)", BoundaryMetadataTest::typeNames);
        Check.sentence(3, "its KIND (a byte: 0 STRUCTURE, 1 EVENT)", BoundaryMetadataTest::kinds);
        Check.sentence(3, "how many FIELDS it has (at most 8)", BoundaryMetadataTest::fields);
        Check.sentence(3, "its name (a byte a .. z)", BoundaryMetadataTest::fieldNames);
        Check.sentence(3, "FLAGS (a byte: bit 0 POOL, bit 1 ARRAY; others are 0)", BoundaryMetadataTest::flags);
        Check.sentence(3, "Ids are different ones, so are the names of the fields of one type.", BoundaryMetadataTest::different);
        Check.sentence(3, "A field's type is one of these structures, or a PLAIN one: 2 BOOLEAN", BoundaryMetadataTest::fieldTypes);
        Check.sentence(3, "A structure may not hold itself, by fields without POOL, also through others and in arrays",
                BoundaryMetadataTest::holdingItself);
        Check.sentence(3, "it has one field at least if it is the type of one.", BoundaryMetadataTest::withoutFields);
        Check.sentence(3, "at the metadata's place an event that is not of type 0", BoundaryMetadataTest::notOfTypeZero);
        Check.sentence(3, "or no place behind the header (place: where that id begins; of the metadata's place: byte 8 of the header)",
                BoundaryMetadataTest::noPlace);
        Check.sentence(3, "4 TELLING: a type or field that is not as said: id, name, kind, flags, one that was there before "
                + "(each when it has been read; place: where it begins)", BoundaryMetadataTest::whenRead);
        Check.sentence(3, "how many types or fields", BoundaryMetadataTest::countsWhenRead);
        Check.sentence(3, "then, when the event has been read to its end (5 comes before), a field whose type is none, or a structure "
                + "without fields, and then a structure that holds itself", BoundaryMetadataTest::readToItsEnd);
        Check.sentence(3, "(place: the beginning of the metadata event)", BoundaryMetadataTest::beginning);
        Check.sentence(3, "(metadata among them are not looked at again, and count for nothing if they are others)",
                BoundaryMetadataTest::others);
        Check.end();
    }

    private static Bytes told(Bytes content) {
        return new ChunkMaker().metadataAt(20).event(0, content).done();
    }

    private static void types() {
        Check.opened("no types", told(Bytes.of(0)), 0);
        Bytes ten = Bytes.of(10);
        for (int i = 0; i < 10; i++) {
            ten.join(Bytes.type(16 + i, (char) ('A' + i), 1, N));
        }
        ChunkMaker all = new ChunkMaker().metadataAt(20).event(0, ten);
        for (int i = 0; i < 10; i++) {
            all.happening(16 + i, 1, Bytes.of(i));
        }
        FlightReader reader = Check.opened("10 types", all.done(), 10);
        Check.same("the tenth one's name", reader.event(9, 1), 'J');
        Check.same("the tenth one's field", reader.value(9, 'n'), 9);
        deepest();
        Check.faulty("11 types", told(ten.copy().set(0, 11).join(Bytes.type(99, 'Z', 1))), 4, 22);
    }

    /** Ten types, of which each holds an array of the next one, the last one an array of bytes. */
    private static void deepest() {
        Bytes[] types = new Bytes[10];
        for (int i = 0; i < 10; i++) {
            types[i] = Bytes.type(16 + i, (char) ('A' + i), i == 0 ? 1 : 0, Bytes.field('a', i == 9 ? Bytes.BYTE : 17 + i, Bytes.ARRAY));
        }
        FlightReader reader = Check.opened("10 in one another", ChunkMaker.with(types).value(Bytes.of(1).times(10).add(77)).done(), 1);
        Check.same("a structure in it", reader.value(0, Check.path("a0a0")), 'C');
        Bytes last = Bytes.pool(17, Bytes.constant(1, Bytes.of(1).times(9).add(77)));
        Check.opened("9 in one another as a constant", ChunkMaker.with(types).checkpoint(0, last).done(), 0);
    }

    private static void ids() {
        for (int id = 0; id < 16; id++) {
            Check.faulty("id " + id, told(Bytes.types(Bytes.type(id, 'E', 1, N))), 4, 23);
        }
        for (int id : new int[] {16, 17, 127, 128, 16383, 16384, Integer.MAX_VALUE}) {
            Bytes chunk = ChunkMaker.with(Bytes.type(id, 'E', 1, N)).happening(id, 1, Bytes.of(5)).done();
            Check.same("of id " + id, Check.opened("id " + id, chunk, 1).value(0, 'n'), 5);
        }
    }

    private static void typeNames() {
        for (int name = 0; name < 256; name++) {
            Bytes chunk = ChunkMaker.with(Bytes.type(16, (char) name, 1)).happening(16, 1, Bytes.none()).done();
            if (name >= 'A' && name <= 'Z') {
                Check.same("the name", Check.opened("name " + name, chunk, 1).event(0, 1), name);
            } else {
                Check.faulty("name " + name, chunk, 4, 24);
            }
        }
    }

    private static void kinds() {
        Bytes structure = Bytes.pool(16, Bytes.constant(1, Bytes.of(1)));
        Check.opened("0 is of pools", ChunkMaker.with(Bytes.type(16, 'S', 0, N)).checkpoint(0, structure).done(), 0);
        Check.faulty("0 is of no event", ChunkMaker.with(Bytes.type(16, 'S', 0, N)).value(Bytes.of(1)).done(), 3, 31);
        Check.opened("1 is of events", ChunkMaker.with(Bytes.type(16, 'S', 1, N)).value(Bytes.of(1)).done(), 1);
        Check.faulty("1 is of no pool", ChunkMaker.with(Bytes.type(16, 'S', 1, N)).checkpoint(0, structure).done(), 3, 34);
        for (int kind : new int[] {2, 3, 128, 129, 255}) {
            Check.faulty("kind " + kind, told(Bytes.types(Bytes.type(16, 'E', kind, N))), 4, 25);
        }
    }

    private static void fields() {
        Check.opened("no fields", ChunkMaker.with(Bytes.type(16, 'E', 1)).value(Bytes.none()).done(), 1);
        Bytes[] nine = new Bytes[9];
        for (int i = 0; i < 9; i++) {
            nine[i] = Bytes.field((char) ('a' + i), Bytes.BYTE, 0);
        }
        Bytes[] eight = java.util.Arrays.copyOf(nine, 8);
        Bytes values = Bytes.of(1, 2, 3, 4, 5, 6, 7, 8);
        FlightReader reader = Check.opened("8 fields", ChunkMaker.with(Bytes.type(16, 'E', 1, eight)).value(values).done(), 1);
        Check.same("the first", reader.value(0, 'a'), 1);
        Check.same("the eighth", reader.value(0, 'h'), 8);
        Check.faulty("9 fields", told(Bytes.types(Bytes.type(16, 'E', 1, nine))), 4, 26);
    }

    private static void fieldNames() {
        for (int name = 0; name < 256; name++) {
            Bytes chunk = ChunkMaker.with(Bytes.type(16, 'E', 1, Bytes.field((char) name, Bytes.INT, 0))).value(Bytes.of(3)).done();
            if (name >= 'a' && name <= 'z') {
                Check.same("the field", Check.opened("field " + name, chunk, 1).value(0, name), 3);
            } else {
                Check.faulty("field " + name, chunk, 4, 27);
            }
        }
    }

    private static void flags() {
        int[] kinds = {6, 1, 12, 12};
        for (int flags = 0; flags < 256; flags++) {
            Bytes chunk = ChunkMaker.holding(Bytes.INT, flags).value(Bytes.of(0)).done();
            if (flags < 4) {
                Check.same("the kind", Check.opened("flags " + flags, chunk, 1).kind(0, 'n'), kinds[flags]);
            } else {
                Check.faulty("flags " + flags, chunk, 4, 29);
            }
        }
    }

    private static void different() {
        Bytes e = Bytes.type(16, 'E', 1, N);
        Check.faulty("the same id", told(Bytes.types(e, Bytes.type(16, 'F', 0, N))), 4, 30);
        Check.faulty("the same id in a longer number", told(Bytes.types(e, Bytes.of(144, 0, 'F', 0, 0))), 4, 30);
        Check.faulty("the third has the first one's id", told(Bytes.types(e, Bytes.type(17, 'F', 1), e)), 4, 34);
        Check.opened("the same name of types", told(Bytes.types(e, Bytes.type(17, 'E', 1, N))), 0);
        Bytes twice = Bytes.type(16, 'E', 1, N, Bytes.field('m', Bytes.INT, 0), Bytes.field('n', Bytes.TEXT, 1));
        Check.faulty("the same name of fields", told(Bytes.types(twice)), 4, 33);
        Check.opened("of fields of two types", told(Bytes.types(e, Bytes.type(17, 'F', 1, N))), 0);
    }

    private static void fieldTypes() {
        for (int id = 0; id <= 17; id++) {
            Bytes chunk = told(Bytes.types(Bytes.type(16, 'E', 1, Bytes.field('n', id, 0))));
            if (id >= 2 && id <= 10) {
                Check.opened("a field of type " + id, chunk, 0);
            } else {
                Check.faulty("a field of type " + id, chunk, 4, 20);
            }
        }
        Bytes e = Bytes.type(16, 'E', 1, Bytes.field('s', 17, 0));
        Check.opened("of a structure told behind", told(Bytes.types(e, Bytes.type(17, 'S', 0, N))), 0);
        Check.opened("of a structure told before", told(Bytes.types(Bytes.type(17, 'S', 0, N), e)), 0);
        Check.faulty("of another event's type", told(Bytes.types(e, Bytes.type(17, 'F', 1, N))), 4, 20);
        Bytes key = Bytes.type(16, 'E', 1, Bytes.field('s', 17, Bytes.POOL));
        Check.faulty("keys of what is none", told(Bytes.types(key)), 4, 20);
    }

    private static void holdingItself() {
        for (int flags = 0; flags < 4; flags++) {
            boolean pooled = (flags & Bytes.POOL) != 0;
            ringed("itself", pooled, Bytes.type(17, 'S', 0, N, Bytes.field('s', 17, flags)));
            ringed("through another", pooled, Bytes.type(17, 'S', 0, Bytes.field('t', 18, 0)),
                    Bytes.type(18, 'T', 0, N, Bytes.field('s', 17, flags)));
            Bytes[] ten = new Bytes[10];
            for (int i = 0; i < 10; i++) {
                ten[i] = Bytes.type(16 + i, 'S', 0, N, Bytes.field('s', 16 + (i + 1) % 10, i == 9 ? flags : Bytes.ARRAY));
            }
            ringed("through nine others", pooled, ten);
        }
        ringed("twice the same, not itself", true, Bytes.type(17, 'S', 0, Bytes.field('a', 18, 0), Bytes.field('b', 18, 2)),
                Bytes.type(18, 'T', 0, N));
    }

    private static void ringed(String what, boolean good, Bytes... types) {
        if (good) {
            Check.opened(what, told(Bytes.types(types)), 0);
        } else {
            Check.faulty(what, told(Bytes.types(types)), 4, 20);
        }
    }

    private static void withoutFields() {
        Bytes empty = Bytes.type(17, 'S', 0);
        for (int flags = 0; flags < 4; flags++) {
            Bytes e = Bytes.type(16, 'E', 1, Bytes.field('s', 17, flags));
            Check.faulty("none, flags " + flags, told(Bytes.types(e, empty)), 4, 20);
            Check.opened("one, flags " + flags, told(Bytes.types(e, Bytes.type(17, 'S', 0, N))), 0);
        }
        Check.opened("none, and of no field", told(Bytes.types(empty)), 0);
        Bytes pool = Bytes.pool(17, Bytes.constant(1, Bytes.none()), Bytes.constant(2, Bytes.none()));
        Check.opened("none, but constants", ChunkMaker.with(empty).checkpoint(0, pool).done(), 0);
    }

    private static void notOfTypeZero() {
        for (int id : new int[] {1, 2, 16, 127}) {
            Check.faulty("type " + id, new ChunkMaker().metadataAt(20).event(id, Bytes.of(0)).done(), 3, 21);
        }
        Bytes behind = Bytes.of(132, 0, 1, 0);
        Check.faulty("behind a longer length", new ChunkMaker().metadataAt(20).raw(behind).done(), 3, 22);
        Check.opened("type 0 in a longer number", new ChunkMaker().metadataAt(20).raw(Bytes.of(4, 128, 0, 0)).done(), 0);
        Bytes first = ChunkMaker.simple().done();
        Check.faulty("of the second chunk", first.copy().join(new ChunkMaker().metadataAt(20).event(1, Bytes.of(0)).done()), 3,
                first.size() + 21);
    }

    private static void noPlace() {
        int end = ChunkMaker.simple().here();
        for (int place : new int[] {0, 1, 19, end, end + 1, 65535}) {
            Check.faulty("place " + place, ChunkMaker.simple().metadataAt(place).done(), 3, 8);
        }
        // The last byte of the chunk is a place, but no event has room there.
        Check.faulty("the last byte", ChunkMaker.simple().metadataAt(end - 1).done(), 5, end - 1);
        Check.faulty("only a header", new ChunkMaker().metadataAt(20).done(), 3, 8);
        Bytes first = ChunkMaker.simple().done();
        Check.faulty("of the second chunk", first.copy().join(ChunkMaker.simple().metadataAt(19).done()), 3, first.size() + 8);
    }

    /** Each row is cut right behind what is wrong, which is found before the cut. */
    private static void whenRead() {
        Check.faulty("id", told(Bytes.of(1, 15)), 4, 23);
        Check.faulty("name", told(Bytes.of(1, 16, '@')), 4, 24);
        Check.faulty("kind", told(Bytes.of(1, 16, 'A', 2)), 4, 25);
        Check.faulty("a field's name", told(Bytes.of(1, 16, 'A', 1, 1, '`')), 4, 27);
        Check.faulty("flags", told(Bytes.of(1, 16, 'A', 1, 1, 'a', 6, 4)), 4, 29);
        Check.faulty("an id that was there", told(Bytes.of(2, 16, 'A', 1, 0, 16)), 4, 27);
        Check.faulty("a field's name that was there", told(Bytes.of(1, 16, 'A', 1, 2, 'a', 6, 0, 'a')), 4, 30);
        Check.faulty("the first of several", told(Bytes.of(1, 15, '@', 2, 9)), 4, 23);
        Check.faulty("the second of several", told(Bytes.of(1, 16, '@', 2, 9)), 4, 24);
        Check.faulty("a cut before", told(Bytes.of(1, 144)), 2, 23);
    }

    private static void countsWhenRead() {
        Check.faulty("11 types, none there", told(Bytes.of(11)), 4, 22);
        Check.faulty("9 fields, none there", told(Bytes.of(1, 16, 'A', 1, 9)), 4, 26);
        Check.faulty("10 types, none there", told(Bytes.of(10)), 2, 23);
        Check.faulty("8 fields, none there", told(Bytes.of(1, 16, 'A', 1, 8)), 2, 27);
        Check.faulty("the second type's fields", told(Bytes.of(2, 16, 'A', 1, 0, 17, 'B', 0, 9)), 4, 30);
    }

    private static void readToItsEnd() {
        Bytes none = Bytes.types(Bytes.type(16, 'E', 1, Bytes.field('n', 11, 0)));
        Bytes ring = Bytes.types(Bytes.type(16, 'S', 0, Bytes.field('s', 16, 0)));
        Check.faulty("a type that is none", told(none), 4, 20);
        Check.faulty("a ring", told(ring), 4, 20);
        Check.faulty("5 before a type that is none", told(none.copy().add(0)), 5, 30);
        Check.faulty("5 before a ring", told(ring.copy().add(0)), 5, 30);
        Check.faulty("2 before a type that is none", told(none.copy().set(0, 2)), 2, 30);
        Check.faulty("4 of flags before a type that is none", told(none.copy().set(7, 4)), 4, 29);
    }

    private static void beginning() {
        Bytes none = Bytes.types(Bytes.type(16, 'E', 1, Bytes.field('n', 11, 0)));
        Check.faulty("behind another", new ChunkMaker().event(0, Bytes.none()).metadataHere().event(0, none).done(), 4, 22);
        Bytes first = ChunkMaker.simple().done();
        Check.faulty("of the second chunk", first.copy().join(told(none)), 4, first.size() + 20);
    }

    private static void others() {
        ChunkMaker maker = ChunkMaker.simple().event(0, Bytes.none()).number(4).event(0, Bytes.of(11, 255, 255)).number(5);
        FlightReader reader = Check.opened("others", maker.done(), 2);
        Check.same("the first event", reader.value(0, 'n'), 4);
        Check.same("the second event", reader.value(1, 'n'), 5);
        ChunkMaker twice = ChunkMaker.simple().event(0, Bytes.types(Bytes.type(17, 'F', 1)));
        int at = twice.here();
        Check.faulty("a type that another tells", twice.happening(17, 1, Bytes.none()).done(), 3, at + 1);
        Check.faulty("their lengths count", ChunkMaker.simple().raw(Bytes.of(4, 0, 0)).done(), 5, ChunkMaker.simple().here());
        Bytes many = ChunkMaker.simple().raw(Bytes.of(2, 0).times(100)).done();
        Check.opened("a hundred others", many, 0);
    }
}
