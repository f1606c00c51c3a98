/** Promise 3: the faults of the metadata's place and of what it tells (3, 4, and 2 and 5 among them). */
final class Promise03MetadataFaultTest {
    private static final Bytes N = Bytes.field('n', Bytes.INT, 0);

    public static void main(String[] args) {
        places();
        heads();
        types();
        fields();
        cuts();
        fieldTypes();
        rings();
        Check.end();
    }

    private static void places() {
        Bytes good = ChunkMaker.simple().number(1).done();
        for (int place : new int[] {0, 1, 8, 19}) {
            Check.faulty("metadata at " + place, ChunkMaker.simple().metadataAt(place).done(), 3, 8);
        }
        Check.faulty("in the second chunk", good.copy().join(ChunkMaker.simple().metadataAt(0).done()), 3, good.size() + 8);
        Check.faulty("at the chunk's end", ChunkMaker.simple().metadataAt(ChunkMaker.simple().here()).done(), 3, 8);
        Check.faulty("far behind", ChunkMaker.simple().metadataAt(65535).done(), 3, 8);
        Check.faulty("only a header", new ChunkMaker().metadataAt(20).done(), 3, 8);
        int at = ChunkMaker.simple().here();
        Check.faulty("at another event", ChunkMaker.simple().metadataAt(at).number(1).done(), 3, at + 1);
    }

    private static void heads() {
        Check.faulty("length 0", told(Bytes.of(0, 0, 0)), 5, 20);
        Check.faulty("length 1", told(Bytes.of(1, 0, 0)), 5, 20);
        Check.faulty("longer than the chunk", told(Bytes.of(4, 0, 0)), 5, 20);
        Check.faulty("length is cut", told(Bytes.of(131)), 2, 20);
        Check.faulty("length too great", told(new Bytes().number(1L << 31).add(0, 0)), 2, 20);
        Check.faulty("length below 2^31", told(new Bytes().number((1L << 31) - 1).add(0, 0)), 5, 20);
        Check.faulty("negative length", told(new Bytes().number(-1).add(0, 0)), 2, 20);
        Check.faulty("type is cut", told(Bytes.of(2, 128)), 2, 21);
        Check.faulty("type ends behind", told(Bytes.of(2, 128, 0, 0)), 2, 21);
        Check.faulty("type 1", told(Bytes.of(3, 1, 0)), 3, 21);
        Check.faulty("type 1, long length", told(Bytes.of(132, 0, 1, 0)), 3, 22);
        Check.faulty("id too great", told(Bytes.of(7).number(1L << 31).add(0)), 2, 21);
        Check.faulty("no count", told(Bytes.of(2, 0)), 2, 22);
        Check.faulty("too much", told(Bytes.of(5, 0, 0, 9, 9)), 5, 23);
        Check.opened("nothing told", told(Bytes.of(3, 0, 0)), 0);
    }

    private static void types() {
        Bytes[] ten = new Bytes[10];
        Bytes[] eleven = new Bytes[11];
        for (int i = 0; i < 11; i++) {
            eleven[i] = Bytes.type(16 + i, 'T', 0);
            if (i < 10) {
                ten[i] = eleven[i];
            }
        }
        Check.opened("ten types", ChunkMaker.with(ten).done(), 0);
        Check.faulty("eleven types", ChunkMaker.with(eleven).done(), 4, 22);
        Check.faulty("eleven of which none is there", told(Bytes.event(0, Bytes.of(11))), 4, 22);
        Check.faulty("too many for a count", told(Bytes.event(0, new Bytes().number(1L << 31))), 2, 22);
        Check.faulty("id 15", ChunkMaker.with(Bytes.type(15, 'E', 1, N)).done(), 4, 23);
        Check.faulty("id 0", ChunkMaker.with(Bytes.type(0, 'E', 1, N)).done(), 4, 23);
        Check.faulty("id 6", ChunkMaker.with(Bytes.type(6, 'E', 1, N)).done(), 4, 23);
        Check.opened("the greatest id", ChunkMaker.with(Bytes.type(Integer.MAX_VALUE, 'E', 1, N)).done(), 0);
        Bytes big = new Bytes().number(1L << 31).add('E', 1, 0);
        Check.faulty("an id too great", ChunkMaker.with(big).done(), 2, 23);
        Check.faulty("the same id", ChunkMaker.with(Bytes.type(16, 'E', 1), Bytes.type(16, 'F', 0)).done(), 4, 27);
        Check.opened("the same name", ChunkMaker.with(Bytes.type(16, 'E', 1), Bytes.type(17, 'E', 1)).done(), 0);
        for (char name : new char[] {'@', '[', 'a', 0, 255}) {
            Check.faulty("name " + (int) name, ChunkMaker.with(Bytes.type(16, name, 1, N)).done(), 4, 24);
        }
        Check.opened("A and Z", ChunkMaker.with(Bytes.type(16, 'A', 1), Bytes.type(17, 'Z', 1)).done(), 0);
        Check.faulty("kind 2", ChunkMaker.with(Bytes.type(16, 'E', 2, N)).done(), 4, 25);
        Check.faulty("kind 255", ChunkMaker.with(Bytes.type(16, 'E', 255, N)).done(), 4, 25);
    }

    private static void fields() {
        Bytes[] nine = new Bytes[9];
        Bytes[] eight = new Bytes[8];
        for (int i = 0; i < 9; i++) {
            nine[i] = Bytes.field((char) ('a' + i), Bytes.INT, 0);
            if (i < 8) {
                eight[i] = nine[i];
            }
        }
        Check.opened("eight fields", ChunkMaker.with(Bytes.type(16, 'E', 1, eight)).done(), 0);
        Check.faulty("nine fields", ChunkMaker.with(Bytes.type(16, 'E', 1, nine)).done(), 4, 26);
        for (char name : new char[] {'`', '{', 'A', '0'}) {
            Bytes bad = Bytes.type(16, 'E', 1, N, Bytes.field(name, Bytes.INT, 0));
            Check.faulty("field " + name, ChunkMaker.with(bad).done(), 4, 30);
        }
        Check.faulty("the same field", ChunkMaker.with(Bytes.type(16, 'E', 1, N, N)).done(), 4, 30);
        Check.opened("the same field of others", ChunkMaker.with(Bytes.type(16, 'E', 1, N), Bytes.type(17, 'F', 1, N)).done(), 0);
        Check.faulty("flags 4", ChunkMaker.with(Bytes.type(16, 'E', 1, Bytes.field('n', Bytes.INT, 4))).done(), 4, 29);
        Check.faulty("flags 128", ChunkMaker.with(Bytes.type(16, 'E', 1, Bytes.field('n', Bytes.INT, 128))).done(), 4, 29);
        Check.opened("flags 3", ChunkMaker.with(Bytes.type(16, 'E', 1, Bytes.field('n', Bytes.INT, 3))).done(), 0);
        Bytes two = Bytes.type(16, 'E', 1, Bytes.field('n', 300, 8));
        Check.faulty("flags come before a type that is none", ChunkMaker.with(two).done(), 4, 30);
    }

    /** Each byte of the telling that is missing, by shorter and shorter events. */
    private static void cuts() {
        Bytes whole = Bytes.types(Bytes.type(300, 'E', 1, Bytes.field('n', 300, 0)));
        int[] begins = {22, 23, 23, 25, 26, 27, 28, 29, 29, 31};
        for (int n = 0; n < whole.size(); n++) {
            Check.faulty("told but " + n, told(Bytes.event(0, whole.first(n))), 2, begins[n]);
            Bytes shorter = Bytes.event(0, whole).set(0, n + 2);
            Check.faulty("event of " + (n + 2), told(shorter), 2, begins[n]);
        }
    }

    private static void fieldTypes() {
        for (int id : new int[] {0, 1, 11, 15, 17, Integer.MAX_VALUE}) {
            Check.faulty("field of type " + id, ChunkMaker.with(Bytes.type(16, 'E', 1, Bytes.field('n', id, 0))).done(), 4, 20);
        }
        for (int id = 2; id <= 10; id++) {
            Check.opened("field of type " + id, ChunkMaker.with(Bytes.type(16, 'E', 1, Bytes.field('n', id, 0))).done(), 0);
        }
        Bytes huge = Bytes.of('n').number(1L << 31).add(0);
        Check.faulty("field of a huge type", ChunkMaker.with(Bytes.type(16, 'E', 1, huge)).done(), 2, 28);
        Bytes holder = Bytes.type(16, 'E', 1, Bytes.field('s', 17, 0));
        Bytes pooling = Bytes.type(16, 'E', 1, Bytes.field('s', 17, 1));
        Check.faulty("field of an event's type", ChunkMaker.with(holder, Bytes.type(17, 'F', 1, N)).done(), 4, 20);
        Check.faulty("no fields", ChunkMaker.with(holder, Bytes.type(17, 'S', 0)).done(), 4, 20);
        Check.faulty("no fields, in a pool", ChunkMaker.with(pooling, Bytes.type(17, 'S', 0)).done(), 4, 20);
        Check.opened("no fields, not used", ChunkMaker.with(Bytes.type(16, 'E', 1), Bytes.type(17, 'S', 0)).done(), 0);
        Bytes none = Bytes.types(Bytes.type(16, 'E', 1, Bytes.field('n', 99, 0)));
        Check.faulty("length comes before", told(Bytes.event(0, none.copy().add(0))), 5, 30);
        Bytes late = new ChunkMaker().event(0, Bytes.none()).metadataHere().event(0, none).done();
        Check.faulty("the beginning of the metadata", late, 4, 22);
    }

    private static void rings() {
        Bytes e = Bytes.type(16, 'E', 1, N);
        Check.faulty("itself", ring(0), 4, 20);
        Check.faulty("itself in an array", ring(Bytes.ARRAY), 4, 20);
        Check.opened("itself by keys", ring(Bytes.POOL), 0);
        Check.opened("itself by an array of keys", ring(Bytes.POOL | Bytes.ARRAY), 0);
        for (int flags = 0; flags < 4; flags++) {
            Bytes a = Bytes.type(17, 'A', 0, Bytes.field('b', 18, 0));
            Bytes b = Bytes.type(18, 'B', 0, N, Bytes.field('c', 19, flags));
            Bytes c = Bytes.type(19, 'C', 0, Bytes.field('a', 17, Bytes.ARRAY));
            Bytes three = ChunkMaker.with(e, a, b, c).done();
            if ((flags & Bytes.POOL) == 0) {
                Check.faulty("through others, flags " + flags, three, 4, 20);
            } else {
                Check.opened("through others, flags " + flags, three, 0);
            }
        }
        Bytes[] deep = new Bytes[10];
        for (int i = 0; i < 10; i++) {
            Bytes held = i == 0 ? N : Bytes.field('s', 15 + i, Bytes.ARRAY);
            deep[9 - i] = Bytes.type(16 + i, 'S', i == 9 ? 1 : 0, held);
        }
        Check.opened("ten deep", ChunkMaker.with(deep).done(), 0);
        Bytes twice = Bytes.type(17, 'S', 0, Bytes.field('a', 18, 0), Bytes.field('b', 18, 0));
        Check.opened("the same twice is no ring", ChunkMaker.with(twice, Bytes.type(18, 'T', 0, N)).done(), 0);
    }

    private static Bytes ring(int flags) {
        return ChunkMaker.with(Bytes.type(16, 'S', 0, N, Bytes.field('s', 16, flags))).done();
    }

    private static Bytes told(Bytes event) {
        return new ChunkMaker().metadataAt(20).raw(event).done();
    }
}
