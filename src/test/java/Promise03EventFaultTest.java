/** Promise 3: the faults of events and their values (2, 3, 5, 6). */
final class Promise03EventFaultTest {
    public static void main(String[] args) {
        heads();
        plain();
        nested();
        texts();
        utf8();
        Check.end();
    }

    private static void heads() {
        int at = ChunkMaker.simple().here();
        for (int id : new int[] {2, 6, 15, 17, 200}) {
            Check.faulty("type " + id, ChunkMaker.simple().happening(id, 1, Bytes.of(1)).done(), 3, at + 1);
        }
        ChunkMaker structure = ChunkMaker.with(Bytes.type(16, 'S', 0, Bytes.field('n', Bytes.INT, 0)));
        Check.faulty("a structure's type", structure.number(1).done(), 3, at + 1);
        Check.faulty("length 0", raw(0), 5, at);
        Check.faulty("length 1", raw(1, 16), 5, at);
        Check.faulty("length 1, no more", raw(1), 5, at);
        Check.faulty("length beyond", raw(5, 16, 0, 0), 5, at);
        Check.faulty("length 2 of one", raw(2), 5, at);
        Check.faulty("length is cut", raw(128), 2, at);
        Check.faulty("type is cut", raw(2, 128), 2, at + 1);
        Check.faulty("type behind its event", raw(2, 144, 0, 0), 2, at + 1);
        Check.faulty("no ticks", raw(2, 16), 2, at + 2);
        Check.faulty("ticks are cut by the event", raw(3, 16, 128, 1, 1), 2, at + 2);
        Check.faulty("no field", raw(3, 16, 1), 2, at + 3);
        Check.faulty("one byte too much", raw(5, 16, 1, 1, 7), 5, at + 4);
        Check.faulty("shorter than what it holds", raw(3, 16, 1, 1), 2, at + 3);
        Check.opened("numbers longer than need be", raw(134, 0, 144, 0, 1, 1), 1);
        Check.opened("an event without fields", ChunkMaker.with(Bytes.type(16, 'E', 1)).happening(16, 1, Bytes.none()).done(), 1);
        int second = ChunkMaker.simple().number(1).done().size();
        Check.faulty("in the second chunk", ChunkMaker.simple().number(1).done().join(raw(0)), 5, second + at);
    }

    private static void plain() {
        int[] sizes = {0, 0, 1, 1, 1, 1, 1, 1, 4, 8, 1};
        for (int id = 2; id <= 10; id++) {
            ChunkMaker maker = ChunkMaker.with(Bytes.type(16, 'E', 1, Bytes.field('n', id, 0)));
            int at = maker.here() + 3;
            for (int n = 0; n < sizes[id]; n++) {
                ChunkMaker cut = ChunkMaker.with(Bytes.type(16, 'E', 1, Bytes.field('n', id, 0)));
                cut.happening(16, 1, Bytes.of(1).times(n)).happening(16, 1, Bytes.of(1).times(9));
                Check.faulty("type " + id + " cut to " + n, cut.done(), 2, at);
            }
            maker.happening(16, 1, Bytes.of(1).times(sizes[id]).add(1));
            Check.faulty("type " + id + " and more", maker.done(), 5, at + sizes[id]);
        }
        int at = ChunkMaker.simple().here() + 3;
        for (int n = 1; n < 9; n++) {
            Bytes open = Bytes.of(255).times(n);
            Check.faulty("an open number of " + n, ChunkMaker.simple().happening(16, 1, open).number(1).done(), 2, at);
        }
        Bytes nine = Bytes.of(255).times(9);
        Check.same("nine bytes", Check.opened("nine", ChunkMaker.simple().happening(16, 1, nine).done(), 1).value(0, 'n'), -1);
        Check.faulty("ten bytes", ChunkMaker.simple().happening(16, 1, nine.copy().add(0)).done(), 5, at + 9);
    }

    private static void nested() {
        Bytes s = Bytes.type(17, 'S', 0, Bytes.field('a', Bytes.BYTE, 0), Bytes.field('b', Bytes.BYTE, Bytes.POOL));
        Bytes e = Bytes.type(16, 'E', 1, Bytes.field('s', 17, Bytes.ARRAY), Bytes.field('n', Bytes.INT, Bytes.POOL | Bytes.ARRAY));
        int at = ChunkMaker.with(e, s).here() + 3;
        Bytes whole = Bytes.of(2, 7, 128, 1, 8, 2, 2, 3, 128, 1);
        int[] begins = {0, 1, 2, 2, 4, 5, 6, 7, 8, 8};
        for (int n = 0; n < whole.size(); n++) {
            Check.faulty("cut to " + n, ChunkMaker.with(e, s).happening(16, 1, whole.first(n)).done(), 2, at + begins[n]);
        }
        Check.opened("whole", ChunkMaker.with(e, s).happening(16, 1, whole).done(), 1);
        Check.faulty("more", ChunkMaker.with(e, s).happening(16, 1, whole.copy().add(0)).done(), 5, at + 10);
        Bytes most = new Bytes().number((1L << 31) - 1);
        Check.faulty("many parts", ChunkMaker.with(e, s).happening(16, 1, most).done(), 2, at + 5);
        Bytes tooMany = new Bytes().number(1L << 31).add(1, 1, 1);
        Check.faulty("too many parts", ChunkMaker.with(e, s).happening(16, 1, tooMany).done(), 2, at);
        Check.faulty("a negative count", ChunkMaker.with(e, s).happening(16, 1, new Bytes().number(-1)).done(), 2, at);
        Bytes keys = Bytes.of(0, 1).number(Long.MIN_VALUE);
        Check.opened("a key may be any number", ChunkMaker.with(e, s).happening(16, 1, keys).done(), 1);
    }

    private static void texts() {
        text("kind 6", Bytes.of(6), 6, 0);
        text("kind 255", Bytes.of(255, 1, 1), 6, 0);
        text("no kind", Bytes.none(), 2, 0);
        text("null and more", Bytes.of(0, 0), 5, 1);
        text("empty and more", Bytes.of(1, 0), 5, 1);
        text("no key", Bytes.of(2), 2, 1);
        text("key cut", Bytes.of(2, 128), 2, 1);
        for (int form = 3; form <= 5; form++) {
            text("no length", Bytes.of(form), 2, 1);
            text("length cut", Bytes.of(form, 130), 2, 1);
            text("length too great", Bytes.of(form).number(1L << 31), 2, 1);
            text("one too long", Bytes.of(form, 3, 65, 66), 2, form == 4 ? 4 : 1);
            text("one too short", Bytes.of(form, 1, 65, 66), 5, 3);
        }
        text("much too long", Bytes.of(5).number(Integer.MAX_VALUE).add(65), 2, 1);
        text("many characters", Bytes.of(4).number(Integer.MAX_VALUE).add(65), 2, 7);
        text("a character cut", Bytes.of(4, 2, 65, 200), 2, 3);
        text("too long comes before what is in it", Bytes.of(3, 3, 255, 255), 2, 1);
    }

    private static void utf8() {
        int[][] bad = {{0x80}, {0xBF}, {0xC0, 0x80}, {0xC1, 0xBF}, {0xE0, 0x80, 0x80}, {0xE0, 0x9F, 0xBF},
            {0xED, 0xA0, 0x80}, {0xED, 0xBF, 0xBF}, {0xF0, 0x90, 0x80, 0x80}, {0xF0, 0xA0, 0x80}, {0xF0, 0xBF, 0xBF}, {0xF8, 0x80, 0x80, 0x80}, {0xFF},
            {0xC3}, {0xE2}, {0xE2, 0x82}, {0xC3, 0x41}, {0xC3, 0xC3}, {0xE2, 0x41, 0x82}, {0xE2, 0x82, 0x41}, {0xE2, 0x82, 0xC0}};
        for (int[] row : bad) {
            String name = "UTF-8 " + Integer.toHexString(row[0]) + " of " + row.length;
            text(name, Bytes.of(3, row.length).add(row), 6, 2);
            text(name + " behind others", Bytes.of(3, row.length + 3, 0x41, 0xC3, 0xA4).add(row), 6, 5);
        }
        // What comes behind the text is no part of its last character.
        text("not whole in its text", Bytes.of(3, 1, 0xC3, 0xA4), 6, 2);
        text("not whole in its text", Bytes.of(3, 2, 0xE2, 0x82, 0xAC), 6, 2);
        int[][] good = {{0}, {0x7F}, {0xC2, 0x80}, {0xDF, 0xBF}, {0xE0, 0xA0, 0x80}, {0xED, 0x9F, 0xBF}, {0xEE, 0x80, 0x80}, {0xEF, 0xBF, 0xBF}};
        int[] codes = {0, 0x7F, 0x80, 0x7FF, 0x800, 0xD7FF, 0xE000, 0xFFFF};
        for (int i = 0; i < good.length; i++) {
            Bytes content = Bytes.of(3, good[i].length).add(good[i]);
            FlightReader reader = Check.opened("UTF-8 of " + codes[i], textual().happening(16, 1, content).done(), 1);
            Check.same("its length", reader.value(0, 't'), 1);
            Check.same("its code", reader.letter(0, 't', 0), codes[i]);
        }
    }

    private static ChunkMaker textual() {
        return ChunkMaker.with(Bytes.type(16, 'E', 1, Bytes.field('t', Bytes.TEXT, 0)));
    }

    private static void text(String what, Bytes content, int kind, int place) {
        int at = textual().here() + 3;
        Check.faulty(what, textual().happening(16, 1, content).done(), kind, at + place);
    }

    private static Bytes raw(int... bytes) {
        return ChunkMaker.simple().raw(Bytes.of(bytes)).done();
    }
}
