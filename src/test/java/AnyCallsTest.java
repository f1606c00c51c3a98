import java.util.NoSuchElementException;

/**
 * Runs of any calls on recordings that were damaged: nothing but what the face names is thrown, and the answers fit
 * one another. The numbers that drive it are always the same ones.
 */
final class AnyCallsTest {
    private static long state = 20261115;

    public static void main(String[] args) {
        Bytes[] good = {Samples.rich(), ChunkMaker.simple().number(1).number(-2).done(), chained(),
            ChunkMaker.simple().number(3).done().times(3)};
        for (int run = 0; run < 4000; run++) {
            FlightReader reader = new FlightReader();
            good[below(good.length)].feedTo(reader);
            Check.yes("a good one", reader.open() >= 0);
            for (int i = 0; i < 3; i++) {
                open(reader, damaged(good[below(good.length)]));
                calls(reader);
            }
        }
        for (int run = 0; run < 2000; run++) {
            filter(new FlightReader());
        }
        Check.end();
    }

    private static int below(int n) {
        state = state * 6364136223846793005L + 1442695040888963407L;
        return (int) ((state >>> 33) % n);
    }

    private static Bytes chained() {
        ChunkMaker maker = ChunkMaker.with(Bytes.type(16, 'E', 1, Bytes.field('t', Bytes.TEXT, 1), Bytes.field('n', Bytes.INT, 2)));
        int first = maker.here();
        maker.checkpoint(0, Bytes.pool(Bytes.TEXT, Bytes.constant(1, Bytes.of(2, 2)), Bytes.constant(2, Bytes.of(3, 2, 0xC3, 0xA4))));
        maker.happening(16, 5, Bytes.of(1, 2, 7, 8));
        maker.checkpoint(maker.here() - first, Bytes.pool(Bytes.TEXT, Bytes.constant(3, Bytes.of(4, 1, 65))));
        return maker.happening(16, 6, Bytes.of(3, 0)).done();
    }

    private static Bytes damaged(Bytes good) {
        Bytes bad = good.copy();
        int times = below(4);
        for (int i = 0; i < times; i++) {
            int kind = below(3);
            int place = below(bad.size());
            int other = kind == 0 ? below(256) : kind == 1 ? bad.at(place) ^ 1 << below(8) : bad.at(below(bad.size()));
            bad.set(place, other);
        }
        return below(10) == 0 ? bad.first(below(bad.size())) : bad;
    }

    private static void open(FlightReader reader, Bytes bytes) {
        bytes.feedTo(reader);
        int chunks = reader.chunks();
        try {
            int events = reader.open();
            Check.yes("events", events >= 0 && events <= 60);
            Check.same("no fault", reader.fault(0), 0);
            Check.yes("chunks", reader.chunks() >= 1 && reader.chunks() <= 4);
            if (events > 0) {
                Check.same("all are selected", reader.selected(events - 1), events - 1);
            }
        } catch (IllegalArgumentException e) {
            named(e, IllegalArgumentException.class, IllegalArgumentException.class);
            Check.yes("a kind of fault", reader.fault(0) >= 1 && reader.fault(0) <= 8);
            Check.yes("a place", reader.fault(1) >= 0 && reader.fault(1) <= bytes.size());
            Check.same("chunks as before", reader.chunks(), chunks);
        }
    }

    private static int anyPath() {
        String steps = "zbscilfdaskempton012\u00ff";
        int path = 0;
        for (int i = below(5); i > 0; i--) {
            path = path << 8 | steps.charAt(below(steps.length()));
        }
        return path;
    }

    private static void calls(FlightReader reader) {
        for (int i = 0; i < 20; i++) {
            look(reader, below(4) - 1, anyPath());
            try {
                reader.event(below(4) - 1, below(6) - 1);
            } catch (IndexOutOfBoundsException | IllegalArgumentException e) {
                named(e, IndexOutOfBoundsException.class, IllegalArgumentException.class);
            }
        }
        int path = anyPath();
        int groups = reader.group(path, anyPath());
        long events = 0;
        for (int g = 0; g < groups; g++) {
            events += reader.grouped(g, 1);
        }
        Check.same("events of all groups", events, reader.fold(0, path));
        try {
            reader.fold(below(210) - 5, path);
        } catch (IllegalArgumentException | NoSuchElementException e) {
            named(e, IllegalArgumentException.class, NoSuchElementException.class);
        }
    }

    /** A class below these would tell of an index that was not looked at. */
    private static void named(RuntimeException e, Class<?> one, Class<?> other) {
        Check.yes("thrown: " + e, e.getClass() == one || e.getClass() == other);
    }

    private static void look(FlightReader reader, int e, int path) {
        int kind;
        try {
            kind = reader.kind(e, path);
        } catch (IndexOutOfBoundsException none) {
            named(none, IndexOutOfBoundsException.class, IndexOutOfBoundsException.class);
            Check.noIndex("value", () -> reader.value(e, path));
            Check.noIndex("letter", () -> reader.letter(e, path, 0));
            return;
        }
        Check.yes("a kind", kind >= 0 && kind <= 12);
        if (kind == 0) {
            Check.noElement("value of nothing", () -> reader.value(e, path));
        } else if (kind == 1) {
            Check.same("value of null", reader.value(e, path), 0);
        }
        if (kind == 10) {
            long length = reader.value(e, path);
            for (int i = 0; i < length; i++) {
                Check.yes("a letter", reader.letter(e, path, i) >= 0 && reader.letter(e, path, i) < 65536);
            }
            Check.noArgument("no letter", () -> reader.letter(e, path, (int) length));
        } else {
            Check.noElement("letter of no text", () -> reader.letter(e, path, 0));
        }
    }

    /** Whatever is a filter can be typed again, and what is none can be up to its misfit. */
    private static void filter(FlightReader reader) {
        String marks = "Ean09.=#<>-&:?";
        StringBuilder text = new StringBuilder();
        for (int i = below(12); i > 0; i--) {
            text.append(marks.charAt(below(marks.length())));
        }
        boolean due = text.toString().matches("([A-Z]:)?(C(&C)*)?".replace("C", "[a-z0-9](\\.[a-z0-9]){0,3}[=#<>]-?[0-9]{1,9}"));
        Check.typed(reader, text.toString());
        boolean taken = true;
        try {
            reader.select(true);
        } catch (IllegalArgumentException e) {
            taken = false;
        }
        Check.same("a filter: " + text, taken ? 1 : 0, due ? 1 : 0);
        Check.same("a misfit: " + text, reader.misfit() < 0 ? 1 : 0, due ? 1 : 0);
    }
}
