/** The boundary cases of the promises 14 to 16: fold, group and grouped. */
final class BoundaryFoldsTest {
    private static final long MOST = Long.MAX_VALUE;
    private static final long LEAST = Long.MIN_VALUE;

    public static void main(String[] args) {
        Check.sentence(14, "Folds what the path leads to from each selected event where that is a number", BoundaryFoldsTest::folded);
        Check.sentence(14, "how many there are (what = 0), their sum (1, what is beyond 64 bits is lost)", BoundaryFoldsTest::sums);
        Check.sentence(14, "the least (2), the greatest (3)", BoundaryFoldsTest::extremes);
        Check.sentence(14, "the rounded mean (4: the sum of them all, as a whole number, divided by how many, to the nearest whole "
                + "number, halves away from 0)", BoundaryFoldsTest::means);
        Check.sentence(14, "the p-th of a hundred parts (100 + p, p from 0 to 100: of the numbers in order the one at place "
                + "(p * how many + 99) / 100 - 1, at least the first).", BoundaryFoldsTest::parts);
        Check.sentence(14, "IllegalArgumentException if there is no such what", BoundaryFoldsTest::noSuchWhat);
        Check.sentence(14, "NoSuchElementException if there are none and what is above 1.", BoundaryFoldsTest::none);
        Check.sentence(15, "Groups the selected events by the number that the first path leads to (others are left out)",
                BoundaryFoldsTest::groups);
        Check.sentence(15, "in the order in which the numbers are met: how many groups", BoundaryFoldsTest::order);
        Check.sentence(15, "of each, those of its events' numbers by the second path are folded.", BoundaryFoldsTest::secondPath);
        Check.sentence(16, "Of group g of the latest group()", BoundaryFoldsTest::latest);
        Check.sentence(16, "(none are left by open() and select() that did something)", BoundaryFoldsTest::noneAreLeft);
        Check.sentence(16, "its number (what = 0), how many events (1), how many numbers (2), their sum (3), least (4), "
                + "greatest (5; 0 for both if there are none).", BoundaryFoldsTest::told);
        Check.sentence(16, "IndexOutOfBoundsException if there is none such; IllegalArgumentException if there is no such what.",
                BoundaryFoldsTest::groupedRefused);
        Check.end();
    }

    private static FlightReader longs(long... numbers) {
        return Check.opened("numbers", Samples.longs(numbers), numbers.length);
    }

    private static void folded() {
        FlightReader reader = Check.opened("rich", Samples.rich(), 2);
        for (String path : new String[] {"z", "b", "c", "i", "l", "sn", "k0", "k1", "a0n"}) {
            Check.same("how many by " + path, reader.fold(0, Check.path(path)), 1);
        }
        Check.same("a number of one, a structure of the other", reader.fold(0, 's'), 1);
        for (String path : new String[] {"", "f", "d", "t", "a", "e", "m", "p", "k2", "q"}) {
            Check.same("how many by " + path, reader.fold(0, Check.path(path)), 0);
        }
        FlightReader full = longs(new long[60]);
        Check.same("all sixty", full.fold(0, 'n'), 60);
        FlightReader some = longs(1, 2, 3, 4);
        Check.same("all four", some.fold(1, 'n'), 10);
        Check.typed(some, "n>2");
        Check.same("select", some.select(true), 2);
        Check.same("the selected ones alone", some.fold(1, 'n'), 7);
    }

    private static void sums() {
        Check.same("how many of none", longs().fold(0, 'n'), 0);
        Check.same("the sum of none", longs().fold(1, 'n'), 0);
        Check.same("up to the most", longs(MOST - 1, 1).fold(1, 'n'), MOST);
        Check.same("beyond the most", longs(MOST, 1).fold(1, 'n'), LEAST);
        Check.same("down to the least", longs(LEAST + 1, -1).fold(1, 'n'), LEAST);
        Check.same("beyond the least", longs(LEAST, -1).fold(1, 'n'), MOST);
        Check.same("beyond and back", longs(MOST, MOST, LEAST, LEAST).fold(1, 'n'), -2);
        Check.same("twice the most", longs(MOST, MOST).fold(1, 'n'), -2);
    }

    private static void extremes() {
        FlightReader far = longs(0, MOST, -1, LEAST, 1);
        Check.same("the least", far.fold(2, 'n'), LEAST);
        Check.same("the greatest", far.fold(3, 'n'), MOST);
        FlightReader one = longs(-7);
        Check.same("the least of one", one.fold(2, 'n'), -7);
        Check.same("the greatest of one", one.fold(3, 'n'), -7);
        FlightReader negative = longs(-3, -5, -4);
        Check.same("the least of negative ones", negative.fold(2, 'n'), -5);
        Check.same("the greatest of negative ones", negative.fold(3, 'n'), -3);
    }

    private static void means() {
        mean(3, 3);
        mean(1, 0, 1);
        mean(-1, 0, -1);
        mean(0, 0, 0, 1);
        mean(1, 0, 1, 1);
        mean(0, 0, 0, -1);
        mean(-1, 0, -1, -1);
        mean(2, 1, 2);
        mean(-2, -1, -2);
        mean(3, 2, 3);
        mean(-3, -2, -3);
        mean(0, 1, -1);
        mean(0, 0, 0, 0, 1);
        mean(1, 0, 0, 1, 1);
        mean(-1, 0, 0, -1, -1);
        // The sums of these need more than 64 bits.
        mean(MOST, MOST, MOST);
        mean(MOST, MOST, MOST, MOST);
        mean(LEAST, LEAST, LEAST);
        mean(LEAST, LEAST, LEAST, LEAST);
        mean(MOST, MOST, MOST - 1);
        mean(MOST - 1, MOST, MOST - 1, MOST - 1);
        mean(LEAST, LEAST, LEAST + 1);
        mean(LEAST + 1, LEAST, LEAST + 1, LEAST + 1);
        mean(-1, MOST, LEAST);
        mean(0, MOST, LEAST, 1);
        long[] sixty = new long[60];
        java.util.Arrays.fill(sixty, MOST);
        mean(MOST, sixty);
        java.util.Arrays.fill(sixty, LEAST);
        mean(LEAST, sixty);
    }

    private static void mean(long due, long... numbers) {
        Check.same("the mean of " + java.util.Arrays.toString(numbers), longs(numbers).fold(4, 'n'), due);
    }

    private static void parts() {
        FlightReader one = longs(9);
        for (int p : new int[] {0, 1, 50, 99, 100}) {
            Check.same(p + " of one", one.fold(100 + p, 'n'), 9);
        }
        FlightReader two = longs(20, 10);
        part(two, 0, 10);
        part(two, 1, 10);
        part(two, 50, 10);
        part(two, 51, 20);
        part(two, 100, 20);
        FlightReader three = longs(30, 10, 20);
        part(three, 33, 10);
        part(three, 34, 20);
        part(three, 66, 20);
        part(three, 67, 30);
        part(three, 99, 30);
        long[] down = new long[60];
        for (int i = 0; i < 60; i++) {
            down[i] = 59 - i;
        }
        FlightReader sixty = longs(down);
        part(sixty, 0, 0);
        part(sixty, 1, 0);
        part(sixty, 2, 1);
        part(sixty, 5, 2);
        part(sixty, 99, 59);
        part(sixty, 98, 58);
        part(sixty, 100, 59);
        FlightReader far = longs(MOST, LEAST, 0);
        part(far, 0, LEAST);
        part(far, 50, 0);
        part(far, 100, MOST);
    }

    private static void part(FlightReader reader, int p, long due) {
        Check.same(p + " of a hundred parts", reader.fold(100 + p, 'n'), due);
    }

    private static void noSuchWhat() {
        FlightReader reader = longs(1);
        String before = Seen.of(reader);
        for (int what : new int[] {-1, 5, 6, 99, 201, 1000, Integer.MIN_VALUE, Integer.MAX_VALUE}) {
            Check.noArgument("fold(" + what + ")", () -> reader.fold(what, 'n'));
            Check.noArgument("fold(" + what + ") of none", () -> reader.fold(what, 'q'));
        }
        Check.sameText("all stays", Seen.of(reader), before);
        for (int what : new int[] {0, 1, 2, 3, 4, 100, 200}) {
            Check.same("fold(" + what + ")", reader.fold(what, 'n'), 1);
        }
    }

    private static void none() {
        FlightReader reader = longs(1);
        String before = Seen.of(reader);
        Check.same("0 of none", reader.fold(0, 'q'), 0);
        Check.same("1 of none", reader.fold(1, 'q'), 0);
        for (int what : new int[] {2, 3, 4, 100, 150, 200}) {
            Check.noElement(what + " of none", () -> reader.fold(what, 'q'));
            Check.noElement(what + " without a recording", () -> new FlightReader().fold(what, 'n'));
        }
        Check.sameText("all stays", Seen.of(reader), before);
        Check.typed(reader, "n=2");
        Check.same("select", reader.select(true), 0);
        Check.noElement("none is selected", () -> reader.fold(2, 'n'));
    }

    private static FlightReader mixed() {
        ChunkMaker maker = ChunkMaker.with(Bytes.type(16, 'E', 1, Bytes.field('k', Bytes.LONG, 0), Bytes.field('n', Bytes.LONG, 0)),
                Bytes.type(17, 'F', 1, Bytes.field('k', Bytes.TEXT, 0), Bytes.field('n', Bytes.LONG, 0)),
                Bytes.type(18, 'G', 1, Bytes.field('k', Bytes.BOOLEAN, 0), Bytes.field('n', Bytes.TEXT, 0)));
        maker.value(new Bytes().number(MOST).number(5)).happening(17, 1, Bytes.of(1, 6)).happening(18, 1, Bytes.of(2, 1));
        maker.value(Bytes.of(1, 7)).value(new Bytes().number(LEAST).number(8)).value(new Bytes().number(MOST).number(-9));
        return Check.opened("mixed", maker.done(), 6);
    }

    private static void groups() {
        FlightReader reader = mixed();
        Check.same("by k", reader.group('k', 'n'), 3);
        Check.sameText("a text is left out", Seen.groups(reader),
                " [" + MOST + " 2 2 -4 -9 5] [1 2 1 7 7 7] [" + LEAST + " 1 1 8 8 8]");
        Check.same("by what is no number", reader.group(0, 'n'), 0);
        Check.same("by nothing", reader.group('q', 'n'), 0);
        Check.typed(reader, "k<2");
        Check.same("select", reader.select(true), 3);
        Check.same("the selected ones alone", reader.group('k', 'n'), 2);
        Check.sameText("they are", Seen.groups(reader), " [1 2 1 7 7 7] [" + LEAST + " 1 1 8 8 8]");
        Check.same("no recording", new FlightReader().group('k', 'n'), 0);
    }

    private static void order() {
        FlightReader reader = longs(5, -5, 5, 0, -5, 5);
        Check.same("three", reader.group('n', 'n'), 3);
        Check.sameText("as they are met", Seen.groups(reader), " [5 3 3 15 5 5] [-5 2 2 -10 -5 -5] [0 1 1 0 0 0]");
        long[] down = new long[60];
        for (int i = 0; i < 60; i++) {
            down[i] = 59 - i;
        }
        FlightReader full = longs(down);
        Check.same("sixty", full.group('n', 'n'), 60);
        Check.same("the first", full.grouped(0, 0), 59);
        Check.same("the last", full.grouped(59, 0), 0);
        FlightReader same = longs(new long[60]);
        Check.same("all in one", same.group('n', 'n'), 1);
        Check.same("its events", same.grouped(0, 1), 60);
    }

    private static void secondPath() {
        FlightReader reader = mixed();
        Check.same("by n, of k", reader.group('n', 'k'), 5);
        Check.sameText("of each its own", Seen.groups(reader), " [5 1 1 " + MOST + " " + MOST + " " + MOST + "] [6 1 0 0 0 0] [7 1 1 1 1 1] "
                + "[8 1 1 " + LEAST + " " + LEAST + " " + LEAST + "] [-9 1 1 " + MOST + " " + MOST + " " + MOST + "]");
        Check.same("of nothing", reader.group('k', 'q'), 3);
        Check.sameText("no numbers", Seen.groups(reader), " [" + MOST + " 2 0 0 0 0] [1 2 0 0 0 0] [" + LEAST + " 1 0 0 0 0]");
        FlightReader far = farKeys(MOST, 1, LEAST);
        Check.same("one group", far.group('k', 'n'), 1);
        Check.sameText("its sum goes beyond and back", Seen.groups(far), " [1 3 3 0 " + LEAST + " " + MOST + "]");
        FlightReader beyond = farKeys(MOST, 1);
        Check.same("one group", beyond.group('k', 'n'), 1);
        Check.sameText("its sum is beyond", Seen.groups(beyond), " [1 2 2 " + LEAST + " 1 " + MOST + "]");
    }

    private static FlightReader farKeys(long... numbers) {
        ChunkMaker maker = ChunkMaker.with(Bytes.type(16, 'E', 1, Bytes.field('k', Bytes.INT, 0), Bytes.field('n', Bytes.LONG, 0)));
        for (long n : numbers) {
            maker.value(Bytes.of(1).number(n));
        }
        return Check.opened("one key", maker.done(), numbers.length);
    }

    private static void latest() {
        FlightReader reader = mixed();
        Check.sameText("no group()", Seen.groups(reader), "");
        Check.same("five", reader.group('n', 'n'), 5);
        Check.same("three", reader.group('k', 'q'), 3);
        Check.noIndex("none of the one before", () -> reader.grouped(3, 0));
        Check.same("no numbers of the one before", reader.grouped(0, 2), 0);
        Check.same("none", reader.group('q', 'q'), 0);
        Check.sameText("none", Seen.groups(reader), "");
    }

    private static void noneAreLeft() {
        FlightReader reader = longs(1, 2);
        Check.same("group", reader.group('n', 'n'), 2);
        String groups = Seen.groups(reader);
        Check.noArgument("open()", reader::open);
        Check.sameText("an open() that threw", Seen.groups(reader), groups);
        Check.typed(reader, "n");
        Check.noArgument("select()", () -> reader.select(true));
        Check.sameText("a select() that threw", Seen.groups(reader), groups);
        Samples.longs(1, 2).feedTo(reader);
        Check.sameText("feed()", Seen.groups(reader), groups);
        Check.same("open()", reader.open(), 2);
        Check.sameText("none by open()", Seen.groups(reader), "");
        Check.same("group", reader.group('n', 'n'), 2);
        Check.typed(reader, "n=2");
        Check.same("select()", reader.select(false), 1);
        Check.sameText("none by select()", Seen.groups(reader), "");
    }

    private static void told() {
        FlightReader reader = farKeys(-2, 7, -9);
        Check.same("group", reader.group('k', 'n'), 1);
        long[] due = {1, 3, 3, -4, -9, 7};
        for (int what = 0; what < 6; what++) {
            Check.same("grouped(0, " + what + ")", reader.grouped(0, what), due[what]);
        }
        Check.same("group", reader.group('k', 'q'), 1);
        long[] none = {1, 3, 0, 0, 0, 0};
        for (int what = 0; what < 6; what++) {
            Check.same("grouped(0, " + what + ") without numbers", reader.grouped(0, what), none[what]);
        }
        FlightReader negative = farKeys(-2, -3);
        Check.same("group", negative.group('k', 'n'), 1);
        Check.same("the greatest of negative ones", negative.grouped(0, 5), -2);
        FlightReader positive = farKeys(2, 3);
        Check.same("group", positive.group('k', 'n'), 1);
        Check.same("the least of positive ones", positive.grouped(0, 4), 2);
    }

    private static void groupedRefused() {
        FlightReader reader = longs(1, 2, 2);
        Check.same("group", reader.group('n', 'n'), 2);
        String before = Seen.of(reader);
        for (int g : new int[] {-1, 2, 60, Integer.MIN_VALUE, Integer.MAX_VALUE}) {
            for (int what : new int[] {-1, 0, 5, 6}) {
                Check.noIndex("grouped(" + g + ", " + what + ")", () -> reader.grouped(g, what));
            }
        }
        for (int what : new int[] {-1, 6, Integer.MIN_VALUE, Integer.MAX_VALUE}) {
            Check.noArgument("grouped(1, " + what + ")", () -> reader.grouped(1, what));
        }
        Check.sameText("all stays", Seen.of(reader), before);
        Check.same("the last", reader.grouped(1, 5), 2);
    }
}
