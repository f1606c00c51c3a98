import java.math.BigInteger;
import java.util.Arrays;

/** Promise 14: folds of the numbers of the selected events. */
final class Promise14FoldTest {
    public static void main(String[] args) {
        folds();
        folds(7);
        folds(-3, 40);
        folds(0, 1);
        folds(0, -1);
        folds(1, 2, 2);
        folds(-1, -2, -2);
        folds(-1, 0, 0, 0);
        folds(5, 5, 5, 5);
        folds(3, -1, 2, 9, -8, 2, 0);
        folds(Long.MAX_VALUE, Long.MAX_VALUE);
        folds(Long.MIN_VALUE, Long.MIN_VALUE, Long.MIN_VALUE);
        folds(Long.MIN_VALUE, Long.MAX_VALUE);
        folds(Long.MAX_VALUE, Long.MAX_VALUE, Long.MAX_VALUE - 1);
        folds(Long.MIN_VALUE, Long.MIN_VALUE + 1);
        folds(Long.MAX_VALUE, 1, 1, 1, Long.MAX_VALUE - 7);
        long[] many = new long[60];
        long seed = 1;
        for (int i = 0; i < 60; i++) {
            seed = seed * 6364136223846793005L + 1442695040888963407L;
            many[i] = i % 2 == 0 ? seed : seed >> 55;
        }
        folds(many);
        others();
        selection();
        wrong();
        Check.end();
    }

    private static ChunkMaker longs(long... numbers) {
        ChunkMaker maker = ChunkMaker.with(Bytes.type(16, 'E', 1, Bytes.field('n', Bytes.LONG, 0)));
        for (long n : numbers) {
            maker.happening(16, 1, new Bytes().number(n));
        }
        return maker;
    }

    private static void folds(long... numbers) {
        String of = Arrays.toString(numbers) + ": ";
        FlightReader reader = Check.opened(of, longs(numbers).done(), numbers.length);
        long[] sorted = numbers.clone();
        Arrays.sort(sorted);
        BigInteger sum = BigInteger.ZERO;
        for (long n : numbers) {
            sum = sum.add(BigInteger.valueOf(n));
        }
        Check.same(of + "how many", reader.fold(0, 'n'), numbers.length);
        Check.same(of + "sum", reader.fold(1, 'n'), sum.longValue());
        if (numbers.length == 0) {
            for (int what : new int[] {2, 3, 4, 100, 150, 200}) {
                Check.noElement("fold " + what + " of none", () -> reader.fold(what, 'n'));
            }
            return;
        }
        Check.same(of + "least", reader.fold(2, 'n'), sorted[0]);
        Check.same(of + "greatest", reader.fold(3, 'n'), sorted[sorted.length - 1]);
        BigInteger n = BigInteger.valueOf(numbers.length);
        BigInteger[] halves = sum.abs().multiply(BigInteger.TWO).add(n).divideAndRemainder(n.multiply(BigInteger.TWO));
        Check.same(of + "mean", reader.fold(4, 'n'), halves[0].multiply(BigInteger.valueOf(sum.signum())).longValue());
        for (int p = 0; p <= 100; p++) {
            int place = Math.max((p * numbers.length + 99) / 100 - 1, 0);
            Check.same(of + p + " of a hundred", reader.fold(100 + p, 'n'), sorted[place]);
        }
    }

    private static void others() {
        FlightReader reader = Check.opened("rich", Samples.rich(), 2);
        Check.same("both have s, one as a number", reader.fold(0, 's'), 1);
        Check.same("it is", reader.fold(2, 's'), -1);
        Check.same("by a path", reader.fold(1, Check.path("a0n")), -1);
        for (String none : new String[] {"f", "d", "t", "m", "a", "q", ""}) {
            Check.same("how many by " + none, reader.fold(0, Check.path(none)), 0);
            Check.same("sum by " + none, reader.fold(1, Check.path(none)), 0);
            Check.noElement("least by " + none, () -> reader.fold(2, Check.path(none)));
        }
        for (String one : new String[] {"z", "b", "s", "c", "i", "l", "k0", "sn"}) {
            Check.same("how many by " + one, reader.fold(0, Check.path(one)), 1);
        }
    }

    private static void selection() {
        FlightReader reader = Check.opened("some", longs(4, 8, 15, 16, 23, 42).done(), 6);
        Check.typed(reader, "n>10");
        Check.same("select", reader.select(true), 4);
        Check.same("how many", reader.fold(0, 'n'), 4);
        Check.same("sum", reader.fold(1, 'n'), 96);
        Check.same("least", reader.fold(2, 'n'), 15);
        Check.same("half", reader.fold(150, 'n'), 16);
        Check.same("the events keep their order", reader.selected(0), 2);
        Check.typed(reader, "n>99");
        Check.same("select", reader.select(true), 0);
        Check.noElement("none", () -> reader.fold(3, 'n'));
    }

    private static void wrong() {
        FlightReader reader = Check.opened("one", longs(1).done(), 1);
        for (int what : new int[] {-1, 5, 99, 201, Integer.MAX_VALUE, Integer.MIN_VALUE}) {
            Check.noArgument("fold " + what, () -> reader.fold(what, 'n'));
            Check.noArgument("fold " + what + " of none", () -> reader.fold(what, 'q'));
        }
    }
}
