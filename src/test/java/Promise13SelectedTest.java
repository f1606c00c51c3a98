/** Promise 13: the selected events in their order. */
final class Promise13SelectedTest {
    public static void main(String[] args) {
        ChunkMaker maker = ChunkMaker.simple();
        for (int i = 0; i < 10; i++) {
            maker.number(i % 3);
        }
        FlightReader reader = Check.opened("ten", maker.done(), 10);
        for (int i = 0; i < 10; i++) {
            Check.same("all", reader.selected(i), i);
        }
        Check.noIndex("selected(10)", () -> reader.selected(10));
        Check.typed(reader, "n=1");
        Check.same("select(true)", reader.select(true), 3);
        for (int i = 0; i < 3; i++) {
            Check.same("every third", reader.selected(i), 3 * i + 1);
        }
        for (int i : new int[] {3, 9, -1, Integer.MAX_VALUE, Integer.MIN_VALUE}) {
            Check.noIndex("selected(" + i + ")", () -> reader.selected(i));
        }
        Check.same("group", reader.group('n', 'n'), 1);
        Check.same("others leave the selection", reader.selected(2), 7);
        Check.end();
    }
}
