/** Promise 3: the faults 1 and 2 of a header, in their turn, of the first chunk and of another. */
final class Promise03HeaderFaultTest {
    public static void main(String[] args) {
        Bytes good = ChunkMaker.simple().number(1).done();
        Bytes four = good.times(4);
        for (int before = 0; before <= 2; before++) {
            bytes(good, before);
            sizes(good, before);
        }
        Check.faulty("a fifth chunk", good.times(5), 8, four.size());
        Check.faulty("one byte behind the fourth", four.copy().add(1), 8, four.size());
        Check.faulty("no bytes", Bytes.none(), 2, 0);
        Check.end();
    }

    private static void bytes(Bytes good, int before) {
        int base = before * good.size();
        for (int i = 0; i < 5; i++) {
            Bytes bad = good.copy().set(i, good.at(i) + 1);
            Check.faulty("byte " + i, good.times(before).join(bad), 1, base + i);
            Check.faulty("byte " + i + ", the last one", good.times(before).join(bad.first(i + 1)), 1, base + i);
        }
        for (int version : new int[] {0, 1, 3, 255}) {
            Bytes other = good.copy().set(4, version);
            Check.faulty("version " + version, good.times(before).join(other), 1, base + 4);
        }
        Check.opened("byte 5 is free", good.times(before).join(good.copy().set(5, 255)), before + 1);
        for (int n = 1; n < 8; n++) {
            Check.faulty("only " + n + " bytes", good.times(before).join(good.first(n)), 2, base + n);
        }
        Bytes signs = good.copy().set(1, 0).set(3, 9).set(4, 9);
        Check.faulty("the first of three", good.times(before).join(signs), 1, base + 1);
    }

    private static void sizes(Bytes good, int before) {
        int base = before * good.size();
        Bytes front = good.times(before);
        for (int n = 8; n < good.size(); n++) {
            Check.faulty("cut at " + n, front.copy().join(good.first(n)), 2, base + 6);
        }
        Check.faulty("size 19", front.copy().join(good.copy().set(6, 0).set(7, 19)), 1, base + 6);
        Check.faulty("size 19 of 8 bytes", front.copy().join(good.copy().set(7, 19).first(8)), 1, base + 6);
        Check.faulty("size 0", front.copy().join(good.copy().set(6, 0).set(7, 0)), 1, base + 6);
        Check.faulty("one too long", front.copy().join(good.copy().set(7, good.size() + 1)), 2, base + 6);
        Check.faulty("the higher byte is first", front.copy().join(good.copy().set(6, 1)), 2, base + 6);
        Bytes slow = good.copy().set(16, 0).set(17, 0).set(18, 0).set(19, 0);
        Check.faulty("no ticks in a second", front.copy().join(slow), 1, base + 16);
        Check.faulty("before the metadata's place", front.copy().join(slow.copy().set(9, 0)), 1, base + 16);
        Check.opened("most ticks", front.copy().join(good.copy().set(16, 255).set(12, 255)), before + 1);
        Check.faulty("cut before no ticks", front.copy().join(slow.first(20)), 2, base + 6);
    }
}
