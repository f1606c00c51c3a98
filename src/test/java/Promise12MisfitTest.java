/** Promise 12: where what was typed begins no filter any more. */
final class Promise12MisfitTest {
    public static void main(String[] args) {
        misfits();
        cutShort();
        FlightReader reader = one();
        Check.same("no select()", reader.misfit(), -1);
        Check.typed(reader, "n?");
        Check.noArgument("select()", () -> reader.select(false));
        ChunkMaker.simple().done().feedTo(reader);
        Check.same("open()", reader.open(), 0);
        Check.same("open() leaves it", reader.misfit(), 1);
        Check.typed(reader, "n=1");
        Check.same("typing leaves it", reader.misfit(), 1);
        Check.same("select()", reader.select(false), 0);
        Check.same("a filter", reader.misfit(), -1);
        Check.end();
    }

    private static FlightReader one() {
        return Check.opened("one event", ChunkMaker.simple().number(1).done(), 1);
    }

    private static void misfits() {
        Object[] rows = {
            "?", 0, ":", 0, "=", 0, "&", 0, ".", 0, "-", 0, " n=1", 0, "@:", 0, "[:", 0, "`=1", 0, "{=1", 0, "/=1", 0,
            "EE:", 1, "En=1", 1, "E=1", 1, "E ", 1, "E::", 2, "E:E", 2, "E:F:", 2, "E:&n=1", 2, "E:=", 2, "E: n", 2,
            "n:", 1, "nn=1", 1, "n-1", 1, "n&", 1, "n1", 1, "n..a=1", 2, "n.=1", 2, "n.A=1", 2, "n.&", 2,
            "a.b.c.d.e=1", 7, "0.1.2.3.", 7, "a.b.c.d5", 7,
            "n==1", 2, "n=>1", 2, "n=n", 2, "n=&", 2, "n=+1", 2, "n=.1", 2, "n= 1", 2, "n=--1", 3, "n=-&", 3, "n=-n", 3,
            "n=1 ", 3, "n=1n", 3, "n=1-", 3, "n=1.", 3, "n=1:", 3, "n=1|n=2", 3, "n=1=", 3,
            "n=1234567890", 11, "n=-1234567890", 12, "n=0000000000", 11, "n=1&&n=1", 4, "n=1&E:", 4, "n=1& n", 4,
            "n=1&n", 5, "n=1&n=1&?", 8, "E:n=1&=", 6};
        for (int i = 0; i < rows.length; i += 2) {
            misfit((String) rows[i], (Integer) rows[i + 1]);
        }
    }

    /** What is the beginning of a filter, but none, does not fit at its end. */
    private static void cutShort() {
        String[] rows = {"E", "n", "n.", "n.a", "n.a.b.c", "n=", "n=-", "n=1&", "E:n", "E:n>", "E:n>-", "E:n>1&a.0",
            "n=1&n=1&n=1&n=1&n=1&n=1&n=1&n=1&n=1&n=1&"};
        for (String row : rows) {
            misfit(row, row.length());
        }
    }

    private static void misfit(String filter, int due) {
        FlightReader reader = one();
        Check.typed(reader, filter);
        Check.noArgument("select by " + filter, () -> reader.select(true));
        Check.same("misfit of " + filter, reader.misfit(), due);
        Check.same("nothing is typed", reader.select(false), 1);
        Check.same("misfit of nothing", reader.misfit(), -1);
    }
}
