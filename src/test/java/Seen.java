/** All that can be seen of an object as one text, so that it can be compared before and after a refused call. */
final class Seen {
    private Seen() {
    }

    /** Faults are left out, as each open() tells its own. */
    static String of(FlightReader reader) {
        StringBuilder seen = new StringBuilder();
        seen.append("chunks ").append(reader.chunks());
        for (int e = 0; has(reader, e); e++) {
            seen.append("; event ").append(e).append(':');
            for (int what = 0; what < 4; what++) {
                seen.append(' ').append(reader.event(e, what));
            }
            seen.append(", n of kind ").append(reader.kind(e, 'n'));
            if (reader.kind(e, 'n') > 0) {
                seen.append(": ").append(reader.value(e, 'n'));
            }
        }
        seen.append("; selected").append(selected(reader));
        seen.append("; groups").append(groups(reader));
        return seen.toString();
    }

    private static boolean has(FlightReader reader, int e) {
        try {
            return reader.kind(e, 0) == 11;
        } catch (IndexOutOfBoundsException none) {
            return false;
        }
    }

    static String selected(FlightReader reader) {
        StringBuilder seen = new StringBuilder();
        for (int i = 0; i <= 60; i++) {
            try {
                int e = reader.selected(i);
                seen.append(' ').append(e);
            } catch (IndexOutOfBoundsException none) {
                return seen.toString();
            }
        }
        return seen.toString();
    }

    /** Each group in brackets: its number, events, numbers, sum, least and greatest. */
    static String groups(FlightReader reader) {
        StringBuilder seen = new StringBuilder();
        for (int g = 0; g <= 60; g++) {
            try {
                long number = reader.grouped(g, 0);
                seen.append(" [").append(number);
                for (int what = 1; what < 6; what++) {
                    seen.append(' ').append(reader.grouped(g, what));
                }
                seen.append(']');
            } catch (IndexOutOfBoundsException none) {
                return seen.toString();
            }
        }
        return seen.toString();
    }
}
