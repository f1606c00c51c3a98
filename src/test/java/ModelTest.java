import java.math.BigDecimal;
import java.math.BigInteger;
import java.math.RoundingMode;
import java.util.ArrayList;
import java.util.Collections;
import java.util.LinkedHashMap;
import java.util.List;
import java.util.Map;
import java.util.regex.Matcher;
import java.util.regex.Pattern;

/** Many ordinary recordings, each held against the Model that was made up together with it. */
final class ModelTest {
    private static final int MODELS = 400;
    /** How many looks one object is good for: with feeding and open() fewer than 512 calls. */
    private static final int LOOKS = 120;
    private static final BigInteger NANOS = BigInteger.valueOf(1000000000L);
    private static final String COMPARISON = "[a-z0-9](\\.[a-z0-9]){0,3}[=#<>]-?[0-9]{1,9}";
    private static final Pattern FILTER = Pattern.compile("([A-Z]:)?(" + COMPARISON + "(&" + COMPARISON + ")*)?");

    private interface Look {
        void at(Model model, FlightReader reader);
    }

    public static void main(String[] args) {
        Check.sentence(3, "Reads the bytes as a recording, which takes the place of the one before: how many events it has (without "
                + "metadata and checkpoints); all of them are selected then.", ModelTest::opened);
        each(3, "IllegalArgumentException if there is a fault (the recording before stays; no bytes are there either).",
                ModelTest::cutOff);
        each(6, "Of an event, in the recording's order: its chunk (what = 0), its type's name (1), its ticks (2), the nanoseconds "
                + "since its chunk's start", ModelTest::events);
        each(7, "What a path from an event leads to: 0 nothing, 1 null, 2 to 10 a plain value of that type, 11 a structure (or the "
                + "event), 12 an array.", ModelTest::kinds);
        each(8, "A number; of FLOAT and DOUBLE the bits (of FLOAT 32, without sign), of a text or an array its length, of a "
                + "structure its type's name, 0 of null.", ModelTest::values);
        each(9, "Character i of a text.", ModelTest::letters);
        each(11, "Of the events that are selected (fresh: of all) those that pass are selected now: how many.", ModelTest::selections);
        each(12, "Where the latest select() threw", ModelTest::misfits);
        each(14, "Folds what the path leads to from each selected event where that is a number", ModelTest::folds);
        each(15, "Groups the selected events by the number that the first path leads to (others are left out), in the order in "
                + "which the numbers are met: how many groups", ModelTest::groups);
        Check.end();
    }

    private static void each(int promise, String words, Look look) {
        Check.sentence(promise, words, () -> {
            for (int seed = 0; seed < MODELS; seed++) {
                Model model = Model.from(seed);
                FlightReader reader = new FlightReader();
                model.bytes.feedTo(reader);
                Check.same("open()", reader.open(), model.events.size());
                look.at(model, reader);
            }
        });
    }

    private static void opened() {
        for (int seed = 0; seed < MODELS; seed++) {
            FlightReader reader = new FlightReader();
            for (int i = 0; i < 2; i++) {
                Model model = Model.from(seed + 7 * i);
                model.bytes.feedTo(reader);
                int n = model.events.size();
                Check.same("open()", reader.open(), n);
                Check.same("chunks()", reader.chunks(), model.chunks);
                if (n > 0) {
                    Check.same("the last one", reader.selected(n - 1), n - 1);
                }
                Check.noIndex("none behind it", () -> reader.selected(n));
            }
        }
    }

    /** The same bytes once more, but not all of them: what is left ends in some chunk, or between two. */
    private static void cutOff(Model model, FlightReader reader) {
        int n = model.below(model.bytes.size());
        int chunk = 0;
        while (chunk + 1 < model.chunks && model.chunkPlaces.get(chunk + 1) <= n) {
            chunk++;
        }
        int begin = model.chunkPlaces.get(chunk);
        model.bytes.first(n).feedTo(reader);
        if (n == begin && chunk > 0) {
            Check.same("whole chunks", reader.open() >= 0 ? reader.chunks() : -1, chunk);
            return;
        }
        Check.noArgument("open()", reader::open);
        Check.same("fault(0)", reader.fault(0), 2);
        Check.same("fault(1)", reader.fault(1), n < begin + 8 ? n : begin + 6);
        Check.same("chunks()", reader.chunks(), model.chunks);
        Check.noArgument("open() of no bytes", reader::open);
        Check.same("fault(1) of no bytes", reader.fault(1), 0);
        int last = model.events.size() - 1;
        if (last >= 0) {
            Check.same("the last one is still selected", reader.selected(last), last);
            Check.same("its ticks", reader.event(last, 2), model.events.get(last).ticks);
        }
    }

    private static void events(Model model, FlightReader reader) {
        for (int e = 0; e < model.events.size(); e++) {
            Model.Event event = model.events.get(e);
            Check.same("its chunk", reader.event(e, 0), event.chunk);
            Check.same("its type's name", reader.event(e, 1), event.name);
            Check.same("its ticks", reader.event(e, 2), event.ticks);
            BigInteger passed = BigInteger.valueOf(event.ticks - event.start);
            BigInteger perSecond = BigInteger.valueOf(event.perSecond);
            BigInteger rest = passed.mod(perSecond);
            BigInteger nanos = passed.subtract(rest).divide(perSecond).multiply(NANOS).add(rest.multiply(NANOS).divide(perSecond));
            Check.same("its nanoseconds", reader.event(e, 3), nanos.longValue());
        }
    }

    /** A path of which each step is there as long as there is one, and at times one that is not. */
    private static int path(Model model, Model.Event event) {
        int path = 0;
        for (int i = 0; i < 4; i++) {
            Model.Part part = event.at(path);
            if (part == null || part.parts.isEmpty() || model.below(6) == 0) {
                return model.below(12) == 0 ? path | (1 + model.below(255)) << (8 * i) : path;
            }
            int index = model.below(Math.min(part.parts.size(), 10));
            path |= (part.kind == 12 ? '0' + index : part.names.charAt(index)) << (8 * i);
        }
        return path;
    }

    private static int event(Model model) {
        return model.below(model.events.size());
    }

    private static int looks(Model model) {
        return model.events.isEmpty() ? 0 : LOOKS;
    }

    private static void kinds(Model model, FlightReader reader) {
        for (int i = looks(model); i > 0; i--) {
            int e = event(model);
            int path = path(model, model.events.get(e));
            Model.Part part = model.events.get(e).at(path);
            Check.same("kind of " + path, reader.kind(e, path), part == null ? 0 : part.kind);
        }
    }

    private static void values(Model model, FlightReader reader) {
        for (int i = looks(model); i > 0; i--) {
            int e = event(model);
            int path = path(model, model.events.get(e));
            Model.Part part = model.events.get(e).at(path);
            if (part == null) {
                Check.noElement("value of " + path, () -> reader.value(e, path));
            } else {
                Check.same("value of " + path, reader.value(e, path), part.number);
            }
        }
    }

    private static void letters(Model model, FlightReader reader) {
        for (int i = looks(model); i > 0; i--) {
            int e = event(model);
            int path = path(model, model.events.get(e));
            int place = model.below(6) - 1;
            Model.Part part = model.events.get(e).at(path);
            if (part == null || part.kind != Bytes.TEXT) {
                Check.noElement("no text at " + path, () -> reader.letter(e, path, place));
            } else if (place < 0 || place >= part.text.length()) {
                Check.noArgument("no letter at " + path, () -> reader.letter(e, path, place));
            } else {
                Check.same("a letter at " + path, reader.letter(e, path, place), part.text.charAt(place));
            }
        }
    }

    /** A filter that some events may pass, as its numbers are near those that are there. */
    private static String filter(Model model) {
        StringBuilder typed = new StringBuilder();
        if (model.below(3) == 0) {
            typed.append((char) ('A' + model.below(5))).append(':');
        }
        for (int n = model.below(4); n > 0; n--) {
            Model.Event event = model.events.get(event(model));
            int path = path(model, event);
            Model.Part part = event.at(path);
            boolean near = part != null && part.isNumber() && Math.abs(part.number) < 1000;
            String steps = path == 0 ? "n" : "";
            for (int left = path; left != 0; left >>>= 8) {
                steps += (steps.isEmpty() ? "" : ".") + (char) (left & 255);
            }
            typed.append(steps).append("=#<>".charAt(model.below(4))).append(near ? part.number : model.below(100) - 50);
            typed.append(n > 1 ? "&" : "");
        }
        return typed.toString();
    }

    private static boolean passes(Model.Event event, String filter) {
        String left = filter;
        if (left.length() > 1 && left.charAt(1) == ':') {
            if (left.charAt(0) != event.name) {
                return false;
            }
            left = left.substring(2);
        }
        for (String comparison : left.isEmpty() ? new String[0] : left.split("&")) {
            String[] sides = comparison.split("[=#<>]");
            Model.Part part = event.at(Check.path(sides[0].replace(".", "")));
            if (part == null || !part.isNumber()) {
                return false;
            }
            int order = Long.compare(part.number, Long.parseLong(sides[1]));
            char sign = comparison.charAt(sides[0].length());
            if (!(sign == '=' ? order == 0 : sign == '#' ? order != 0 : sign == '<' ? order < 0 : order > 0)) {
                return false;
            }
        }
        return true;
    }

    private static void selections(Model model, FlightReader reader) {
        List<Integer> due = all(model);
        for (int i = 0; i < 4 && looks(model) > 0; i++) {
            String filter = filter(model);
            if (filter.length() <= 40 && FILTER.matcher(filter).matches()) {
                Check.typed(reader, filter);
                boolean fresh = model.below(2) == 0;
                List<Integer> from = fresh ? all(model) : due;
                due = new ArrayList<>();
                for (int e : from) {
                    if (passes(model.events.get(e), filter)) {
                        due.add(e);
                    }
                }
                Check.same("select by " + filter, reader.select(fresh), due.size());
                checkSelected(filter, reader, due);
            }
        }
    }

    private static List<Integer> all(Model model) {
        List<Integer> all = new ArrayList<>();
        for (int e = 0; e < model.events.size(); e++) {
            all.add(e);
        }
        return all;
    }

    private static void checkSelected(String filter, FlightReader reader, List<Integer> due) {
        for (int i = 0; i < due.size(); i++) {
            Check.same("selected by " + filter, reader.selected(i), due.get(i));
        }
        Check.noIndex("selected by " + filter, () -> reader.selected(due.size()));
    }

    private static int misfit(String typed) {
        for (int n = 1; n <= typed.length(); n++) {
            Matcher matcher = FILTER.matcher(typed.substring(0, n));
            if (!matcher.matches() && !matcher.hitEnd()) {
                return n - 1;
            }
        }
        return FILTER.matcher(typed).matches() ? -1 : typed.length();
    }

    private static void misfits(Model model, FlightReader reader) {
        for (int i = 0; i < 5 && looks(model) > 0; i++) {
            StringBuilder typed = new StringBuilder(filter(model));
            for (int n = model.below(3); n > 0 && typed.length() > 0; n--) {
                char other = "AZ:az.09=#<>-& ".charAt(model.below(15));
                typed.setCharAt(model.below(typed.length()), other);
            }
            typed.setLength(Math.min(typed.length(), model.below(6) == 0 ? model.below(40) : 40));
            boolean typable = typed.chars().allMatch(c -> c >= 32 && c <= 126);
            if (typable) {
                Check.typed(reader, typed.toString());
                int due = misfit(typed.toString());
                if (due < 0) {
                    reader.select(true);
                } else {
                    Check.noArgument("select by " + typed, () -> reader.select(true));
                }
                Check.same("misfit of " + typed, reader.misfit(), due);
            }
        }
    }

    /** The numbers to which a path leads from the selected ones, which are all. */
    private static List<Long> numbers(Model model, int path) {
        List<Long> numbers = new ArrayList<>();
        for (Model.Event event : model.events) {
            Model.Part part = event.at(path);
            if (part != null && part.isNumber()) {
                numbers.add(part.number);
            }
        }
        return numbers;
    }

    private static void folds(Model model, FlightReader reader) {
        for (int i = 0; i < looks(model) / 10; i++) {
            int path = path(model, model.events.get(event(model)));
            List<Long> due = numbers(model, path);
            Collections.sort(due);
            BigDecimal sum = BigDecimal.ZERO;
            for (long n : due) {
                sum = sum.add(BigDecimal.valueOf(n));
            }
            Check.same("how many", reader.fold(0, path), due.size());
            Check.same("sum", reader.fold(1, path), sum.toBigInteger().longValue());
            int p = model.below(101);
            if (due.isEmpty()) {
                Check.noElement("none", () -> reader.fold(model.below(2) == 0 ? 2 + model.below(3) : 100 + p, path));
            } else {
                Check.same("least", reader.fold(2, path), due.get(0));
                Check.same("greatest", reader.fold(3, path), due.get(due.size() - 1));
                BigDecimal mean = sum.divide(BigDecimal.valueOf(due.size()), 0, RoundingMode.HALF_UP);
                Check.same("mean", reader.fold(4, path), mean.longValueExact());
                int place = Math.max((p * due.size() + 99) / 100 - 1, 0);
                Check.same("part " + p, reader.fold(100 + p, path), due.get(place));
            }
        }
    }

    private static void groups(Model model, FlightReader reader) {
        for (int i = 0; i < 2 && looks(model) > 0; i++) {
            int by = path(model, model.events.get(event(model)));
            int path = path(model, model.events.get(event(model)));
            Map<Long, List<Model.Event>> due = new LinkedHashMap<>();
            for (Model.Event event : model.events) {
                Model.Part part = event.at(by);
                if (part != null && part.isNumber()) {
                    due.computeIfAbsent(part.number, n -> new ArrayList<>()).add(event);
                }
            }
            Check.same("group()", reader.group(by, path), due.size());
            int g = 0;
            for (Map.Entry<Long, List<Model.Event>> entry : due.entrySet()) {
                Check.same("its number", reader.grouped(g, 0), entry.getKey());
                checkGroup(reader, g, entry.getValue(), path);
                g++;
            }
            int none = g;
            Check.noIndex("none behind them", () -> reader.grouped(none, 0));
        }
    }

    private static void checkGroup(FlightReader reader, int g, List<Model.Event> events, int path) {
        Check.same("its events", reader.grouped(g, 1), events.size());
        List<Long> numbers = new ArrayList<>();
        long sum = 0;
        for (Model.Event event : events) {
            Model.Part part = event.at(path);
            if (part != null && part.isNumber()) {
                numbers.add(part.number);
                sum += part.number;
            }
        }
        Check.same("its numbers", reader.grouped(g, 2), numbers.size());
        Check.same("their sum", reader.grouped(g, 3), sum);
        Check.same("the least", reader.grouped(g, 4), numbers.isEmpty() ? 0 : Collections.min(numbers));
        Check.same("the greatest", reader.grouped(g, 5), numbers.isEmpty() ? 0 : Collections.max(numbers));
    }
}
