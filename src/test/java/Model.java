import java.util.ArrayDeque;
import java.util.ArrayList;
import java.util.Collections;
import java.util.Deque;
import java.util.HashMap;
import java.util.List;
import java.util.Map;

/**
 * The document written once more, in another way: texts are Strings, parts are trees of objects,
 * failures are exceptions. The random runs compare TemplateScopes with it, call by call.
 */
final class Model {
    private static final String NAMES = "abcdefghkx";

    /** One part: its kind is 'p' (plain), '~', 'v' (value), '!', '^', '*', '?' or '='. */
    private record Part(char kind, int place, char shown, List<Part> inner) {
        int count() {
            return 1 + inner.stream().mapToInt(Part::count).sum();
        }

        int height() {
            return 1 + inner.stream().mapToInt(Part::height).max().orElse(0);
        }

        int mask(String kinds) {
            int own = kinds.indexOf(kind) >= 0 ? 1 << NAMES.indexOf(shown) : 0;
            return inner.stream().mapToInt(p -> p.mask(kinds)).reduce(own, (a, b) -> a | b);
        }

        int loops() {
            return (kind == '*' ? 1 : 0) + inner.stream().mapToInt(Part::loops).sum();
        }
    }

    private static final class ReadError extends RuntimeException {
        private static final long serialVersionUID = 1L;
        final int at;

        ReadError(int at) {
            super(null, null, false, false);
            this.at = at;
        }
    }

    /** Reads by descent; a text that ends too early is an error at its length. */
    private static final class Reading {
        final String text;
        int at;

        Reading(String text) {
            this.text = text;
        }

        char next(String wanted) {
            if (at == text.length() || (wanted != null && wanted.indexOf(text.charAt(at)) < 0)) {
                throw new ReadError(at);
            }
            return text.charAt(at++);
        }

        List<Part> list(boolean within) {
            List<Part> parts = new ArrayList<>();
            while (within ? at == text.length() || text.charAt(at) != '}' : at < text.length()) {
                parts.add(part());
            }
            return parts;
        }

        Part part() {
            int place = at;
            char first = next(null);
            if (first == '}') {
                throw new ReadError(place);
            }
            if (first == '~') {
                return new Part('~', place, next(null), List.of());
            }
            if (first != '{') {
                return new Part('p', place, first, List.of());
            }
            char sign = next(NAMES + "!^*?=");
            char name = NAMES.indexOf(sign) >= 0 ? sign : next(NAMES);
            if ("*?=".indexOf(sign) < 0) {
                next("}");
                return new Part(name == sign ? 'v' : sign, place, name, List.of());
            }
            next(":");
            List<Part> inner = list(true);
            next("}");
            return new Part(sign, place, name, inner);
        }
    }

    /** The parts of a text, or null; error is the first error, or the length. */
    private static final class Read {
        List<Part> parts;
        int error;

        Read(String text) {
            error = text.length();
            try {
                parts = new Reading(text).list(false);
            } catch (ReadError e) {
                error = e.at;
            }
        }

        boolean complete() {
            return parts != null;
        }
    }

    private static final class Failure extends RuntimeException {
        private static final long serialVersionUID = 1L;
        final int reason;

        Failure(int reason) {
            super(null, null, false, false);
            this.reason = reason;
        }
    }

    private static final class Run {
        final StringBuilder output = new StringBuilder();
        final StringBuilder kinds = new StringBuilder();
        final Deque<StringBuilder> settings = new ArrayDeque<>();
        final List<Map<Character, String>> scopes = new ArrayList<>();
        int steps;
        int reason;
        List<Integer> places = new ArrayList<>();

        Run(String template, String[] values, int without) {
            scopes.add(new HashMap<>());
            for (int v = 0; v < 8; v++) {
                if (values[v] != null && v != without) {
                    scopes.get(0).put((char) ('a' + v), values[v]);
                }
            }
            try {
                list(new Read(template).parts, 0);
            } catch (Failure e) {
                reason = e.reason;
            }
            if (reason == 0) {
                places.clear();
            }
        }

        void list(List<Part> parts, int included) {
            for (Part part : parts) {
                places.add(part.place());
                part(part, included);
                places.remove(places.size() - 1);
            }
        }

        /** The parts within a block are told instead of the block. */
        void within(Part block, int included) {
            int place = places.remove(places.size() - 1);
            list(block.inner(), included);
            places.add(place);
        }

        String value(char name) {
            String value = given(name);
            if (value == null) {
                throw new Failure(1);
            }
            return value;
        }

        String given(char name) {
            for (int i = scopes.size() - 1; i >= 0; i--) {
                if (scopes.get(i).containsKey(name)) {
                    return scopes.get(i).get(name);
                }
            }
            return null;
        }

        void print(char shown, char kind) {
            if (!settings.isEmpty()) {
                if (settings.peek().length() == 24) {
                    throw new Failure(6);
                }
                settings.peek().append(shown);
                return;
            }
            if (output.length() == 200) {
                throw new Failure(2);
            }
            output.append(shown);
            kinds.append(kind);
        }

        void printAll(String text) {
            for (char c : text.toCharArray()) {
                print(c, 'v');
            }
        }

        void part(Part part, int included) {
            if (steps == 200) {
                throw new Failure(3);
            }
            steps++;
            char name = part.shown();
            switch (part.kind()) {
                case 'p', '~' -> print(name, part.kind());
                case 'v' -> printAll(value(name));
                case '!' -> printAll(escape(value(name)));
                case '^' -> include(value(name), included);
                case '*' -> {
                    String value = value(name);
                    for (int pass = 0; pass < value.length(); pass++) {
                        scopes.add(new HashMap<>());
                        scopes.get(scopes.size() - 1).put('k', Integer.toString(pass));
                        scopes.get(scopes.size() - 1).put('x', value.substring(pass, pass + 1));
                        within(part, included);
                        scopes.remove(scopes.size() - 1);
                    }
                }
                case '?' -> {
                    if (given(name) != null && !given(name).isEmpty()) {
                        within(part, included);
                    }
                }
                default -> {
                    settings.push(new StringBuilder());
                    within(part, included);
                    scopes.get(scopes.size() - 1).put(name, settings.pop().toString());
                }
            }
        }

        void include(String value, int included) {
            if (included == 4) {
                throw new Failure(4);
            }
            Read read = new Read(value);
            if (!read.complete()) {
                places.add(read.error);
                throw new Failure(5);
            }
            scopes.add(new HashMap<>());
            list(read.parts, included + 1);
            scopes.remove(scopes.size() - 1);
        }

        int printedOf(char kind) {
            return (int) kinds.chars().filter(k -> k == kind).count();
        }
    }

    private static final class State {
        String[] values = new String[8];
        Run latest = new Run("", new String[8], -1);
        int renderings;
        int failures;
        int printed;

        State copy() {
            State other = new State();
            other.values = values.clone();
            other.latest = latest;
            other.renderings = renderings;
            other.failures = failures;
            other.printed = printed;
            return other;
        }
    }

    private final StringBuilder buffer = new StringBuilder();
    private State state = new State();
    private final Deque<State> saved = new ArrayDeque<>();
    private State snapshot;

    private static String escape(String text) {
        return text.replaceAll("([{}~])", "~$1");
    }

    private static void need(boolean holds) {
        if (!holds) {
            throw new IllegalStateException();
        }
    }

    private static void needVariable(int variable) {
        if (variable < 0 || variable > 7) {
            throw new IndexOutOfBoundsException();
        }
    }

    private static void needCode(int code) {
        if (code < 33 || code > 126) {
            throw new IllegalArgumentException();
        }
    }

    private String needValue(int variable) {
        needVariable(variable);
        need(state.values[variable] != null);
        return state.values[variable];
    }

    private List<Part> needParts() {
        Read read = new Read(buffer.toString());
        need(read.complete());
        return read.parts;
    }

    private Run would(int without) {
        needParts();
        return new Run(buffer.toString(), state.values, without);
    }

    private void save() {
        saved.addLast(state.copy());
        if (saved.size() > 6) {
            saved.removeFirst();
        }
    }

    private int give(int variable, String value) {
        save();
        state.values[variable] = value;
        return value.length();
    }

    int append(int code) {
        needCode(code);
        need(buffer.length() < 60);
        buffer.append((char) code);
        return buffer.length();
    }

    int clearTemplate() {
        int length = buffer.length();
        buffer.setLength(0);
        return length;
    }

    int templateLength() {
        return buffer.length();
    }

    int firstError() {
        return new Read(buffer.toString()).error;
    }

    boolean isComplete() {
        return new Read(buffer.toString()).complete();
    }

    int parts() {
        return needParts().stream().mapToInt(Part::count).sum();
    }

    int depth() {
        return needParts().stream().mapToInt(Part::height).max().orElse(0);
    }

    int names() {
        return needParts().stream().mapToInt(p -> p.mask("v!^*?=")).reduce(0, (a, b) -> a | b);
    }

    int namesSet() {
        return needParts().stream().mapToInt(p -> p.mask("=")).reduce(0, (a, b) -> a | b);
    }

    int loops() {
        return needParts().stream().mapToInt(Part::loops).sum();
    }

    int appendValue(int variable, int code) {
        needVariable(variable);
        needCode(code);
        String old = state.values[variable] == null ? "" : state.values[variable];
        need(old.length() < 24);
        return give(variable, old + (char) code);
    }

    int removeValue(int variable) {
        int length = needValue(variable).length();
        save();
        state.values[variable] = null;
        return length;
    }

    int emptyValue(int variable) {
        needVariable(variable);
        int length = state.values[variable] == null ? 0 : state.values[variable].length();
        give(variable, "");
        return length;
    }

    int copyValue(int variable, int other) {
        needVariable(variable);
        return give(variable, needValue(other));
    }

    int escapeValue(int variable) {
        String text = escape(needValue(variable));
        need(text.length() <= 24);
        return give(variable, text);
    }

    int takeOutput(int variable) {
        needVariable(variable);
        need(outputLength() <= 24);
        return give(variable, state.latest.output.toString());
    }

    int takeTemplate(int variable) {
        needVariable(variable);
        need(buffer.length() <= 24);
        return give(variable, buffer.toString());
    }

    boolean hasValue(int variable) {
        needVariable(variable);
        return state.values[variable] != null;
    }

    int valueLength(int variable) {
        return needValue(variable).length();
    }

    int valueCharacter(int variable, int place) {
        needVariable(variable);
        String value = state.values[variable];
        if (value != null && (place < 0 || place >= value.length())) {
            throw new IndexOutOfBoundsException();
        }
        return needValue(variable).charAt(place);
    }

    boolean isTemplate(int variable) {
        return new Read(needValue(variable)).complete();
    }

    int escapedLength(int variable) {
        return escape(needValue(variable)).length();
    }

    int alikeBehindEscaping(int variable) {
        String value = needValue(variable);
        String printed = new Run(escape(value), new String[8], -1).output.toString();
        int alike = 0;
        for (int i = 0; i < Math.min(value.length(), printed.length()); i++) {
            alike += value.charAt(i) == printed.charAt(i) ? 1 : 0;
        }
        return alike;
    }

    int render() {
        Run run = would(-1);
        save();
        state.latest = run;
        state.renderings++;
        state.failures += run.reason == 0 ? 0 : 1;
        state.printed += run.output.length();
        return run.output.length();
    }

    int outputLength() {
        return state.latest.output.length();
    }

    int outputCharacter(int place) {
        if (place < 0 || place >= outputLength()) {
            throw new IndexOutOfBoundsException();
        }
        return state.latest.output.charAt(place);
    }

    boolean hasFailed() {
        return state.latest.reason != 0;
    }

    int failureReason() {
        need(hasFailed());
        return state.latest.reason;
    }

    int failurePlaces() {
        return state.latest.places.size();
    }

    int failurePlace(int number) {
        if (number < 0 || number >= failurePlaces()) {
            throw new IndexOutOfBoundsException();
        }
        return state.latest.places.get(number);
    }

    int steps() {
        return state.latest.steps;
    }

    int plainPrinted() {
        return state.latest.printedOf('p');
    }

    int escapesPrinted() {
        return state.latest.printedOf('~');
    }

    int valuesPrinted() {
        return state.latest.printedOf('v');
    }

    int renderings() {
        return state.renderings;
    }

    int failures() {
        return state.failures;
    }

    int printed() {
        return state.printed;
    }

    int wouldPrint() {
        return would(-1).output.length();
    }

    int wouldPrintByText() {
        return wouldPrint();
    }

    int wouldFail() {
        return would(-1).reason;
    }

    int wouldPrintWithout(int variable) {
        needVariable(variable);
        return would(variable).output.length();
    }

    int undo() {
        need(!saved.isEmpty());
        state = saved.removeLast();
        return saved.size();
    }

    int keep() {
        snapshot = state.copy();
        return outputLength();
    }

    int restore() {
        need(snapshot != null);
        save();
        state = snapshot.copy();
        return outputLength();
    }

    int savedStates() {
        return saved.size();
    }

    double valueShare() {
        return outputLength() == 0 ? 0.0 : (double) valuesPrinted() / outputLength();
    }

    long digest() {
        List<Long> list = new ArrayList<>();
        addText(list, state.latest.output);
        add(list, hasFailed() ? 1 : 0);
        if (hasFailed()) {
            add(list, failureReason());
        }
        add(list, failurePlaces());
        state.latest.places.forEach(place -> add(list, place));
        add(list, steps(), plainPrinted(), escapesPrinted(), valuesPrinted());
        add(list, renderings(), failures(), printed(), savedStates());
        for (int v = 0; v < 8; v++) {
            add(list, hasValue(v) ? 1 : 0);
            if (hasValue(v)) {
                addText(list, state.values[v]);
                add(list, isTemplate(v) ? 1 : 0, escapedLength(v), alikeBehindEscaping(v));
            }
        }
        add(list, isComplete() ? 1 : 0);
        if (isComplete()) {
            add(list, parts(), depth(), names(), namesSet(), loops());
            add(list, wouldPrint(), wouldPrintByText(), wouldFail());
        }
        add(list, firstError(), Double.doubleToLongBits(valueShare()));
        addText(list, buffer);
        return list.stream().reduce(4349L, (hash, value) -> 31 * hash + value);
    }

    private static void add(List<Long> list, long... values) {
        for (long value : values) {
            Collections.addAll(list, value);
        }
    }

    private static void addText(List<Long> list, CharSequence text) {
        add(list, text.length());
        text.chars().forEach(code -> add(list, code));
    }
}
