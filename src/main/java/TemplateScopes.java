/**
 * A desk for templates: they are read from a buffer, rendered with the values of eight
 * variables, and told of what they would print. The promises are those of DOC.md.
 */
public final class TemplateScopes {
    private static final int VARIABLES = 8;
    private static final int NAMES = 10;
    private static final int NAME_K = 8;
    private static final int NAME_X = 9;
    private static final int FIRST_CODE = 33;
    private static final int LAST_CODE = 126;

    private static final int TEMPLATE_AT_MOST = 60;
    private static final int VALUE_AT_MOST = 24;
    private static final int OUTPUT_AT_MOST = 200;
    private static final int STEPS_AT_MOST = 200;
    private static final int INCLUDED_AT_MOST = 4;
    private static final int SAVED_AT_MOST = 6;

    /**
     * Above what can be reached: a block takes 5 characters, an included value 4, so a template
     * of 60 and 4 included values of 24 characters hold 32 lists of parts within one another.
     */
    private static final int DEEP_AT_MOST = 40;

    /** Far above what a rendering of 200 steps can need. */
    private static final int TURNS_AT_MOST = 100000;

    /** No text, no row, no name or no variable, by where it stands. */
    private static final int NONE = -1;

    private static final int NO_FAILURE = 0;
    private static final int NO_VALUE = 1;
    private static final int OUTPUT_FULL = 2;
    private static final int TOO_MANY_STEPS = 3;
    private static final int TOO_MANY_INCLUDED = 4;
    private static final int NOT_COMPLETE = 5;
    private static final int TEXT_FULL = 6;

    private static final int PLAIN = 0;
    private static final int ESCAPE = 1;
    private static final int VALUE = 2;
    private static final int ESCAPED = 3;
    private static final int INCLUDED = 4;
    private static final int LOOP = 5;
    private static final int CONDITION = 6;
    private static final int SETTING = 7;

    private static final long HASH_AT_FIRST = 4349L;

    private final Texts buffer;
    private final Texts escaped;
    private final Template template;
    private final Rendering rendering;
    private final ByParts byParts;
    private final ByText byText;
    private final State now;
    private final State snapshot;
    private final History history;
    private boolean hasSnapshot;

    public TemplateScopes() {
        buffer = new Texts(1, TEMPLATE_AT_MOST);
        buffer.clear(0);
        escaped = new Texts(1, TEMPLATE_AT_MOST);
        Template included = null;
        for (int level = INCLUDED_AT_MOST; level > 0; level--) {
            included = new Template(level, included);
        }
        template = new Template(0, included);
        rendering = new Rendering();
        byParts = new ByParts(rendering);
        byText = new ByText(rendering);
        now = new State();
        snapshot = new State();
        history = new History();
        hasSnapshot = false;
    }

    // ---- the template

    public int append(int code) throws IllegalArgumentException, IllegalStateException {
        requireCode(code);
        if (!buffer.add(0, code)) {
            throw new IllegalStateException("the buffer is full");
        }
        return buffer.lengthOf(0);
    }

    public int clearTemplate() {
        int length = buffer.lengthOf(0);
        buffer.clear(0);
        return length;
    }

    public int templateLength() {
        return buffer.lengthOf(0);
    }

    public int firstError() {
        template.readFrom(buffer, 0);
        return template.errorPlace();
    }

    public boolean isComplete() {
        template.readFrom(buffer, 0);
        return template.isWhole();
    }

    public int parts() throws IllegalStateException {
        requireComplete();
        return template.partCount();
    }

    public int depth() throws IllegalStateException {
        requireComplete();
        return template.deepest();
    }

    public int names() throws IllegalStateException {
        requireComplete();
        return template.namesUsed();
    }

    public int namesSet() throws IllegalStateException {
        requireComplete();
        return template.namesGiven();
    }

    public int loops() throws IllegalStateException {
        requireComplete();
        return template.loopCount();
    }

    // ---- values

    public int appendValue(int variable, int code)
            throws IndexOutOfBoundsException, IllegalArgumentException, IllegalStateException {
        requireVariable(variable);
        requireCode(code);
        int length = now.values.lengthOf(variable);
        if (length >= VALUE_AT_MOST) {
            throw new IllegalStateException("the value is full");
        }
        history.push(now);
        if (length == NONE) {
            now.values.clear(variable);
        }
        now.values.add(variable, code);
        return now.values.lengthOf(variable);
    }

    public int removeValue(int variable) throws IndexOutOfBoundsException, IllegalStateException {
        int length = requireValue(variable);
        history.push(now);
        now.values.remove(variable);
        return length;
    }

    public int emptyValue(int variable) throws IndexOutOfBoundsException {
        requireVariable(variable);
        int length = Math.max(0, now.values.lengthOf(variable));
        history.push(now);
        now.values.clear(variable);
        return length;
    }

    public int copyValue(int variable, int other)
            throws IndexOutOfBoundsException, IllegalStateException {
        requireVariable(variable);
        int length = requireValue(other);
        history.push(now);
        now.values.copyRow(variable, now.values, other);
        return length;
    }

    public int escapeValue(int variable) throws IndexOutOfBoundsException, IllegalStateException {
        requireValue(variable);
        int length = escapeAside(variable);
        if (length > VALUE_AT_MOST) {
            throw new IllegalStateException("the escaped value is too long");
        }
        history.push(now);
        now.values.copyRow(variable, escaped, 0);
        return length;
    }

    public int takeOutput(int variable) throws IndexOutOfBoundsException, IllegalStateException {
        requireVariable(variable);
        return takeText(variable, now.outcome.output);
    }

    public int takeTemplate(int variable) throws IndexOutOfBoundsException, IllegalStateException {
        requireVariable(variable);
        return takeText(variable, buffer);
    }

    public boolean hasValue(int variable) throws IndexOutOfBoundsException {
        requireVariable(variable);
        return now.values.lengthOf(variable) != NONE;
    }

    public int valueLength(int variable) throws IndexOutOfBoundsException, IllegalStateException {
        return requireValue(variable);
    }

    public int valueCharacter(int variable, int place)
            throws IndexOutOfBoundsException, IllegalStateException {
        int length = requireValue(variable);
        if (place < 0 || place >= length) {
            throw new IndexOutOfBoundsException("the value has no such place");
        }
        return now.values.codeAt(variable, place);
    }

    public boolean isTemplate(int variable)
            throws IndexOutOfBoundsException, IllegalStateException {
        requireValue(variable);
        template.readFrom(now.values, variable);
        return template.isWhole();
    }

    public int escapedLength(int variable) throws IndexOutOfBoundsException, IllegalStateException {
        requireValue(variable);
        return escapeAside(variable);
    }

    public int alikeBehindEscaping(int variable)
            throws IndexOutOfBoundsException, IllegalStateException {
        int length = requireValue(variable);
        escapeAside(variable);
        template.readFrom(escaped, 0);
        runByParts(NONE);
        Texts output = rendering.outcome.output;
        int alike = 0;
        for (int at = 0; at < length && at < output.lengthOf(0); at++) {
            if (output.codeAt(0, at) == now.values.codeAt(variable, at)) {
                alike++;
            }
        }
        return alike;
    }

    // ---- rendering

    public int render() throws IllegalStateException {
        requireComplete();
        history.push(now);
        runByParts(NONE);
        now.takeOutcome(rendering.outcome);
        return outputLength();
    }

    public int outputLength() {
        return now.outcome.output.lengthOf(0);
    }

    public int outputCharacter(int place) throws IndexOutOfBoundsException {
        if (place < 0 || place >= outputLength()) {
            throw new IndexOutOfBoundsException("the output has no such place");
        }
        return now.outcome.output.codeAt(0, place);
    }

    public boolean hasFailed() {
        return now.outcome.reason != NO_FAILURE;
    }

    public int failureReason() throws IllegalStateException {
        if (!hasFailed()) {
            throw new IllegalStateException("the latest rendering did not fail");
        }
        return now.outcome.reason;
    }

    public int failurePlaces() {
        return now.outcome.placeCount;
    }

    public int failurePlace(int number) throws IndexOutOfBoundsException {
        if (number < 0 || number >= failurePlaces()) {
            throw new IndexOutOfBoundsException("the failure has no such place");
        }
        return now.outcome.placeAt(number);
    }

    public int steps() {
        return now.outcome.stepsCounted;
    }

    public int plainPrinted() {
        return now.outcome.ofPlain;
    }

    public int escapesPrinted() {
        return now.outcome.ofEscapes;
    }

    public int valuesPrinted() {
        return now.outcome.ofValues;
    }

    public int renderings() {
        return now.renderingsSoFar;
    }

    public int failures() {
        return now.failuresSoFar;
    }

    public int printed() {
        return now.printedSoFar;
    }

    // ---- what would be; nothing is changed

    public int wouldPrint() throws IllegalStateException {
        requireComplete();
        runByParts(NONE);
        return rendering.outcome.output.lengthOf(0);
    }

    public int wouldPrintByText() throws IllegalStateException {
        requireComplete();
        rendering.begin(now.values, NONE);
        byText.run(buffer);
        return rendering.outcome.output.lengthOf(0);
    }

    public int wouldFail() throws IllegalStateException {
        requireComplete();
        runByParts(NONE);
        return rendering.outcome.reason;
    }

    public int wouldPrintWithout(int variable)
            throws IndexOutOfBoundsException, IllegalStateException {
        requireVariable(variable);
        requireComplete();
        runByParts(variable);
        return rendering.outcome.output.lengthOf(0);
    }

    // ---- undo, the snapshot

    public int undo() throws IllegalStateException {
        if (!history.pop(now)) {
            throw new IllegalStateException("no state is saved");
        }
        return history.size();
    }

    public int keep() {
        snapshot.copyFrom(now);
        hasSnapshot = true;
        return outputLength();
    }

    public int restore() throws IllegalStateException {
        if (!hasSnapshot) {
            throw new IllegalStateException("there is no snapshot");
        }
        history.push(now);
        now.copyFrom(snapshot);
        return outputLength();
    }

    public int savedStates() {
        return history.size();
    }

    public double valueShare() {
        int length = outputLength();
        return length > 0 ? (double) valuesPrinted() / length : 0.0;
    }

    public long digest() {
        long hash = hashOutcome(HASH_AT_FIRST);
        for (int variable = 0; variable < VARIABLES; variable++) {
            hash = hashWithTruth(hash, hasValue(variable));
            if (hasValue(variable)) {
                hash = hashText(hash, now.values, variable);
                hash = hashWithTruth(hash, isTemplate(variable));
                hash = hashWith(hash, escapedLength(variable));
                hash = hashWith(hash, alikeBehindEscaping(variable));
            }
        }
        boolean complete = isComplete();
        hash = hashWithTruth(hash, complete);
        if (complete) {
            hash = hashWith(hash, parts());
            hash = hashWith(hash, depth());
            hash = hashWith(hash, names());
            hash = hashWith(hash, namesSet());
            hash = hashWith(hash, loops());
            hash = hashWith(hash, wouldPrint());
            hash = hashWith(hash, wouldPrintByText());
            hash = hashWith(hash, wouldFail());
        }
        hash = hashWith(hash, firstError());
        hash = hashWith(hash, bitsOfShare(valueShare()));
        return hashText(hash, buffer, 0);
    }

    // ---- what the calls above use

    private static boolean isSpecial(int code) {
        return code == '{' || code == '}' || code == '~';
    }

    /** Returns the number of the name that is written so, or NONE. */
    private static int nameWritten(int code) {
        if (code >= 'a' && code <= 'h') {
            return code - 'a';
        }
        if (code == 'k') {
            return NAME_K;
        }
        return code == 'x' ? NAME_X : NONE;
    }

    private static void requireCode(int code) {
        if (code < FIRST_CODE || code > LAST_CODE) {
            throw new IllegalArgumentException("the code is not 33 to 126");
        }
    }

    private static void requireVariable(int variable) {
        if (variable < 0 || variable >= VARIABLES) {
            throw new IndexOutOfBoundsException("there is no such variable");
        }
    }

    /** Returns the length of the value that the variable must have. */
    private int requireValue(int variable) {
        requireVariable(variable);
        int length = now.values.lengthOf(variable);
        if (length == NONE) {
            throw new IllegalStateException("the variable has no value");
        }
        return length;
    }

    /** Reads the buffer, which must be a complete template. */
    private void requireComplete() {
        template.readFrom(buffer, 0);
        if (!template.isWhole()) {
            throw new IllegalStateException("the template is not complete");
        }
    }

    private int takeText(int variable, Texts from) {
        int length = from.lengthOf(0);
        if (length > VALUE_AT_MOST) {
            throw new IllegalStateException("the text is too long for a value");
        }
        history.push(now);
        now.values.copyRow(variable, from, 0);
        return length;
    }

    /** Puts the escaped value beside the state, where it may be longer than a value; returns its length. */
    private int escapeAside(int variable) {
        escaped.clear(0);
        for (int at = 0; at < now.values.lengthOf(variable); at++) {
            int code = now.values.codeAt(variable, at);
            if (isSpecial(code)) {
                escaped.add(0, '~');
            }
            escaped.add(0, code);
        }
        return escaped.lengthOf(0);
    }

    /** Renders the template that was read last, beside the state. */
    private void runByParts(int without) {
        rendering.begin(now.values, without);
        byParts.runList(template, 0, template.partCount(), 0);
    }

    private static long hashWith(long hash, long value) {
        return 31L * hash + value;
    }

    private static long hashWithTruth(long hash, boolean truth) {
        return hashWith(hash, truth ? 1L : 0L);
    }

    private static long hashText(long hash, Texts texts, int row) {
        int length = texts.lengthOf(row);
        long result = hashWith(hash, length);
        for (int at = 0; at < length; at++) {
            result = hashWith(result, texts.codeAt(row, at));
        }
        return result;
    }

    private long hashOutcome(long hash) {
        long result = hashText(hash, now.outcome.output, 0);
        result = hashWithTruth(result, hasFailed());
        if (hasFailed()) {
            result = hashWith(result, failureReason());
        }
        result = hashWith(result, failurePlaces());
        for (int number = 0; number < failurePlaces(); number++) {
            result = hashWith(result, failurePlace(number));
        }
        result = hashWith(result, steps());
        result = hashWith(result, plainPrinted());
        result = hashWith(result, escapesPrinted());
        result = hashWith(result, valuesPrinted());
        result = hashWith(result, renderings());
        result = hashWith(result, failures());
        result = hashWith(result, printed());
        return hashWith(result, savedStates());
    }

    /**
     * The bits of a share as Double.doubleToLongBits tells them, which is not in the part of the
     * library that the class keeps to. A share is 0, or from 1/200 to 1, so each step is exact;
     * the last one multiplies by 2 to the 52nd.
     */
    private static long bitsOfShare(double share) {
        if (!(share > 0.0)) {
            return 0L;
        }
        double scaled = share;
        long exponent = 1023L;
        for (int turn = 0; turn < 64 && scaled < 1.0; turn++) {
            scaled = scaled * 2.0;
            exponent--;
        }
        return (exponent << 52) + (long) ((scaled - 1.0) * 4503599627370496.0);
    }

    /** Rows of characters of one width, each with a length of its own; the length NONE for no text. */
    private static final class Texts {
        private final int width;
        private final char[] codes;
        private final int[] lengths;

        /** Rows without texts. */
        Texts(int rows, int width) {
            this.width = width;
            codes = new char[Math.max(0, rows * width)];
            lengths = new int[Math.max(0, rows)];
            for (int row = 0; row < lengths.length; row++) {
                lengths[row] = NONE;
            }
        }

        int lengthOf(int row) {
            return row < 0 || row >= lengths.length ? NONE : lengths[row];
        }

        int codeAt(int row, int at) {
            if (row < 0 || row >= lengths.length || at < 0 || at >= lengths[row]) {
                return 0;
            }
            int index = row * width + at;
            return index >= 0 && index < codes.length ? codes[index] : 0;
        }

        /** Gives a row an empty text. */
        void clear(int row) {
            if (row >= 0 && row < lengths.length) {
                lengths[row] = 0;
            }
        }

        void remove(int row) {
            if (row >= 0 && row < lengths.length) {
                lengths[row] = NONE;
            }
        }

        /** Adds a character to a text; false if there is no text, or no room. */
        boolean add(int row, int code) {
            if (row < 0 || row >= lengths.length) {
                return false;
            }
            int length = lengths[row];
            int index = row * width + length;
            if (length < 0 || length >= width || index < 0 || index >= codes.length) {
                return false;
            }
            codes[index] = (char) code;
            lengths[row] = length + 1;
            return true;
        }

        /** Gives a row the text of another one, or none, as that has; it may be the same row. */
        void copyRow(int row, Texts from, int fromRow) {
            if (row < 0 || row >= lengths.length) {
                return;
            }
            int length = Math.min(from.lengthOf(fromRow), width);
            for (int at = 0; at < length; at++) {
                int index = row * width + at;
                if (index >= 0 && index < codes.length) {
                    codes[index] = (char) from.codeAt(fromRow, at);
                }
            }
            lengths[row] = length;
        }

        void copyAll(Texts from) {
            for (int row = 0; row < lengths.length; row++) {
                copyRow(row, from, row);
            }
        }
    }

    /**
     * A text read as a template. The parts stand in the order of their places; those within a
     * part follow it, up to the one behind it.
     */
    private static final class Template {
        private static final int AMONG_PARTS = 0;
        private static final int BEHIND_TILDE = 1;
        private static final int BEHIND_BRACE = 2;
        private static final int BEFORE_NAME = 3;
        private static final int BEFORE_COLON = 4;
        private static final int BEFORE_END = 5;

        /** How many included values it lies within. */
        private final int level;
        /** The one for a value that it includes; null if it lies within as many as may be. */
        private final Template inner;
        private final int[] kinds;
        private final int[] places;
        private final int[] codes;
        private final int[] namesOf;
        private final int[] behinds;
        private final int[] open;
        private int count;
        private int openCount;
        private int mostOpen;
        private int reading;
        private int error;
        private int length;

        Template(int level, Template inner) {
            this.level = level;
            this.inner = inner;
            kinds = new int[TEMPLATE_AT_MOST];
            places = new int[TEMPLATE_AT_MOST];
            codes = new int[TEMPLATE_AT_MOST];
            namesOf = new int[TEMPLATE_AT_MOST];
            behinds = new int[TEMPLATE_AT_MOST];
            open = new int[TEMPLATE_AT_MOST];
        }

        void readFrom(Texts texts, int row) {
            count = 0;
            openCount = 0;
            mostOpen = 0;
            reading = AMONG_PARTS;
            length = texts.lengthOf(row);
            error = length;
            for (int at = 0; at < length; at++) {
                if (!read(at, texts.codeAt(row, at))) {
                    error = at;
                    return;
                }
            }
        }

        /** The place of the first error, or the length. */
        int errorPlace() {
            return error;
        }

        boolean isWhole() {
            return error == length && reading == AMONG_PARTS && openCount == 0;
        }

        int partCount() {
            return count;
        }

        int deepest() {
            return count > 0 ? mostOpen + 1 : 0;
        }

        int namesUsed() {
            int mask = 0;
            for (int part = 0; part < count; part++) {
                if (kindOf(part) != PLAIN && kindOf(part) != ESCAPE) {
                    mask |= 1 << nameOf(part);
                }
            }
            return mask;
        }

        int namesGiven() {
            int mask = 0;
            for (int part = 0; part < count; part++) {
                if (kindOf(part) == SETTING) {
                    mask |= 1 << nameOf(part);
                }
            }
            return mask;
        }

        int loopCount() {
            int found = 0;
            for (int part = 0; part < count; part++) {
                if (kindOf(part) == LOOP) {
                    found++;
                }
            }
            return found;
        }

        int kindOf(int part) {
            return part >= 0 && part < kinds.length ? kinds[part] : PLAIN;
        }

        int placeOf(int part) {
            return part >= 0 && part < places.length ? places[part] : 0;
        }

        /** The character that a plain character or an escape prints. */
        int codeOf(int part) {
            return part >= 0 && part < codes.length ? codes[part] : 0;
        }

        int nameOf(int part) {
            return part >= 0 && part < namesOf.length ? namesOf[part] : 0;
        }

        /** The next part that does not lie within this one. */
        int behind(int part) {
            return part >= 0 && part < behinds.length ? behinds[part] : count;
        }

        /** Reads the next character; false if it is an error. */
        private boolean read(int at, int code) {
            switch (reading) {
                case BEHIND_TILDE:
                    setCode(code);
                    reading = AMONG_PARTS;
                    return true;
                case BEHIND_BRACE:
                    return kindWritten(code) == VALUE ? setName(nameWritten(code)) : setKind(kindWritten(code));
                case BEFORE_NAME:
                    return setName(nameWritten(code));
                case BEFORE_COLON:
                    return code == ':' && openLast();
                case BEFORE_END:
                    reading = AMONG_PARTS;
                    return code == '}';
                default:
                    return code == '}' ? closeInnermost() : addPart(at, code);
            }
        }

        /** Tells the kind of a part in braces by the first character within them. */
        private static int kindWritten(int sign) {
            switch (sign) {
                case '!':
                    return ESCAPED;
                case '^':
                    return INCLUDED;
                case '*':
                    return LOOP;
                case '?':
                    return CONDITION;
                case '=':
                    return SETTING;
                default:
                    return VALUE;
            }
        }

        /** Adds the part that begins with a character. */
        private boolean addPart(int at, int code) {
            int part = count;
            if (part < 0 || part >= kinds.length || part >= places.length || part >= codes.length
                    || part >= behinds.length) {
                return false;
            }
            count++;
            kinds[part] = PLAIN;
            places[part] = at;
            codes[part] = code;
            behinds[part] = count;
            mostOpen = Math.max(mostOpen, openCount);
            if (code == '~') {
                kinds[part] = ESCAPE;
                reading = BEHIND_TILDE;
            } else if (code == '{') {
                kinds[part] = VALUE;
                reading = BEHIND_BRACE;
            }
            return true;
        }

        private void setCode(int code) {
            int last = count - 1;
            if (last >= 0 && last < codes.length) {
                codes[last] = code;
            }
        }

        private boolean setKind(int kind) {
            int last = count - 1;
            if (last < 0 || last >= kinds.length) {
                return false;
            }
            kinds[last] = kind;
            reading = BEFORE_NAME;
            return true;
        }

        private boolean setName(int name) {
            int last = count - 1;
            if (name == NONE || last < 0 || last >= namesOf.length || last >= kinds.length) {
                return false;
            }
            namesOf[last] = name;
            int kind = kinds[last];
            boolean holdsParts = kind == LOOP || kind == CONDITION || kind == SETTING;
            reading = holdsParts ? BEFORE_COLON : BEFORE_END;
            return true;
        }

        /** Lets the parts that follow lie within the last one. */
        private boolean openLast() {
            if (openCount < 0 || openCount >= open.length) {
                return false;
            }
            open[openCount] = count - 1;
            openCount++;
            reading = AMONG_PARTS;
            return true;
        }

        private boolean closeInnermost() {
            int top = openCount - 1;
            if (top < 0 || top >= open.length) {
                return false;
            }
            int part = open[top];
            openCount = top;
            if (part < 0 || part >= behinds.length) {
                return false;
            }
            behinds[part] = count;
            return true;
        }
    }

    /** The open scopes, the outermost first; each has a row of texts for each name. */
    private static final class Scopes {
        private final Texts texts;
        private int openCount;

        Scopes() {
            texts = new Texts((DEEP_AT_MOST + 1) * NAMES, VALUE_AT_MOST);
        }

        /** Begins with one scope, of the values of the variables, but for one variable. */
        void begin(Texts values, int without) {
            openCount = 0;
            openOne();
            for (int variable = 0; variable < VARIABLES; variable++) {
                if (variable != without) {
                    give(variable, values, variable);
                }
            }
        }

        /** Opens a scope that gives nothing; false if there is no room. */
        boolean openOne() {
            if (openCount > DEEP_AT_MOST) {
                return false;
            }
            openCount++;
            for (int name = 0; name < NAMES; name++) {
                texts.remove(innermostRow(name));
            }
            return true;
        }

        void closeOne() {
            openCount = Math.max(0, openCount - 1);
        }

        /** Returns the row of the value that a name has, or NONE. */
        int rowOf(int name) {
            for (int scope = openCount - 1; scope >= 0; scope--) {
                int row = scope * NAMES + name;
                if (texts.lengthOf(row) != NONE) {
                    return row;
                }
            }
            return NONE;
        }

        /** Gives a name a text in the innermost scope. */
        void give(int name, Texts from, int fromRow) {
            texts.copyRow(innermostRow(name), from, fromRow);
        }

        /**
         * Opens the scope of a pass of a loop over a value; false if there is no room. The value
         * is of a scope outside, which nothing changes while this one is open.
         */
        boolean openPass(int row, int pass) {
            if (!openOne()) {
                return false;
            }
            int ofK = innermostRow(NAME_K);
            texts.clear(ofK);
            if (pass >= 10) {
                texts.add(ofK, '0' + pass / 10 % 10);
            }
            texts.add(ofK, '0' + pass % 10);
            int ofX = innermostRow(NAME_X);
            texts.clear(ofX);
            texts.add(ofX, texts.codeAt(row, pass));
            return true;
        }

        private int innermostRow(int name) {
            return (openCount - 1) * NAMES + name;
        }
    }

    /** What came of a rendering. */
    private static final class Outcome {
        private final Texts output;
        private final int[] places;
        private int placeCount;
        private int reason;
        private int stepsCounted;
        private int ofPlain;
        private int ofEscapes;
        private int ofValues;

        Outcome() {
            output = new Texts(1, OUTPUT_AT_MOST);
            output.clear(0);
            places = new int[INCLUDED_AT_MOST + 1];
        }

        void begin() {
            output.clear(0);
            placeCount = 0;
            reason = NO_FAILURE;
            stepsCounted = 0;
            ofPlain = 0;
            ofEscapes = 0;
            ofValues = 0;
        }

        void copyFrom(Outcome other) {
            output.copyAll(other.output);
            for (int number = 0; number < places.length; number++) {
                places[number] = other.placeAt(number);
            }
            placeCount = other.placeCount;
            reason = other.reason;
            stepsCounted = other.stepsCounted;
            ofPlain = other.ofPlain;
            ofEscapes = other.ofEscapes;
            ofValues = other.ofValues;
        }

        int placeAt(int number) {
            return number >= 0 && number < places.length ? places[number] : 0;
        }

        /** Notes the place of an included value, or of a part, in the template at a level. */
        void setPlace(int level, int place) {
            if (level >= 0 && level < places.length) {
                places[level] = place;
            }
        }

        /** Notes a failure; the first one stays, which the innermost part tells. */
        void fail(int why, int level, int place) {
            if (reason == NO_FAILURE) {
                reason = why;
                setPlace(level, place);
                placeCount = level + 1;
            }
        }
    }

    /**
     * What a rendering works on, however its template is gone through: the scopes, the texts of
     * the settings that are open, and the outcome. Its actions return the reason of a failure,
     * or NO_FAILURE.
     */
    private static final class Rendering {
        private final Outcome outcome;
        private final Scopes scopes;
        private final Texts settings;
        private int settingsOpen;

        Rendering() {
            outcome = new Outcome();
            scopes = new Scopes();
            settings = new Texts(DEEP_AT_MOST, VALUE_AT_MOST);
        }

        void begin(Texts values, int without) {
            outcome.begin();
            scopes.begin(values, without);
            settingsOpen = 0;
        }

        int countStep() {
            if (outcome.stepsCounted >= STEPS_AT_MOST) {
                return TOO_MANY_STEPS;
            }
            outcome.stepsCounted++;
            return NO_FAILURE;
        }

        /** Prints a character for a part of a kind. */
        int print(int code, int kind) {
            if (settingsOpen > 0) {
                return settings.add(settingsOpen - 1, code) ? NO_FAILURE : TEXT_FULL;
            }
            if (!outcome.output.add(0, code)) {
                return OUTPUT_FULL;
            }
            if (kind == PLAIN) {
                outcome.ofPlain++;
            } else if (kind == ESCAPE) {
                outcome.ofEscapes++;
            } else {
                outcome.ofValues++;
            }
            return NO_FAILURE;
        }

        /** Prints the value of a name for a part of the kind VALUE or ESCAPED. */
        int printValue(int name, int kind) {
            int row = scopes.rowOf(name);
            if (row == NONE) {
                return NO_VALUE;
            }
            int reason = NO_FAILURE;
            for (int at = 0; at < scopes.texts.lengthOf(row) && reason == NO_FAILURE; at++) {
                int code = scopes.texts.codeAt(row, at);
                if (kind == ESCAPED && isSpecial(code)) {
                    reason = print('~', kind);
                }
                if (reason == NO_FAILURE) {
                    reason = print(code, kind);
                }
            }
            return reason;
        }

        /** Whether a name has a value that is not empty. */
        boolean holds(int name) {
            return scopes.texts.lengthOf(scopes.rowOf(name)) > 0;
        }

        int beginSetting() {
            if (settingsOpen >= DEEP_AT_MOST) {
                return TOO_MANY_INCLUDED;
            }
            settings.clear(settingsOpen);
            settingsOpen++;
            return NO_FAILURE;
        }

        void endSetting(int name) {
            settingsOpen = Math.max(0, settingsOpen - 1);
            scopes.give(name, settings, settingsOpen);
        }
    }

    /** Goes through a template by its parts; notes the places of a failure. */
    private static final class ByParts {
        private final Rendering rendering;
        private final Scopes scopes;
        private final Outcome outcome;

        ByParts(Rendering rendering) {
            this.rendering = rendering;
            scopes = rendering.scopes;
            outcome = rendering.outcome;
        }

        /** Renders the parts from one up to another, which lie so deep within others. */
        private int runList(Template template, int from, int to, int deep) {
            if (deep >= DEEP_AT_MOST) {
                return TOO_MANY_INCLUDED;
            }
            int part = from;
            for (int turn = 0; turn < TEMPLATE_AT_MOST && part < to; turn++) {
                int reason = runPart(template, part, deep);
                if (reason != NO_FAILURE) {
                    outcome.fail(reason, template.level, template.placeOf(part));
                    return reason;
                }
                part = template.behind(part);
            }
            return NO_FAILURE;
        }

        private int runPart(Template template, int part, int deep) {
            int reason = rendering.countStep();
            if (reason != NO_FAILURE) {
                return reason;
            }
            int kind = template.kindOf(part);
            switch (kind) {
                case VALUE:
                case ESCAPED:
                    return rendering.printValue(template.nameOf(part), kind);
                case INCLUDED:
                    return runIncluded(template, part, deep);
                case LOOP:
                    return runLoop(template, part, deep);
                case CONDITION:
                    return runCondition(template, part, deep);
                case SETTING:
                    return runSetting(template, part, deep);
                default:
                    return rendering.print(template.codeOf(part), kind);
            }
        }

        private int runWithin(Template template, int part, int deep) {
            return runList(template, part + 1, template.behind(part), deep + 1);
        }

        private int runIncluded(Template template, int part, int deep) {
            int row = scopes.rowOf(template.nameOf(part));
            if (row == NONE) {
                return NO_VALUE;
            }
            Template inner = template.inner;
            if (inner == null) {
                return TOO_MANY_INCLUDED;
            }
            inner.readFrom(scopes.texts, row);
            outcome.setPlace(template.level, template.placeOf(part));
            if (!inner.isWhole()) {
                outcome.fail(NOT_COMPLETE, inner.level, inner.errorPlace());
                return NOT_COMPLETE;
            }
            if (!scopes.openOne()) {
                return TOO_MANY_INCLUDED;
            }
            int reason = runList(inner, 0, inner.partCount(), deep + 1);
            scopes.closeOne();
            return reason;
        }

        private int runLoop(Template template, int part, int deep) {
            int row = scopes.rowOf(template.nameOf(part));
            if (row == NONE) {
                return NO_VALUE;
            }
            int length = scopes.texts.lengthOf(row);
            int reason = NO_FAILURE;
            for (int pass = 0; pass < length && reason == NO_FAILURE; pass++) {
                if (!scopes.openPass(row, pass)) {
                    return TOO_MANY_INCLUDED;
                }
                reason = runWithin(template, part, deep);
                scopes.closeOne();
            }
            return reason;
        }

        private int runCondition(Template template, int part, int deep) {
            if (!rendering.holds(template.nameOf(part))) {
                return NO_FAILURE;
            }
            return runWithin(template, part, deep);
        }

        private int runSetting(Template template, int part, int deep) {
            int reason = rendering.beginSetting();
            if (reason == NO_FAILURE) {
                reason = runWithin(template, part, deep);
            }
            if (reason == NO_FAILURE) {
                rendering.endSetting(template.nameOf(part));
            }
            return reason;
        }
    }

    /**
     * Goes through a complete template by its text, character by character, with a stack of the
     * blocks and included values that are open. It tells what is printed, and no places.
     */
    private static final class ByText {
        private final Rendering rendering;
        private final Scopes scopes;
        private final Template reader;
        /** The template, and the values that are included within it, by their levels. */
        private final Texts texts;
        private int level;
        private int at;
        private final int[] signs;
        private final int[] namesOf;
        /** Where a loop's parts begin, or where it goes on behind an included value. */
        private final int[] backs;
        private final int[] rows;
        private final int[] passes;
        private int openCount;

        ByText(Rendering rendering) {
            this.rendering = rendering;
            scopes = rendering.scopes;
            reader = new Template(0, null);
            texts = new Texts(INCLUDED_AT_MOST + 1, TEMPLATE_AT_MOST);
            signs = new int[DEEP_AT_MOST];
            namesOf = new int[DEEP_AT_MOST];
            backs = new int[DEEP_AT_MOST];
            rows = new int[DEEP_AT_MOST];
            passes = new int[DEEP_AT_MOST];
        }

        void run(Texts buffer) {
            texts.copyRow(0, buffer, 0);
            level = 0;
            at = 0;
            openCount = 0;
            boolean goesOn = true;
            for (int turn = 0; turn < TURNS_AT_MOST && goesOn; turn++) {
                if (at >= texts.lengthOf(level)) {
                    goesOn = level > 0 && endIncluded();
                } else if (codeAhead(0) == '}') {
                    goesOn = endBlock();
                } else {
                    goesOn = beginPart() == NO_FAILURE;
                }
            }
        }

        private int codeAhead(int ahead) {
            return texts.codeAt(level, at + ahead);
        }

        private int beginPart() {
            int reason = rendering.countStep();
            if (reason != NO_FAILURE) {
                return reason;
            }
            int first = codeAhead(0);
            int second = codeAhead(1);
            if (first == '~') {
                at += 2;
                return rendering.print(second, ESCAPE);
            }
            if (first != '{') {
                at++;
                return rendering.print(first, PLAIN);
            }
            int name = nameWritten(codeAhead(2));
            at += name == NONE ? 3 : 4;
            switch (second) {
                case '!':
                    return rendering.printValue(name, ESCAPED);
                case '^':
                    return beginIncluded(name);
                case '*':
                    return beginLoop(name);
                case '?':
                    return beginCondition(name);
                case '=':
                    return beginSetting(name);
                default:
                    return rendering.printValue(nameWritten(second), VALUE);
            }
        }

        private int beginIncluded(int name) {
            int row = scopes.rowOf(name);
            if (row == NONE) {
                return NO_VALUE;
            }
            if (level >= INCLUDED_AT_MOST) {
                return TOO_MANY_INCLUDED;
            }
            reader.readFrom(scopes.texts, row);
            if (!reader.isWhole()) {
                return NOT_COMPLETE;
            }
            if (!push('^', name, row) || !scopes.openOne()) {
                return TOO_MANY_INCLUDED;
            }
            level++;
            texts.copyRow(level, scopes.texts, row);
            at = 0;
            return NO_FAILURE;
        }

        private boolean endIncluded() {
            int top = openCount - 1;
            if (top < 0 || top >= backs.length) {
                return false;
            }
            scopes.closeOne();
            level--;
            at = backs[top];
            openCount = top;
            return true;
        }

        private int beginLoop(int name) {
            int row = scopes.rowOf(name);
            if (row == NONE) {
                return NO_VALUE;
            }
            if (scopes.texts.lengthOf(row) == 0) {
                skipBlock();
                return NO_FAILURE;
            }
            return push('*', name, row) && scopes.openPass(row, 0) ? NO_FAILURE : TOO_MANY_INCLUDED;
        }

        private int beginCondition(int name) {
            if (!rendering.holds(name)) {
                skipBlock();
                return NO_FAILURE;
            }
            return push('?', name, NONE) ? NO_FAILURE : TOO_MANY_INCLUDED;
        }

        private int beginSetting(int name) {
            return push('=', name, NONE) ? rendering.beginSetting() : TOO_MANY_INCLUDED;
        }

        private boolean endBlock() {
            int top = openCount - 1;
            if (top < 0 || top >= signs.length || top >= namesOf.length) {
                return false;
            }
            if (signs[top] == '*') {
                scopes.closeOne();
                if (beginNextPass(top)) {
                    return true;
                }
            }
            if (signs[top] == '=') {
                rendering.endSetting(namesOf[top]);
            }
            openCount = top;
            at++;
            return true;
        }

        /** Goes back to the beginning of a loop's parts; false if there is no pass left. */
        private boolean beginNextPass(int top) {
            if (top < 0 || top >= passes.length || top >= rows.length || top >= backs.length) {
                return false;
            }
            passes[top]++;
            if (passes[top] >= scopes.texts.lengthOf(rows[top])) {
                return false;
            }
            at = backs[top];
            return scopes.openPass(rows[top], passes[top]);
        }

        private boolean push(int sign, int name, int row) {
            int top = openCount;
            if (top < 0 || top >= signs.length || top >= namesOf.length || top >= backs.length
                    || top >= rows.length || top >= passes.length) {
                return false;
            }
            signs[top] = sign;
            namesOf[top] = name;
            backs[top] = at;
            rows[top] = row;
            passes[top] = 0;
            openCount++;
            return true;
        }

        /** Goes behind the end of a block from the beginning of its parts; each "{" has its "}". */
        private void skipBlock() {
            int open = 1;
            for (int turn = 0; turn < TEMPLATE_AT_MOST && open > 0; turn++) {
                int code = codeAhead(0);
                if (code == '{') {
                    open++;
                } else if (code == '}') {
                    open--;
                }
                at += code == '~' ? 2 : 1;
            }
        }
    }

    /** What undo and the snapshot bring back. */
    private static final class State {
        private final Texts values;
        private final Outcome outcome;
        private int renderingsSoFar;
        private int failuresSoFar;
        private int printedSoFar;

        State() {
            values = new Texts(VARIABLES, VALUE_AT_MOST);
            outcome = new Outcome();
        }

        void copyFrom(State other) {
            values.copyAll(other.values);
            outcome.copyFrom(other.outcome);
            renderingsSoFar = other.renderingsSoFar;
            failuresSoFar = other.failuresSoFar;
            printedSoFar = other.printedSoFar;
        }

        void takeOutcome(Outcome latest) {
            outcome.copyFrom(latest);
            renderingsSoFar++;
            if (latest.reason != NO_FAILURE) {
                failuresSoFar++;
            }
            printedSoFar += latest.output.lengthOf(0);
        }
    }

    /** The saved states, the oldest first. */
    private static final class History {
        private final State[] states;
        private int count;

        History() {
            states = new State[SAVED_AT_MOST];
            for (int number = 0; number < states.length; number++) {
                states[number] = new State();
            }
        }

        int size() {
            return count;
        }

        void push(State state) {
            if (count >= states.length) {
                dropOldest();
            }
            if (count >= 0 && count < states.length) {
                State free = states[count];
                if (free != null) {
                    free.copyFrom(state);
                    count++;
                }
            }
        }

        /** Brings the latest saved state back, and drops it; false if there is none. */
        boolean pop(State state) {
            int last = count - 1;
            if (last < 0 || last >= states.length) {
                return false;
            }
            State latest = states[last];
            if (latest == null) {
                return false;
            }
            state.copyFrom(latest);
            count = last;
            return true;
        }

        /** Moves the oldest state behind the others, where it is written over. */
        private void dropOldest() {
            if (states.length == 0) {
                return;
            }
            State oldest = states[0];
            for (int number = 1; number < states.length; number++) {
                states[number - 1] = states[number];
            }
            states[states.length - 1] = oldest;
            count = Math.max(0, count - 1);
        }
    }
}
