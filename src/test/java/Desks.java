import java.util.ArrayList;
import java.util.List;
import java.util.function.Consumer;
import java.util.function.IntUnaryOperator;
import java.util.function.Supplier;

/** What the tests use to make desks, to read them, and to compare what they tell. */
abstract class Desks {
    static final Class<?> INDEX = IndexOutOfBoundsException.class;
    static final Class<?> ARGUMENT = IllegalArgumentException.class;
    static final Class<?> STATE = IllegalStateException.class;
    static final String NAMES = "abcdefghkx";
    static final String LETTERS_24 = "abcdefghijklmnopqrstuvwx";
    static final int[] NO_VARIABLES = {-1, 8, Integer.MIN_VALUE, Integer.MAX_VALUE};
    /** The last three are codes when only their lower bits are looked at. */
    static final int[] NO_CODES = {32, 127, 0, -1, Integer.MIN_VALUE, Integer.MAX_VALUE, 256 + 'a', 65536 + 'a', 'a' - 65536};
    /** Some end within a part, some have an error. */
    static final String[] INCOMPLETE = {"}", "{", "~", "{a", "{i}", "{!}", "{*a}", "{*a:", "{?a:~}", "{=a:{}}"};

    static void is(String what, Object got, Object want) {
        Check.is(what, got, want);
    }

    static void write(TemplateScopes desk, String text) {
        desk.clearTemplate();
        for (char c : text.toCharArray()) {
            desk.append(c);
        }
    }

    static void give(TemplateScopes desk, char name, String value) {
        desk.emptyValue(name - 'a');
        for (char c : value.toCharArray()) {
            desk.appendValue(name - 'a', c);
        }
    }

    /** A desk with a template, and values told as "a=.." */
    static TemplateScopes desk(String template, String... values) {
        TemplateScopes desk = new TemplateScopes();
        for (String value : values) {
            give(desk, value.charAt(0), value.substring(2));
        }
        write(desk, template);
        return desk;
    }

    /** A desk with a template that has been rendered. */
    static TemplateScopes rendered(String template, String... values) {
        TemplateScopes desk = desk(template, values);
        desk.render();
        return desk;
    }

    static String text(int length, IntUnaryOperator codeAt) {
        StringBuilder text = new StringBuilder();
        for (int i = 0; i < length; i++) {
            text.append((char) codeAt.applyAsInt(i));
        }
        return text.toString();
    }

    static String output(TemplateScopes desk) {
        return text(desk.outputLength(), desk::outputCharacter);
    }

    static String value(TemplateScopes desk, char name) {
        int variable = name - 'a';
        return desk.hasValue(variable) ? text(desk.valueLength(variable), i -> desk.valueCharacter(variable, i)) : "none";
    }

    /** "0" for no failure, or the reason and the places. */
    static String failure(TemplateScopes desk) {
        if (!desk.hasFailed()) {
            return "0";
        }
        StringBuilder told = new StringBuilder(desk.failureReason() + ":");
        for (int i = 0; i < desk.failurePlaces(); i++) {
            told.append(' ').append(desk.failurePlace(i));
        }
        return told.toString();
    }

    /** What is counted: the characters of plain ones, of escapes, of values; renderings, failures, characters in all. */
    static String counts(TemplateScopes desk) {
        return desk.plainPrinted() + " " + desk.escapesPrinted() + " " + desk.valuesPrinted() + ", "
                + desk.renderings() + " " + desk.failures() + " " + desk.printed();
    }

    /** Renders; all that tells of a rendering must agree. Returns the desk, which is behind it then. */
    static TemplateScopes renders(String template, String wanted, String failure, String... values) {
        TemplateScopes desk = desk(template, values);
        String what = template + " with " + String.join(" ", values);
        is("wouldPrint " + what, desk.wouldPrint(), wanted.length());
        is("wouldPrintByText " + what, desk.wouldPrintByText(), wanted.length());
        is("wouldFail " + what, desk.wouldFail(), failure.charAt(0) - '0');
        is("render " + what, desk.render(), wanted.length());
        is("output of " + what, output(desk), wanted);
        is("failure of " + what, failure(desk), failure);
        is("failed " + what, desk.hasFailed(), !failure.equals("0"));
        is("failures " + what, desk.failures(), failure.equals("0") ? 0 : 1);
        is("template stays " + what, desk.templateLength(), template.length());
        return desk;
    }

    /** As renders, and it must take so many steps. */
    static void rendersInSteps(int steps, String template, String wanted, String failure, String... values) {
        is("steps of " + template, renders(template, wanted, failure, values).steps(), steps);
    }

    /**
     * The call must throw exactly this class and change nothing, also when six states and a
     * snapshot are there that it could drop or write over.
     */
    static void refuses(Class<?> due, Supplier<TemplateScopes> made, Consumer<TemplateScopes> call) {
        refusesBare(due, made, call);
        refusesBare(due, () -> laden(made.get()), call);
    }

    /** As refuses, on the desk as it was made alone. */
    static void refusesBare(Class<?> due, Supplier<TemplateScopes> made, Consumer<TemplateScopes> call) {
        TemplateScopes desk = made.get();
        String thrown = "nothing";
        try {
            call.accept(desk);
        } catch (RuntimeException e) {
            thrown = e.getClass().getName();
        }
        is("what the call throws", thrown, due.getName());
        is("all that the desk tells behind the call", allOf(desk), allOf(made.get()));
    }

    /** The desk as it was, but with six saved states, of which each differs from the next, and a snapshot that differs from it. */
    static TemplateScopes laden(TemplateScopes desk) {
        int free = 0;
        while (desk.hasValue(free)) {
            free++;
        }
        for (int turn = 0; turn < 3; turn++) {
            desk.emptyValue(free);
            desk.keep();
            desk.removeValue(free);
        }
        return desk;
    }

    /** All that a desk tells: its digest, that of each saved state, and that of its snapshot. The desk is used up then. */
    static List<Long> allOf(TemplateScopes desk) {
        List<Long> all = new ArrayList<>();
        all.add(desk.digest());
        while (desk.savedStates() > 0) {
            desk.undo();
            all.add(desk.digest());
        }
        try {
            desk.restore();
            all.add(desk.digest());
        } catch (IllegalStateException e) {
            all.add(-1L);
        }
        return all;
    }
}
