import java.util.function.BiConsumer;
import java.util.function.Consumer;

/** The promises 12 to 24: values. */
final class EdgesOfValues extends Edges {
    private static final String INDEX_CLAUSE = "Throws `IndexOutOfBoundsException` if there is no such variable";
    private static final String NONE_CLAUSE = "Throws `IllegalStateException` if it has none";
    private static final String NO_VALUE_CLAUSE = "Throws `IllegalStateException` if it has no value";
    private static final String FIRST_CLAUSE =
            "If several exceptions apply, the one that is named first in the throws clause is thrown.";

    private EdgesOfValues() {
    }

    static void all() {
        appendValue();
        removeValue();
        emptyValue();
        copyValue();
        escapeValue();
        takeOutput();
        takeTemplate();
        hasValue();
        valueLength();
        valueCharacter();
        isTemplate();
        escapedLength();
        alikeBehindEscaping();
    }

    /** Two edges: 0 and 7 are variables, -1 and 8 are none. */
    private static void variables(String sentence, BiConsumer<TemplateScopes, Integer> call) {
        edge(sentence, "0 and 7 are variables", () -> {
            call.accept(desk("", "a=1"), 0);
            call.accept(desk("", "h=1"), 7);
        });
        edge(INDEX_CLAUSE, "-1 and 8 are none", () -> {
            refuses(INDEX, () -> desk("", "a=1", "h=2"), desk -> call.accept(desk, -1));
            refuses(INDEX, () -> desk("", "a=1", "h=2"), desk -> call.accept(desk, 8));
        });
        edge(INDEX_CLAUSE, "far from it", () -> {
            for (int variable : NO_VARIABLES) {
                refuses(INDEX, () -> desk("", "a=1", "h=2"), desk -> call.accept(desk, variable));
            }
            refuses(INDEX, () -> desk("", "a=1", "h=2"), desk -> call.accept(desk, 256));
            refuses(INDEX, () -> desk("", "a=1", "h=2"), desk -> call.accept(desk, 65536));
        });
    }

    /** An exception that is named first, when another one applies too. */
    private static void first(String what, Runnable test) {
        in("Exceptions");
        edge(FIRST_CLAUSE, what, test);
    }

    private static void thatChangesNothing(String what, Consumer<TemplateScopes> call) {
        edge(what, "nothing is changed, and no state saved", () -> {
            TemplateScopes desk = laden(rendered("{a}{h}", "a={x~"));
            call.accept(desk);
            is("all that the desk tells", allOf(desk), allOf(laden(rendered("{a}{h}", "a={x~"))));
        });
    }

    private static void appendValue() {
        promise(12);
        edge("Appends a character to the value of a variable (to an empty one, if it has none).", "to one of 1, and to the same again", () -> {
            TemplateScopes desk = desk("", "c=p");
            desk.appendValue(2, 'q');
            desk.appendValue(2, 'q');
            is("value", value(desk, 'c'), "pqq");
        });
        edge("(to an empty one, if it has none)", "to none at first", () -> {
            TemplateScopes desk = new TemplateScopes();
            is("appendValue", desk.appendValue(5, 'p'), 1);
            is("value", value(desk, 'f'), "p");
        });
        edge("(to an empty one, if it has none)", "to none again, where a longer one was", () -> {
            TemplateScopes desk = desk("", "c=pqr");
            desk.removeValue(2);
            is("appendValue", desk.appendValue(2, 's'), 1);
            is("value", value(desk, 'c'), "s");
        });
        edge("(to an empty one, if it has none)", "to an empty one", () -> {
            TemplateScopes desk = desk("", "c=");
            is("appendValue", desk.appendValue(2, 's'), 1);
            is("value", value(desk, 'c'), "s");
        });
        edge("Appends a character to the value of a variable", "to that one alone", () -> {
            TemplateScopes desk = desk("", "a=1", "c=2");
            desk.appendValue(1, '3');
            is("values", value(desk, 'a') + value(desk, 'b') + value(desk, 'c') + value(desk, 'd'), "132none");
        });
        variables("`variable`: 0 to 7", (desk, variable) -> desk.appendValue(variable, 'x'));
        edge("`code`: 33 to 126", "33 is the first", () -> {
            TemplateScopes desk = desk("");
            is("appendValue", desk.appendValue(0, 33), 1);
            is("the character", desk.valueCharacter(0, 0), 33);
        });
        edge("`code`: 33 to 126", "126 is the last", () -> {
            TemplateScopes desk = desk("");
            is("appendValue", desk.appendValue(0, 126), 1);
            is("the character", desk.valueCharacter(0, 0), 126);
        });
        edge("Throws `IllegalArgumentException` if code is not 33 to 126", "32", () ->
                refuses(ARGUMENT, () -> desk("", "a=1"), desk -> desk.appendValue(0, 32)));
        edge("Throws `IllegalArgumentException` if code is not 33 to 126", "127", () ->
                refuses(ARGUMENT, () -> desk("", "a=1"), desk -> desk.appendValue(0, 127)));
        edge("Throws `IllegalArgumentException` if code is not 33 to 126", "far from it, and no value so far", () -> {
            for (int code : NO_CODES) {
                refuses(ARGUMENT, () -> desk("", "a=1"), desk -> desk.appendValue(0, code));
                refuses(ARGUMENT, () -> desk("", "a=1"), desk -> desk.appendValue(7, code));
            }
        });
        edge("Returns the length of the value then.", "1 to 24", () -> {
            TemplateScopes desk = new TemplateScopes();
            for (int length = 1; length <= 24; length++) {
                is("appendValue", desk.appendValue(3, LETTERS_24.charAt(length - 1)), length);
            }
            is("value", value(desk, 'd'), LETTERS_24);
        });
        edge("Throws `IllegalStateException` if the value has 24 characters", "23 are not yet too many", () -> {
            TemplateScopes desk = desk("", "a=" + LETTERS_24.substring(1));
            is("appendValue", desk.appendValue(0, '~'), 24);
        });
        edge("Throws `IllegalStateException` if the value has 24 characters", "24 are", () ->
                refuses(STATE, () -> desk("", "a=" + LETTERS_24), desk -> desk.appendValue(0, '~')));
        edge("Throws `IllegalStateException` if the value has 24 characters", "24 of another one are no matter", () -> {
            TemplateScopes desk = desk("", "a=" + LETTERS_24, "c=" + LETTERS_24);
            is("appendValue", desk.appendValue(1, '~'), 1);
            is("values", value(desk, 'a') + value(desk, 'b') + value(desk, 'c'), LETTERS_24 + "~" + LETTERS_24);
        });
        first("appendValue: no variable, and no code", () -> {
            for (int code : NO_CODES) {
                refuses(INDEX, () -> desk("", "a=1"), desk -> desk.appendValue(8, code));
                refuses(INDEX, () -> desk("", "a=1"), desk -> desk.appendValue(-1, code));
            }
        });
        first("appendValue: no code, and 24 characters", () -> {
            refuses(ARGUMENT, () -> desk("", "a=" + LETTERS_24), desk -> desk.appendValue(0, 32));
            refuses(ARGUMENT, () -> desk("", "a=" + LETTERS_24), desk -> desk.appendValue(0, 127));
        });
    }

    private static void removeValue() {
        promise(13);
        edge("Takes the value of a variable away.", "there is none then, not an empty one", () -> {
            TemplateScopes desk = desk("", "c=pq");
            desk.removeValue(2);
            is("hasValue", desk.hasValue(2), false);
            is("value", value(desk, 'c'), "none");
        });
        edge("Takes the value of a variable away.", "that of the others stay", () -> {
            TemplateScopes desk = desk("", "b=1", "c=pq", "d=2");
            desk.removeValue(2);
            is("values", value(desk, 'b') + value(desk, 'c') + value(desk, 'd'), "1none2");
        });
        variables("`variable`: 0 to 7", TemplateScopes::removeValue);
        edge("Returns the length of the value.", "0, 1 and 24", () -> {
            is("of 0", desk("", "c=").removeValue(2), 0);
            is("of 1", desk("", "c=x").removeValue(2), 1);
            is("of 24", desk("", "c=" + LETTERS_24).removeValue(2), 24);
        });
        edge(NONE_CLAUSE, "none at first", () ->
                refuses(STATE, () -> desk("", "b=1"), desk -> desk.removeValue(2)));
        edge(NONE_CLAUSE, "none at the second time", () ->
                refuses(STATE, () -> {
                    TemplateScopes desk = desk("", "c=1");
                    desk.removeValue(2);
                    return desk;
                }, desk -> desk.removeValue(2)));
    }

    private static void emptyValue() {
        promise(14);
        edge("Gives a variable an empty value.", "to none, to 1, and to 24 characters", () -> {
            for (String value : new String[] {"c=", "c=1", "c=" + LETTERS_24}) {
                TemplateScopes desk = desk("", value);
                desk.emptyValue(2);
                is("value", value(desk, 'c'), "");
                is("hasValue", desk.hasValue(2), true);
            }
            TemplateScopes desk = new TemplateScopes();
            desk.emptyValue(2);
            is("value", value(desk, 'c'), "");
        });
        edge("Gives a variable an empty value.", "to that one alone", () -> {
            TemplateScopes desk = desk("", "b=1", "c=2", "d=3");
            desk.emptyValue(2);
            is("values", value(desk, 'b') + value(desk, 'c') + value(desk, 'd') + value(desk, 'e'), "13none");
        });
        variables("`variable`: 0 to 7", TemplateScopes::emptyValue);
        edge("Returns the length of the value before, 0 if it had none.", "none, 0, 1 and 24", () -> {
            is("of none", new TemplateScopes().emptyValue(2), 0);
            is("of 0", desk("", "c=").emptyValue(2), 0);
            is("of 1", desk("", "c=x").emptyValue(2), 1);
            is("of 24", desk("", "c=" + LETTERS_24).emptyValue(2), 24);
        });
    }

    private static void copyValue() {
        promise(15);
        edge("Gives a variable the value of another one.", "over a longer one, a shorter one, and none", () -> {
            TemplateScopes desk = desk("", "a=pqr", "b=longer", "c=1");
            desk.copyValue(1, 0);
            desk.copyValue(2, 0);
            desk.copyValue(3, 0);
            is("values", value(desk, 'a') + value(desk, 'b') + value(desk, 'c') + value(desk, 'd') + value(desk, 'e'),
                    "pqrpqrpqrpqrnone");
        });
        edge("Gives a variable the value of another one.", "empty ones, and those of 24", () -> {
            TemplateScopes desk = desk("", "a=", "b=" + LETTERS_24, "c=1", "d=2");
            desk.copyValue(2, 0);
            desk.copyValue(3, 1);
            is("values", value(desk, 'c') + value(desk, 'd'), LETTERS_24);
        });
        edge("Gives a variable the value of another one.", "to itself", () -> {
            TemplateScopes desk = desk("", "c=pqr");
            is("copyValue", desk.copyValue(2, 2), 3);
            is("value", value(desk, 'c'), "pqr");
        });
        edge("Gives a variable the value of another one.", "which each change alone then", () -> {
            TemplateScopes desk = desk("", "a=p");
            desk.copyValue(1, 0);
            desk.appendValue(0, 'q');
            desk.appendValue(1, 'r');
            is("values", value(desk, 'a') + value(desk, 'b'), "pqpr");
        });
        variables("`variable`: 0 to 7", (desk, variable) -> desk.copyValue(variable, variable == 0 ? 0 : 7));
        edge("`other`: 0 to 7: the one that has the value", "0 and 7", () -> {
            TemplateScopes desk = desk("", "a=12", "h=345");
            is("copyValue", desk.copyValue(1, 0), 2);
            is("copyValue", desk.copyValue(2, 7), 3);
            is("values", value(desk, 'b') + value(desk, 'c'), "12345");
        });
        edge("Throws `IndexOutOfBoundsException` if there is no such variable (either of them)", "the first one", () -> {
            for (int variable : NO_VARIABLES) {
                refuses(INDEX, () -> desk("", "a=1", "h=2"), desk -> desk.copyValue(variable, 0));
            }
        });
        edge("Throws `IndexOutOfBoundsException` if there is no such variable (either of them)", "the second one", () -> {
            for (int variable : NO_VARIABLES) {
                refuses(INDEX, () -> desk("", "a=1", "h=2"), desk -> desk.copyValue(0, variable));
            }
        });
        edge("Throws `IndexOutOfBoundsException` if there is no such variable (either of them)", "both of them", () ->
                refuses(INDEX, () -> desk("", "a=1", "h=2"), desk -> desk.copyValue(8, -1)));
        edge("Returns the length of the value.", "0, 1 and 24, and not that of the old one", () -> {
            is("of 0", desk("", "a=", "b=123").copyValue(1, 0), 0);
            is("of 1", desk("", "a=x", "b=123").copyValue(1, 0), 1);
            is("of 24", desk("", "a=" + LETTERS_24, "b=123").copyValue(1, 0), 24);
        });
        edge("Throws `IllegalStateException` if the other one has no value", "though the first one has", () ->
                refuses(STATE, () -> desk("", "a=1"), desk -> desk.copyValue(0, 4)));
        edge("Throws `IllegalStateException` if the other one has no value", "none to itself", () ->
                refuses(STATE, () -> desk("", "a=1"), desk -> desk.copyValue(4, 4)));
        first("copyValue: no first variable, and no value of the second one", () -> {
            for (int variable : NO_VARIABLES) {
                refuses(INDEX, () -> desk("", "a=1"), desk -> desk.copyValue(variable, 4));
            }
        });
    }

    private static void escapeValue() {
        promise(16);
        edge("Puts a \"~\" ahead of each character \"{\", \"}\" and \"~\" of a value.", "each of them alone", () -> {
            for (String special : new String[] {"{", "}", "~"}) {
                TemplateScopes desk = desk("", "c=" + special);
                is("escapeValue", desk.escapeValue(2), 2);
                is("value", value(desk, 'c'), "~" + special);
            }
        });
        edge("Puts a \"~\" ahead of each character \"{\", \"}\" and \"~\" of a value.", "of no other character", () -> {
            for (int code = 33; code <= 126; code++) {
                if ("{}~".indexOf(code) < 0) {
                    TemplateScopes desk = desk("", "c=" + (char) code);
                    is("escapeValue", desk.escapeValue(2), 1);
                    is("value", value(desk, 'c'), "" + (char) code);
                }
            }
        });
        edge("Puts a \"~\" ahead of each character \"{\", \"}\" and \"~\" of a value.", "the first, the last, and those between", () -> {
            TemplateScopes desk = desk("", "c={a~~b}");
            is("escapeValue", desk.escapeValue(2), 10);
            is("value", value(desk, 'c'), "~{a~~~~b~}");
        });
        edge("Puts a \"~\" ahead of each character \"{\", \"}\" and \"~\" of a value.", "of an empty one, and of that one alone", () -> {
            TemplateScopes desk = desk("", "b={", "c=", "d=}");
            is("escapeValue", desk.escapeValue(2), 0);
            is("values", value(desk, 'b') + value(desk, 'c') + value(desk, 'd'), "{}");
        });
        variables("`variable`: 0 to 7", TemplateScopes::escapeValue);
        edge("Returns the length of the value then.", "24 is not too long", () -> {
            TemplateScopes desk = desk("", "c={}~{}~{}~{}~");
            is("escapeValue", desk.escapeValue(2), 24);
            is("value", value(desk, 'c'), "~{~}~~~{~}~~~{~}~~~{~}~~");
            is("of 24 that stay", desk("", "c=" + LETTERS_24).escapeValue(2), 24);
        });
        edge("Throws `IllegalStateException` if it has no value, or the value would be longer than 24", "no value", () ->
                refuses(STATE, () -> desk("", "b=1"), desk -> desk.escapeValue(2)));
        edge("Throws `IllegalStateException` if it has no value, or the value would be longer than 24", "25", () -> {
            refuses(STATE, () -> desk("", "c={}~{}~{}~{}~a"), desk -> desk.escapeValue(2));
            refuses(STATE, () -> desk("", "c=" + LETTERS_24.substring(1) + "~"), desk -> desk.escapeValue(2));
        });
        edge("Throws `IllegalStateException` if it has no value, or the value would be longer than 24", "48", () ->
                refuses(STATE, () -> desk("", "c=" + "~".repeat(24)), desk -> desk.escapeValue(2)));
    }

    private static void takeOutput() {
        promise(17);
        edge("Gives a variable the output as its value.", "over a longer one, and none; the output stays", () -> {
            TemplateScopes desk = rendered("pq", "a=longer");
            desk.takeOutput(0);
            desk.takeOutput(7);
            is("values", value(desk, 'a') + value(desk, 'h'), "pqpq");
            is("output", output(desk), "pq");
        });
        edge("Gives a variable the output as its value.", "an empty one, without a rendering", () -> {
            TemplateScopes desk = new TemplateScopes();
            is("takeOutput", desk.takeOutput(2), 0);
            is("value", value(desk, 'c'), "");
        });
        edge("Gives a variable the output as its value.", "that of a rendering that failed", () -> {
            TemplateScopes desk = rendered("pq{h}");
            is("takeOutput", desk.takeOutput(2), 2);
            is("value", value(desk, 'c'), "pq");
        });
        edge("Gives a variable the output as its value.", "not what the buffer has, and not what it would print", () -> {
            TemplateScopes desk = rendered("{?a:pq}", "a=1");
            desk.append('x');
            desk.wouldPrint();
            desk.wouldPrintByText();
            is("takeOutput", desk.takeOutput(0), 2);
            is("value", value(desk, 'a'), "pq");
        });
        edge("Gives a variable the output as its value.", "not that of a rendering that is undone", () -> {
            TemplateScopes desk = rendered("pq");
            write(desk, "rst");
            desk.render();
            desk.undo();
            is("takeOutput", desk.takeOutput(0), 2);
            is("value", value(desk, 'a'), "pq");
        });
        variables("`variable`: 0 to 7", TemplateScopes::takeOutput);
        edge("Returns the length of the value.", "24 is not too long", () -> {
            TemplateScopes desk = rendered(LETTERS_24);
            is("takeOutput", desk.takeOutput(2), 24);
            is("value", value(desk, 'c'), LETTERS_24);
        });
        edge("Throws `IllegalStateException` if the output is longer than 24", "25", () ->
                refuses(STATE, () -> rendered(LETTERS_24 + "y", "c=1"), desk -> desk.takeOutput(2)));
        edge("Throws `IllegalStateException` if the output is longer than 24", "200", () ->
                refuses(STATE, () -> rendered("{*a:{a}{a}}{!a}", "a=0123456789"), desk -> desk.takeOutput(2)));
        first("takeOutput: no variable, and an output of 25", () -> {
            for (int variable : NO_VARIABLES) {
                refuses(INDEX, () -> rendered(LETTERS_24 + "y", "c=1"), desk -> desk.takeOutput(variable));
            }
        });
    }

    private static void takeTemplate() {
        promise(18);
        edge("Gives a variable the template in the buffer as its value (complete or not); the buffer stays.", "over a longer one, and none", () -> {
            TemplateScopes desk = desk("{a}", "a=longer");
            desk.takeTemplate(0);
            desk.takeTemplate(7);
            is("values", value(desk, 'a') + value(desk, 'h'), "{a}{a}");
            is("templateLength", desk.templateLength(), 3);
            is("append", desk.append('x'), 4);
        });
        edge("Gives a variable the template in the buffer as its value (complete or not)", "not complete, or with an error", () -> {
            TemplateScopes desk = desk("{*a:~");
            is("takeTemplate", desk.takeTemplate(2), 5);
            is("value", value(desk, 'c'), "{*a:~");
            write(desk, "x}{}");
            is("takeTemplate", desk.takeTemplate(2), 4);
            is("value", value(desk, 'c'), "x}{}");
        });
        edge("Gives a variable the template in the buffer as its value (complete or not)", "an empty one", () -> {
            TemplateScopes desk = desk("", "c=1");
            is("takeTemplate", desk.takeTemplate(2), 0);
            is("value", value(desk, 'c'), "");
        });
        variables("`variable`: 0 to 7", TemplateScopes::takeTemplate);
        edge("Returns the length of the value.", "24 is not too long", () -> {
            TemplateScopes desk = desk(LETTERS_24);
            is("takeTemplate", desk.takeTemplate(2), 24);
            is("value", value(desk, 'c'), LETTERS_24);
        });
        edge("Throws `IllegalStateException` if the buffer is longer than 24", "25", () ->
                refuses(STATE, () -> desk(LETTERS_24 + "y", "c=1"), desk -> desk.takeTemplate(2)));
        edge("Throws `IllegalStateException` if the buffer is longer than 24", "60", () ->
                refuses(STATE, () -> desk("x".repeat(60)), desk -> desk.takeTemplate(2)));
        first("takeTemplate: no variable, and a buffer of 25", () -> {
            for (int variable : NO_VARIABLES) {
                refuses(INDEX, () -> desk(LETTERS_24 + "y", "c=1"), desk -> desk.takeTemplate(variable));
            }
        });
    }

    private static void hasValue() {
        promise(19);
        edge("Tells whether a variable has a value.", "an empty one is one", () ->
                is("hasValue", desk("", "c=").hasValue(2), true));
        edge("Returns true if it has.", "that of another one is no matter", () -> {
            TemplateScopes desk = desk("", "b=1", "d=1");
            is("hasValue", "" + desk.hasValue(1) + desk.hasValue(2) + desk.hasValue(3), "truefalsetrue");
        });
        thatChangesNothing("Returns true if it has.", desk -> desk.hasValue(0));
        variables("`variable`: 0 to 7", TemplateScopes::hasValue);
    }

    private static void valueLength() {
        promise(20);
        edge("Returns the length of the value of a variable.", "0, 1 and 24", () -> {
            is("of 0", desk("", "c=").valueLength(2), 0);
            is("of 1", desk("", "c=x").valueLength(2), 1);
            is("of 24", desk("", "c=" + LETTERS_24).valueLength(2), 24);
        });
        thatChangesNothing("Returns the length.", desk -> desk.valueLength(0));
        variables("`variable`: 0 to 7", TemplateScopes::valueLength);
        edge(NONE_CLAUSE, "none", () ->
                refuses(STATE, () -> desk("", "b=1"), desk -> desk.valueLength(2)));
    }

    private static void valueCharacter() {
        promise(21);
        String sentence = "Throws `IndexOutOfBoundsException` if there is no such variable, or its value, if it has one, has no such place";
        edge("Returns a character of the value of a variable.", "each of 24", () ->
                is("value", value(desk("", "b=1", "c=" + LETTERS_24, "d=2"), 'c'), LETTERS_24));
        edge("`place`: from 0", "0 is the first place", () ->
                is("valueCharacter", desk("", "c=pq").valueCharacter(2, 0), (int) 'p'));
        edge("Returns its code.", "the last place of 24", () ->
                is("valueCharacter", desk("", "c=" + LETTERS_24).valueCharacter(2, 23), (int) 'x'));
        thatChangesNothing("Returns its code.", desk -> desk.valueCharacter(0, 0));
        variables("`variable`: 0 to 7", (desk, variable) -> desk.valueCharacter(variable, 0));
        edge(sentence, "the place behind the last", () -> {
            refuses(INDEX, () -> desk("", "c=pq"), desk -> desk.valueCharacter(2, 2));
            refuses(INDEX, () -> desk("", "c=" + LETTERS_24, "d=1"), desk -> desk.valueCharacter(2, 24));
        });
        edge(sentence, "the place ahead of the first", () ->
                refuses(INDEX, () -> desk("", "b=" + LETTERS_24, "c=pq"), desk -> desk.valueCharacter(2, -1)));
        edge(sentence, "no place of an empty value", () ->
                refuses(INDEX, () -> desk("", "c="), desk -> desk.valueCharacter(2, 0)));
        edge(sentence, "a place of a longer value that was there before", () -> {
            refuses(INDEX, () -> {
                TemplateScopes desk = desk("", "c=pqr");
                give(desk, 'c', "p");
                return desk;
            }, desk -> desk.valueCharacter(2, 1));
        });
        edge(sentence, "far from it", () -> {
            refuses(INDEX, () -> desk("", "c=pq"), desk -> desk.valueCharacter(2, Integer.MAX_VALUE));
            refuses(INDEX, () -> desk("", "c=pq"), desk -> desk.valueCharacter(2, Integer.MIN_VALUE));
        });
        edge(NO_VALUE_CLAUSE, "whichever place", () -> {
            for (int place : new int[] {0, -1, 24, Integer.MIN_VALUE, Integer.MAX_VALUE}) {
                refuses(STATE, () -> desk("", "b=1"), desk -> desk.valueCharacter(2, place));
            }
        });
        first("valueCharacter: no variable, whichever place", () -> {
            for (int place : new int[] {0, -1, 24}) {
                refuses(INDEX, () -> desk("", "a=1"), desk -> desk.valueCharacter(8, place));
                refuses(INDEX, () -> desk("", "a=1"), desk -> desk.valueCharacter(-1, place));
            }
        });
    }

    private static void isTemplate() {
        promise(22);
        edge("Tells whether the value of a variable is a complete template.", "an empty one, and one of 24", () -> {
            is("of 0", desk("", "c=").isTemplate(2), true);
            is("of 24", desk("", "c=" + LETTERS_24).isTemplate(2), true);
            is("of 24", desk("", "c={?a:{?a:{?a:{?a:{!k}}}}}").isTemplate(2), true);
        });
        edge("Returns true if it is.", "false with an error, the first or the last character", () -> {
            is("the first", desk("", "c=}abc").isTemplate(2), false);
            is("the last", desk("", "c=" + LETTERS_24.substring(1) + "}").isTemplate(2), false);
        });
        edge("Returns true if it is.", "false when it ends within a part", () -> {
            for (String value : new String[] {"{", "~", "{a", "{!a", "{*a:", "{?a:b", LETTERS_24.substring(1) + "~"}) {
                is(value, desk("", "c=" + value).isTemplate(2), false);
            }
        });
        edge("Returns true if it is.", "it is no matter what the buffer is, and what it would print", () -> {
            is("beside an error", desk("}", "c={h}").isTemplate(2), true);
            is("beside none", desk("x", "c=}").isTemplate(2), false);
        });
        thatChangesNothing("Returns true if it is.", desk -> desk.isTemplate(0));
        variables("`variable`: 0 to 7", TemplateScopes::isTemplate);
        edge(NO_VALUE_CLAUSE, "none", () ->
                refuses(STATE, () -> desk("", "b=1"), desk -> desk.isTemplate(2)));
    }

    private static void escapedLength() {
        promise(23);
        edge("Returns the length that the value of a variable would have, if it was escaped.", "each character", () -> {
            for (int code = 33; code <= 126; code++) {
                is("escapedLength of " + (char) code, desk("", "c=" + (char) code).escapedLength(2),
                        "{}~".indexOf(code) < 0 ? 1 : 2);
            }
        });
        edge("Returns the length, up to 48.", "0, 24, 25, 47 and 48", () -> {
            is("of none", desk("", "c=").escapedLength(2), 0);
            is("of 24", desk("", "c=" + LETTERS_24).escapedLength(2), 24);
            is("of 24 with one", desk("", "c=" + LETTERS_24.substring(1) + "~").escapedLength(2), 25);
            is("of 24 with 23", desk("", "c=" + "}".repeat(23) + "x").escapedLength(2), 47);
            is("of 24 with 24", desk("", "c=" + "{".repeat(24)).escapedLength(2), 48);
        });
        thatChangesNothing("Returns the length", desk -> desk.escapedLength(0));
        variables("`variable`: 0 to 7", TemplateScopes::escapedLength);
        edge(NO_VALUE_CLAUSE, "none", () ->
                refuses(STATE, () -> desk("", "b=1"), desk -> desk.escapedLength(2)));
    }

    private static void alikeBehindEscaping() {
        promise(24);
        String sentence = "Tells what a variable would become, if its value was escaped, and that was rendered as a template: "
                + "how many of the characters that are printed then are, at their places, those of the value.";
        edge(sentence, "each character alone", () -> {
            for (int code = 33; code <= 126; code++) {
                is("alike of " + (char) code, desk("", "c=" + (char) code).alikeBehindEscaping(2), 1);
            }
        });
        edge(sentence, "a value that is a template is not rendered itself", () -> {
            is("alike", desk("", "c={*a:{x}}", "a=123").alikeBehindEscaping(2), 8);
            is("alike", desk("", "c={h}").alikeBehindEscaping(2), 3);
            is("alike", desk("", "c=}").alikeBehindEscaping(2), 1);
        });
        edge("Returns how many.", "0, 1 and 24", () -> {
            is("of none", desk("", "c=").alikeBehindEscaping(2), 0);
            is("of 1", desk("", "c=x").alikeBehindEscaping(2), 1);
            is("of 24", desk("", "c=" + LETTERS_24).alikeBehindEscaping(2), 24);
        });
        edge("Returns how many.", "24 that are escaped", () -> {
            for (String special : new String[] {"{", "}", "~"}) {
                is("of 24", desk("", "c=" + special.repeat(24)).alikeBehindEscaping(2), 24);
            }
        });
        thatChangesNothing("Returns how many.", desk -> desk.alikeBehindEscaping(0));
        variables("`variable`: 0 to 7", TemplateScopes::alikeBehindEscaping);
        edge(NO_VALUE_CLAUSE, "none", () ->
                refuses(STATE, () -> desk("", "b=1"), desk -> desk.alikeBehindEscaping(2)));
    }
}
