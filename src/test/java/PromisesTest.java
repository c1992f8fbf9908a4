import java.util.function.IntFunction;
import java.util.function.ToIntFunction;

/** Each promise of the document by its number: ordinary inputs, edges, and wrong inputs. */
public final class PromisesTest extends Desks {
    public static void main(String[] args) {
        newObject();
        template();
        firstErrors();
        tellingOfTheTemplate();
        values();
        tellingOfValues();
        render();
        scopes();
        settings();
        failures();
        failurePlaces();
        limits();
        counts();
        wouldBe();
        undo();
        snapshot();
        valueShare();
        digest();
        Check.end("PromisesTest");
    }

    // ---- what the tests use

    private static void refusesVariables(String what, TemplateScopes desk, IntFunction<Object> call) {
        for (int variable : NO_VARIABLES) {
            Check.refuses(what + " " + variable, desk, INDEX, () -> call.apply(variable));
        }
    }

    private static void refusesIncomplete(String what, ToIntFunction<TemplateScopes> call) {
        for (String template : INCOMPLETE) {
            TemplateScopes desk = desk(template, "a=1");
            Check.refuses(what + " of " + template, desk, STATE, () -> call.applyAsInt(desk));
        }
    }

    // ---- promises 1 to 11

    private static void newObject() {
        TemplateScopes desk = new TemplateScopes();
        for (int variable = 0; variable < 8; variable++) {
            is("1: no value", desk.hasValue(variable), false);
        }
        is("1: the buffer", desk.templateLength(), 0);
        is("1: the output", desk.outputLength(), 0);
        is("1: no rendering", desk.renderings() + desk.failures() + desk.printed() + desk.steps(), 0);
        is("1: no failure", desk.hasFailed(), false);
        is("1: nothing saved", desk.savedStates(), 0);
        Check.refuses("1: restore", desk, STATE, desk::restore);
        is("1: another object is its own", desk("a").templateLength() + desk.templateLength(), 1);
    }

    private static void template() {
        TemplateScopes desk = new TemplateScopes();
        is("2: append", desk.append(33), 1);
        is("2: append", desk.append(126), 2);
        for (int code : NO_CODES) {
            Check.refuses("2: append " + code, desk, ARGUMENT, () -> desk.append(code));
        }
        for (int length = 3; length <= 60; length++) {
            is("2: append", desk.append('a'), length);
        }
        Check.refuses("2: append to 60", desk, STATE, () -> desk.append('a'));
        Check.refuses("2: the code comes first", desk, ARGUMENT, () -> desk.append(127));
        is("4: templateLength", desk.templateLength(), 60);
        is("2: it is not undoable", desk.savedStates(), 0);
        is("3: clearTemplate", desk.clearTemplate(), 60);
        is("3: it is clear", desk.templateLength(), 0);
        is("3: clearTemplate again", desk.clearTemplate(), 0);
        is("3: it is not undoable", desk.savedStates(), 0);
        is("2: append behind it", desk.append('b'), 1);
    }

    private static void error(String template, int due, boolean complete) {
        TemplateScopes desk = desk(template);
        is("5: firstError of " + template, desk.firstError(), due);
        is("6: isComplete of " + template, desk.isComplete(), complete);
    }

    private static void firstErrors() {
        error("", 0, true);
        error("abc", 3, true);
        error("}", 0, false);
        error("ab}c", 2, false);
        error("~", 1, false);
        error("~}~{~~", 6, true);
        error("{", 1, false);
        error("{}", 1, false);
        error("{{", 1, false);
        error("{i}", 1, false);
        error("{A}", 1, false);
        error("{:a}", 1, false);
        error("{~", 1, false);
        for (char name : "abcdefghkx".toCharArray()) {
            error("{" + name + "}", 3, true);
            error("{=" + name + ":}", 5, true);
        }
        for (char no : "ijlmwyzK`{}~!^*?=:".toCharArray()) {
            error("{!" + no, 2, false);
            error("{*" + no, 2, false);
        }
        error("{a", 2, false);
        error("{a:", 2, false);
        error("{ab}", 2, false);
        error("{!", 2, false);
        error("{!a", 3, false);
        error("{!a:", 3, false);
        error("{!a}", 4, true);
        error("{^x}", 4, true);
        error("{^a:}", 3, false);
        error("{*", 2, false);
        error("{*a", 3, false);
        error("{*a}", 3, false);
        error("{*a:", 4, false);
        error("{*a:}", 5, true);
        error("{?k:}}", 5, false);
        error("{?k:}~", 6, false);
        error("{=a:{*b:{?c:x}~}}", 17, false);
        error("{=a:{*b:{?c:x}~}}}", 18, true);
        error("{=a:{*b:{}", 9, false);
        error("a}{}", 1, false);
        error("{?a:".repeat(15), 60, false);
        error("{?a:".repeat(12) + "}".repeat(12), 60, true);
        error("{?a:".repeat(11) + "}".repeat(12), 55, false);
    }

    private static void tells(String template, int parts, int depth, int names, int set, int loops) {
        TemplateScopes desk = desk(template);
        is("7: parts of " + template, desk.parts(), parts);
        is("8: depth of " + template, desk.depth(), depth);
        is("9: names of " + template, desk.names(), names);
        is("10: namesSet of " + template, desk.namesSet(), set);
        is("11: loops of " + template, desk.loops(), loops);
    }

    private static void tellingOfTheTemplate() {
        tells("", 0, 0, 0, 0, 0);
        tells("abkx", 4, 1, 0, 0, 0);
        tells("~a~k~~", 3, 1, 0, 0, 0);
        tells("{a}{!h}{^k}", 3, 1, 1 + 128 + 256, 0, 0);
        tells("{*b:}", 1, 1, 2, 0, 1);
        tells("{*b:x}", 2, 2, 2, 0, 1);
        tells("{*b:}{*b:{*x:}}", 3, 2, 2 + 512, 0, 3);
        tells("{?c:y{?d:z}}{e}", 5, 3, 4 + 8 + 16, 0, 0);
        tells("{=f:{=g:}{a}}{=k:}{=x:}", 5, 2, 32 + 64 + 1 + 768, 32 + 64 + 768, 0);
        tells("{?a:".repeat(12) + "}".repeat(12), 12, 12, 1, 0, 0);
        tells("a".repeat(60), 60, 1, 0, 0, 0);
        tells("{*a:".repeat(11) + "12345" + "}".repeat(11), 16, 12, 1, 0, 11);
        tellsAnew();
        refusesIncomplete("7: parts", TemplateScopes::parts);
        refusesIncomplete("8: depth", TemplateScopes::depth);
        refusesIncomplete("9: names", TemplateScopes::names);
        refusesIncomplete("10: namesSet", TemplateScopes::namesSet);
        refusesIncomplete("11: loops", TemplateScopes::loops);
    }

    /** What was told of one template does not stay for the next one. */
    private static void tellsAnew() {
        TemplateScopes desk = desk("{*a:{=b:{?c:}}}{");
        is("6: not complete", desk.isComplete(), false);
        write(desk, "{*a:{=b:{?c:}}}");
        is("8: depth of three", desk.depth(), 3);
        is("9: names of three", desk.names(), 7);
        write(desk, "{d}");
        is("7: parts of the next one", desk.parts(), 1);
        is("8: depth of the next one", desk.depth(), 1);
        is("9: names of the next one", desk.names(), 8);
        is("10: namesSet of the next one", desk.namesSet(), 0);
        is("11: loops of the next one", desk.loops(), 0);
        desk.clearTemplate();
        is("7 to 11: without parts", desk.parts() + desk.depth() + desk.names() + desk.loops(), 0);
    }

    // ---- promises 12 to 24

    private static void values() {
        appendRemoveEmpty();
        copyAndEscape();
        TemplateScopes desk = desk("{a}!", "a=ab{}");
        is("17: takeOutput without a rendering", desk.takeOutput(7), 0);
        is("17: it is empty", value(desk, 'h'), "");
        desk.render();
        is("17: takeOutput", desk.takeOutput(0), 5);
        is("17: its value", value(desk, 'a'), "ab{}!");
        is("18: takeTemplate", desk.takeTemplate(1), 4);
        is("18: its value", value(desk, 'b'), "{a}!");
        is("18: the buffer stays", desk.templateLength(), 4);
        is("17 and 18: undoable", desk.undo() == 5 && !desk.hasValue(1) && desk.undo() == 4, true);
        is("17: undone", value(desk, 'a'), "ab{}");
        write(desk, "{*a");
        is("18: not complete", desk.takeTemplate(2), 3);
        is("18: its value", value(desk, 'c'), "{*a");
        write(desk, LETTERS_24);
        is("18: takeTemplate of 24", desk.takeTemplate(3), 24);
        desk.render();
        is("17: takeOutput of 24", desk.takeOutput(4), 24);
        is("17: its value", value(desk, 'e'), LETTERS_24);
        desk.append('y');
        Check.refuses("18: takeTemplate of 25", desk, STATE, () -> desk.takeTemplate(3));
        desk.render();
        Check.refuses("17: takeOutput of 25", desk, STATE, () -> desk.takeOutput(3));
        refusesVariables("17: takeOutput", desk, desk::takeOutput);
        refusesVariables("18: takeTemplate", desk, desk::takeTemplate);
    }

    private static void appendRemoveEmpty() {
        TemplateScopes desk = new TemplateScopes();
        for (int length = 1; length <= 24; length++) {
            is("12: appendValue", desk.appendValue(7, length == 1 ? 33 : 127 - length), length);
        }
        is("12: saved", desk.savedStates(), 6);
        is("12: its characters", value(desk, 'h').substring(0, 3), "!}|");
        Check.refuses("12: appendValue to 24", desk, STATE, () -> desk.appendValue(7, 'a'));
        for (int code : NO_CODES) {
            Check.refuses("12: the code comes first", desk, ARGUMENT, () -> desk.appendValue(7, code));
            Check.refuses("12: the variable comes first", desk, INDEX, () -> desk.appendValue(8, code));
        }
        refusesVariables("12: appendValue", desk, variable -> desk.appendValue(variable, 'a'));
        is("14: emptyValue", desk.emptyValue(7), 24);
        is("14: it is empty", value(desk, 'h'), "");
        is("14: emptyValue of an empty one", desk.emptyValue(7), 0);
        is("14: emptyValue without a value", desk.emptyValue(6), 0);
        is("14: a value then", value(desk, 'g'), "");
        refusesVariables("14: emptyValue", desk, desk::emptyValue);
        desk.appendValue(7, 'a');
        is("13: removeValue", desk.removeValue(7), 1);
        is("13: no value", desk.hasValue(7), false);
        Check.refuses("13: removeValue again", desk, STATE, () -> desk.removeValue(7));
        refusesVariables("13: removeValue", desk, desk::removeValue);
        is("13: removeValue of an empty one", desk.removeValue(6), 0);
        is("13: no value", desk.hasValue(6), false);
        desk.undo();
        is("13: undoable", value(desk, 'g'), "");
        desk.undo();
        is("13: undoable", value(desk, 'h'), "a");
        desk.undo();
        is("12: undoable", value(desk, 'h'), "");
        is("12: to an empty one", desk.appendValue(5, 'z'), 1);
        desk.undo();
        is("12: undone to none", desk.hasValue(5), false);
        desk.undo();
        is("14: undoable", desk.hasValue(6), false);
        desk.removeValue(7);
        desk.appendValue(7, 'q');
        is("12: nothing of the old value comes back", value(desk, 'h'), "q");
    }

    private static void copyAndEscape() {
        TemplateScopes desk = desk("", "a=x{y", "b=longer");
        is("15: copyValue", desk.copyValue(1, 0), 3);
        is("15: its value", value(desk, 'b'), "x{y");
        is("15: the other stays", value(desk, 'a'), "x{y");
        is("15: to one without", desk.copyValue(7, 1), 3);
        is("15: to itself", desk.copyValue(7, 7), 3);
        is("15: its value", value(desk, 'h'), "x{y");
        desk.appendValue(0, 'z');
        is("15: it is a copy", value(desk, 'b'), "x{y");
        Check.refuses("15: copyValue of none", desk, STATE, () -> desk.copyValue(0, 4));
        Check.refuses("15: copyValue of none to itself", desk, STATE, () -> desk.copyValue(4, 4));
        refusesVariables("15: copyValue to", desk, variable -> desk.copyValue(variable, 0));
        refusesVariables("15: copyValue to, of none", desk, variable -> desk.copyValue(variable, 4));
        refusesVariables("15: copyValue of", desk, variable -> desk.copyValue(0, variable));
        desk.undo();
        desk.undo();
        desk.undo();
        is("15: undoable", desk.hasValue(7), false);

        give(desk, 'c', "{a~}b");
        is("16: escapeValue", desk.escapeValue(2), 8);
        is("16: its value", value(desk, 'c'), "~{a~~~}b");
        is("16: escapeValue again", desk.escapeValue(2), 14);
        is("16: undoable", desk.undo() >= 0 && value(desk, 'c').equals("~{a~~~}b"), true);
        give(desk, 'd', "{}~{}~{}~{}~");
        is("16: escapeValue to 24", desk.escapeValue(3), 24);
        is("16: its value", value(desk, 'd'), "~{~}~~~{~}~~~{~}~~~{~}~~");
        Check.refuses("16: escapeValue to 48", desk, STATE, () -> desk.escapeValue(3));
        give(desk, 'd', "{}~{}~{}~{}~a");
        Check.refuses("16: escapeValue to 25", desk, STATE, () -> desk.escapeValue(3));
        give(desk, 'd', LETTERS_24);
        is("16: escapeValue of 24", desk.escapeValue(3), 24);
        desk.emptyValue(3);
        is("16: escapeValue of an empty one", desk.escapeValue(3), 0);
        Check.refuses("16: escapeValue of none", desk, STATE, () -> desk.escapeValue(6));
        refusesVariables("16: escapeValue", desk, desk::escapeValue);
    }

    private static void tellingOfValues() {
        TemplateScopes desk = desk("", "a=!~{}", "b={*x:{k}}", "c=", "d={a", "e=}",
                "f=~{~}~~{{{{}}}}~~~~abcdef", "g=" + "~".repeat(24));
        is("19: hasValue", desk.hasValue(2), true);
        is("19: hasValue", desk.hasValue(7), false);
        is("20: valueLength", desk.valueLength(0), 4);
        is("20: valueLength", desk.valueLength(2), 0);
        is("20: valueLength", desk.valueLength(6), 24);
        is("21: valueCharacter", desk.valueCharacter(0, 0), 33);
        is("21: valueCharacter", desk.valueCharacter(0, 3), 125);
        for (int place : new int[] {-1, 4, 24, Integer.MAX_VALUE, Integer.MIN_VALUE}) {
            Check.refuses("21: no place", desk, INDEX, () -> desk.valueCharacter(0, place));
            Check.refuses("21: no value", desk, STATE, () -> desk.valueCharacter(7, place));
            Check.refuses("21: an empty value", desk, INDEX, () -> desk.valueCharacter(2, place));
        }
        is("22: isTemplate", desk.isTemplate(0), false);
        is("22: isTemplate", desk.isTemplate(1), true);
        is("22: isTemplate", desk.isTemplate(2), true);
        is("22: isTemplate", desk.isTemplate(3), false);
        is("22: isTemplate", desk.isTemplate(4), false);
        is("23: escapedLength", desk.escapedLength(0), 7);
        is("23: escapedLength", desk.escapedLength(2), 0);
        is("23: escapedLength", desk.escapedLength(5), 42);
        is("23: escapedLength", desk.escapedLength(6), 48);
        for (int variable = 0; variable < 7; variable++) {
            is("24: alikeBehindEscaping", desk.alikeBehindEscaping(variable), desk.valueLength(variable));
        }
        is("19 to 24: not undoable", desk.savedStates(), 6);
        Check.refuses("20: none", desk, STATE, () -> desk.valueLength(7));
        Check.refuses("22: none", desk, STATE, () -> desk.isTemplate(7));
        Check.refuses("23: none", desk, STATE, () -> desk.escapedLength(7));
        Check.refuses("24: none", desk, STATE, () -> desk.alikeBehindEscaping(7));
        refusesVariables("19: hasValue", desk, desk::hasValue);
        refusesVariables("20: valueLength", desk, desk::valueLength);
        refusesVariables("21: valueCharacter", desk, variable -> desk.valueCharacter(variable, 0));
        refusesVariables("22: isTemplate", desk, desk::isTemplate);
        refusesVariables("23: escapedLength", desk, desk::escapedLength);
        refusesVariables("24: alikeBehindEscaping", desk, desk::alikeBehindEscaping);
    }

    // ---- promises 25 to 38

    private static void render() {
        renders("", "", "0");
        renders("abc:!", "abc:!", "0");
        renders(LETTERS_24.repeat(3).substring(0, 60), LETTERS_24.repeat(3).substring(0, 60), "0");
        renders("{*a:" + "y".repeat(55) + "}", "y".repeat(165), "0", "a=123");
        renders("~a~{~}~~", "a{}~", "0");
        renders("{a}{b}", "x{y}~", "0", "a=x{y}", "b=~");
        renders("{!a}{!b}", "~{x~}~~", "0", "a={x}", "b=~");
        renders("{^a}", "1-y}", "0", "a=1-{b}~}", "b=y");
        renders("{^a}", "", "0", "a=");
        renders("{*a:{k}{x}}", "0p1q2r", "0", "a=pqr");
        renders("{*a:x}", "", "0", "a=");
        renders("{?a:y}{?b:n}{?c:n}{?k:n}", "y", "0", "a=1", "b=");
        renders("{=c:p{a}}({c})", "(pq)", "0", "a=q");
        TemplateScopes desk = desk("{a}", "a=xy");
        desk.render();
        is("26: outputLength", desk.outputLength(), 2);
        is("27: outputCharacter", desk.outputCharacter(1), 121);
        for (int place : new int[] {-1, 2, 200, Integer.MIN_VALUE, Integer.MAX_VALUE}) {
            Check.refuses("27: outputCharacter " + place, desk, INDEX, () -> desk.outputCharacter(place));
        }
        write(desk, "z");
        is("25: the output is that of the latest", desk.render() + output(desk), "1z");
        is("25: undoable", desk.undo() >= 0 && output(desk).equals("xy"), true);
        is("25: undo leaves the buffer", desk.templateLength(), 1);
        refusesIncomplete("25: render", TemplateScopes::render);
    }

    private static void scopes() {
        renders("{*a:{*x:{k}{x}}{k}{x};}", "0p0p;0q1q;", "0", "a=pq");
        renders("{*a:{*b:{k}{x}}{k}{x};}", "0y1z0p;0y1z1q;", "0", "a=pq", "b=yz");
        renders("{*a:{x}}{k}", "p", "1: 8", "a=p");
        renders("{x}", "", "1: 0", "a=p");
        renders("{*a:{k}}", "01234567891011121314151617181920212223", "0", "a=" + LETTERS_24);
        renders("{*a:{=b:{x}}{b}}{b}", "pq-", "0", "a=pq", "b=-");
        renders("{*a:{?b:{b}}{=b:{x}}}", "", "0", "a=pq");
        renders("{*a:{=a:{a}{a}}{a};}{a}", "pqpq;pqpq;pq", "0", "a=pq");
        renders("{*a:{=k:{k}{x}}{=x:!}{k}{x}}", "0p!1q!", "0", "a=pq");
        renders("{?a:{=a:new}}{a}", "new", "0", "a=old");
        renders("{=x:pq}{*x:{x}{k}}{x}", "p0q1pq", "0");
        renders("{^a}{b}", "in-old", "0", "a={=b:in}{b}-", "b=old");
        renders("{*b:{^a}}", "0p1q", "0", "a={k}{x}", "b=pq");
        renders("{=c:1}{^a}", "1", "0", "a={c}");
        renders("{^a}{c}", "1", "1: 4", "a={=c:1}{c}");
        renders("{a}{=a:2}{a}", "12", "0", "a=1");
        TemplateScopes desk = desk("{=a:2}{=b:3}", "a=1");
        desk.render();
        is("25: settings do not change variables", value(desk, 'a') + value(desk, 'b'), "1none");
    }

    private static void settings() {
        renders("{=a:1{=b:2}3{b}}{a}", "132", "0");
        renders("{=a:x{=a:y}{a}z}{a}", "xyz", "0");
        renders("{=a:}{?a:n}{a}.", ".", "0", "a=1");
        renders("{=b:{!a}}{b}{!b}", "~{~~~{", "0", "a={");
        renders("{=b:{^a}}{b}", "<p>", "0", "a=<{=b:p}{b}>");
        renders("{=b:{*a:{k}{x}}}{b}", "0p1q", "0", "a=pq");
        renders("{=b:{a}}", "", "0", "a=" + LETTERS_24);
        renders("-{=b:{a}1}", "-", "6: 8", "a=" + LETTERS_24);
        renders("-{=b:{a}~1}", "-", "6: 8", "a=" + LETTERS_24);
        renders("-{=b:1{a}}", "-", "6: 6", "a=" + LETTERS_24);
        renders("-{=b:{!a}}", "-", "6: 5", "a=" + "{".repeat(13));
        renders("{=b:{a}{=c:{a}}}{c}", LETTERS_24, "0", "a=" + LETTERS_24);
        renders("{=b:{^c}}", "", "6: 4 3", "a=" + LETTERS_24, "c={a}!");
        renders("{*a:{*a:{x}}}{=b:zz}{b}", "1234567890".repeat(10) + "zz", "0", "a=1234567890");
        TemplateScopes desk = desk("{*a:{a}}{=c:{b}}{?c:{c}}", "a=" + "12345678901234", "b=zzzz");
        desk.render();
        is("25: a setting's text is not of the output", output(desk).length(), 200);
        is("25: it is printed behind it", failure(desk), "0");
    }

    private static void failures() {
        TemplateScopes desk = desk("{a}");
        Check.refuses("29: none so far", desk, STATE, desk::failureReason);
        is("25: length of the output", desk.render(), 0);
        is("28: hasFailed", desk.hasFailed(), true);
        is("29: failureReason", desk.failureReason(), 1);
        is("30: failurePlaces", desk.failurePlaces(), 1);
        is("31: failurePlace", desk.failurePlace(0), 0);
        for (int number : new int[] {-1, 1, 5, Integer.MIN_VALUE, Integer.MAX_VALUE}) {
            Check.refuses("31: failurePlace " + number, desk, INDEX, () -> desk.failurePlace(number));
        }
        desk.appendValue(0, 'p');
        is("28: it stays", desk.hasFailed(), true);
        desk.render();
        is("28: the latest did not fail", desk.hasFailed(), false);
        is("30: no places", desk.failurePlaces(), 0);
        Check.refuses("29: it did not fail", desk, STATE, desk::failureReason);
        Check.refuses("31: it did not fail", desk, INDEX, () -> desk.failurePlace(0));
        desk.undo();
        is("28: undone", failure(desk), "1: 0");
        for (String part : new String[] {"{a}", "{!a}", "{^a}", "{*a:}"}) {
            renders("~.-" + part + "+", ".-", "1: 3");
            renders("~.-" + part, ".-", "0", "a=");
        }
        renders("{?a:+}{=a:}.", ".", "0");
        renders("{?a:{b}}", "", "1: 4", "a=1");
        renders("{=a:1{b}}", "", "1: 5");
    }

    private static void failurePlaces() {
        renders("12{^a}", "123", "1: 2 1", "a=3{h}");
        renders("{*b:{^a}}", "0", "1: 4 3", "a={k}{h}", "b=pq");
        renders(".{^a}", ".", "5: 1 2", "a=1~");
        renders(".{^a}", ".", "5: 1 1", "a=1}");
        renders(".{^a}", ".", "5: 1 4", "a={*a:");
        renders(".{^a}", ".-", "5: 1 1 0", "a=-{^b}", "b=}");
        renders("1{^a}", "1234", "5: 1 1 1 1 1", "a=2{^b}", "b=3{^c}", "c=4{^d}", "d=5}");
        renders("1{^a}", "12345", "1: 1 1 1 1 1", "a=2{^b}", "b=3{^c}", "c=4{^d}", "d=5{h}");
        renders("1{^a}", "123456", "0", "a=2{^b}", "b=3{^c}", "c=4{^d}", "d=5{e}", "e=6");
        renders("1{^a}", "12345", "4: 1 1 1 1 1", "a=2{^b}", "b=3{^c}", "c=4{^d}", "d=5{^e}", "e=6");
        renders("1{^a}", "12345", "4: 1 1 1 1 1", "a=2{^b}", "b=3{^c}", "c=4{^d}", "d=5{^e}", "e=}");
        renders("1{^a}", "12345", "1: 1 1 1 1 1", "a=2{^b}", "b=3{^c}", "c=4{^d}", "d=5{^e}");
        renders("{^a}{^a}{b}", "22", "1: 8", "a=2");
        renders("{^a}{^b}", "2", "1: 4 0", "a=2", "b={h}");
        renders("{*a:{^b}}", "123}", "0", "a=123}", "b={x}");
        renders("{*a:{^x}}", "123", "5: 4 0", "a=123}");
    }

    private static void limits() {
        renders("{*a:{*b:{x}}}", "1234567890".repeat(10), "0", "a=1234567890", "b=1234567890");
        renders("{*a:{b}}", "1234567890".repeat(20), "0", "a=" + "-".repeat(20), "b=1234567890");
        renders("{*a:{b}}!", "1234567890".repeat(20), "2: 8", "a=" + "-".repeat(20), "b=1234567890");
        renders("{*a:{b}}~!", "1234567890".repeat(20), "2: 8", "a=" + "-".repeat(20), "b=1234567890");
        renders("{*a:{b}}{c}{=d:1}", "1234567890".repeat(20), "0", "a=" + "-".repeat(20), "b=1234567890", "c=");
        renders("{*a:{^b}}", "1-".repeat(20), "0", "a=" + "x".repeat(20), "b=1-");
        renders(".{*a:{!b}}", "." + "~{".repeat(99) + "~", "2: 5", "a=" + "-".repeat(10), "b=" + "{".repeat(10));
        renders("{*a:{^b}}", "1".repeat(200), "2: 4 0", "a=" + "-".repeat(21), "b={c}", "c=1111111111");
        steps();
    }

    /** The loop is 199 steps: 1 of its own, and 22 passes of 9. */
    private static void steps() {
        TemplateScopes desk = desk("", "a=" + "-".repeat(22), "b=123456789");
        is("32: steps without a rendering", desk.steps(), 0);
        write(desk, "{*a:123456789}.");
        is("25: the last step", desk.render(), 199);
        is("32: steps", desk.steps(), 200);
        is("25: it does not fail", failure(desk), "0");
        write(desk, "{*a:123456789}");
        desk.render();
        is("32: 199 steps", desk.steps() + ", " + failure(desk), "199, 0");
        write(desk, "{*a:123456789}{?h:}");
        desk.render();
        is("32: 200 steps", desk.steps() + ", " + failure(desk), "200, 0");
        write(desk, "{*a:123456789}{?h:}{h}");
        is("41: reason 3 comes first", desk.wouldFail(), 3);
        desk.render();
        is("32: the failing one is not counted", desk.steps() + ", " + failure(desk), "200, 3: 19");
        write(desk, "{*a:123456789}{=c:}{=c:1}");
        desk.render();
        is("31: a setting over the limit", desk.steps() + ", " + failure(desk), "200, 3: 19");
        write(desk, "1{a}{h}");
        desk.render();
        is("32: the failing part is a step", desk.steps(), 3);
        write(desk, "{*h:}");
        desk.render();
        is("32: a failing loop too", desk.steps(), 1);
        write(desk, "{=c:12}{?c:3}{?h:4}");
        desk.render();
        is("32: parts within", desk.steps(), 6);
        write(desk, "{^b}");
        desk.render();
        is("32: parts of an included value", desk.steps(), 10);
        desk.undo();
        is("32: undone", desk.steps(), 6);
    }

    private static void counts() {
        TemplateScopes desk = desk("12~3{a}{!a}{^b}", "a={4}", "b=5~6{c}{*c:7{k}}", "c=89");
        is("25: render", desk.render(), 3 + 3 + 5 + 8);
        is("25: the output", output(desk), "123{4}~{4~}56897071");
        is("33: plainPrinted", desk.plainPrinted(), 2 + 1 + 2);
        is("34: escapesPrinted", desk.escapesPrinted(), 1 + 1);
        is("35: valuesPrinted", desk.valuesPrinted(), 3 + 5 + 2 + 2);
        is("36: renderings", desk.renderings(), 1);
        is("37: failures", desk.failures(), 0);
        is("38: printed", desk.printed(), 19);
        write(desk, "{=d:1~2{a}}x{d}{h}");
        desk.render();
        is("33: not what a setting takes", desk.plainPrinted(), 1);
        is("34: not what a setting takes", desk.escapesPrinted(), 0);
        is("35: not what a setting takes", desk.valuesPrinted(), 5);
        is("36: renderings", desk.renderings(), 2);
        is("37: failures", desk.failures(), 1);
        is("38: printed", desk.printed(), 25);
        desk.wouldPrint();
        desk.wouldPrintByText();
        desk.wouldFail();
        desk.wouldPrintWithout(0);
        is("36: what would be does not count", desk.renderings() + desk.failures() + desk.printed(), 28);
        desk.undo();
        is("36: undone", desk.renderings(), 1);
        is("37: undone", desk.failures(), 0);
        is("38: undone", desk.printed(), 19);
        is("33: undone", desk.plainPrinted(), 5);
        is("34: undone", desk.escapesPrinted(), 2);
        is("35: undone", desk.valuesPrinted(), 12);
    }

    // ---- promises 39 to 48

    private static void wouldBe() {
        TemplateScopes desk = desk("{a}-{?b:{b}}{b}", "a=123", "b=45");
        desk.render();
        long before = desk.digest();
        is("39: wouldPrint", desk.wouldPrint(), 8);
        is("40: wouldPrintByText", desk.wouldPrintByText(), 8);
        is("41: wouldFail", desk.wouldFail(), 0);
        is("42: wouldPrintWithout a", desk.wouldPrintWithout(0), 0);
        is("42: wouldPrintWithout b", desk.wouldPrintWithout(1), 4);
        is("42: wouldPrintWithout c", desk.wouldPrintWithout(2), 8);
        is("42: wouldPrintWithout h", desk.wouldPrintWithout(7), 8);
        is("39 to 42: nothing is changed", desk.digest(), before);
        is("42: the variable stays", value(desk, 'a'), "123");
        write(desk, "{=a:1}{a}");
        is("42: a setting gives it", desk.wouldPrintWithout(0), 1);
        write(desk, "12{h}");
        is("39: ahead of a failure too", desk.wouldPrint() + 10 * desk.wouldPrintByText(), 22);
        refusesVariables("42: wouldPrintWithout", desk, desk::wouldPrintWithout);
        write(desk, "{");
        refusesVariables("42: the variable comes first", desk, desk::wouldPrintWithout);
        refusesIncomplete("39: wouldPrint", TemplateScopes::wouldPrint);
        refusesIncomplete("40: wouldPrintByText", TemplateScopes::wouldPrintByText);
        refusesIncomplete("41: wouldFail", TemplateScopes::wouldFail);
        refusesIncomplete("42: wouldPrintWithout", d -> d.wouldPrintWithout(0));
        byText();
        String[] deep = {"a={?b:{?b:{?b:{?b:{^b}}}}}", "b={*c:{*c:{*c:{*c:{^d}}}}}",
            "c=1", "d={=c:{=c:{=c:{=c:{^e}}}}}", "e={*f:{*f:{*f:{*f:1234}}}}", "f=1"};
        renders("{=c:".repeat(11) + "{^a}" + "}".repeat(11), "", "0", deep);
        renders("{*f:".repeat(11) + "{^a}" + "}".repeat(11), "", "0", deep);
    }

    /** What going through the text could miss where going through the parts does not. */
    private static void byText() {
        renders("1{^a}!", "123456!!!!!", "0", "a=2{^b}!", "b=3{^c}!", "c=4{^d}!", "d=5{e}!", "e=6");
        renders("1{^a}!", "12345", "4: 1 1 1 1 1", "a=2{^b}!", "b=3{^c}!", "c=4{^d}!", "d=5{^e}!", "e=6");
        renders("{*a:~~{?b:~}{x}}{b}~{}.{c}", ".1", "0", "a=", "c=1");
        renders("{?b:{!a}{^a}{?a:{=a:}}}.{*b:{*a:{a}}}.", "..", "0", "a=12", "b=");
        renders("{*a:{^x}}", "", "5: 4 0", "a=}123");
        renders("{*a:{k}{^x}}!", "01122", "5: 7 0", "a=12}");
        TemplateScopes desk = desk("{*a:{=c:{^b}}}", "a=12", "b={h}");
        is("40: within much", desk.wouldPrintByText(), 0);
        write(desk, "{a}{*a:{k}}.");
        is("40: as if for the first time", desk.wouldPrintByText(), 5);
        write(desk, "{^b}.");
        is("40: ahead of a failure", desk.wouldPrintByText(), 0);
        is("40: told again", desk.wouldPrintByText(), 0);
    }

    private static void undo() {
        TemplateScopes desk = new TemplateScopes();
        Check.refuses("43: nothing saved", desk, STATE, desk::undo);
        for (int i = 1; i <= 8; i++) {
            desk.appendValue(0, '0' + i);
            is("46: savedStates", desk.savedStates(), Math.min(i, 6));
        }
        for (int left = 5; left >= 0; left--) {
            is("43: undo", desk.undo(), left);
            is("43: the value", value(desk, 'a'), "12345678".substring(0, 2 + left));
        }
        Check.refuses("43: the oldest one is dropped", desk, STATE, desk::undo);
        is("43: what is left", value(desk, 'a'), "12");
        desk.emptyValue(1);
        desk.emptyValue(1);
        desk.copyValue(1, 1);
        desk.escapeValue(1);
        is("46: saved also if nothing changes", desk.savedStates(), 4);
        write(desk, "{h}");
        desk.render();
        desk.takeOutput(1);
        is("46: savedStates", desk.savedStates(), 6);
        desk.undo();
        desk.undo();
        is("43: the rendering is undone", desk.renderings() + desk.failures() + desk.steps(), 0);
        is("43: its failure too", failure(desk), "0");
        is("43: the buffer stays", desk.templateLength(), 3);
    }

    private static void snapshot() {
        TemplateScopes desk = desk("ab{a}{h}", "a=1");
        desk.render();
        int saved = desk.savedStates();
        is("44: keep", desk.keep(), 3);
        is("44: it is not undoable", desk.savedStates(), saved);
        long kept = desk.digest();
        desk.undo();
        desk.appendValue(0, '2');
        desk.emptyValue(3);
        write(desk, "z");
        desk.render();
        String before = value(desk, 'a') + output(desk) + failure(desk);
        is("45: restore", desk.restore(), 3);
        is("45: the values", value(desk, 'a') + value(desk, 'd'), "1none");
        is("45: the output", output(desk), "ab1");
        is("45: the failure", failure(desk), "1: 5");
        is("45: the counts", "" + desk.steps() + desk.plainPrinted() + desk.valuesPrinted()
                + desk.renderings() + desk.failures() + desk.printed(), "421113");
        is("45: the buffer stays", desk.templateLength(), 1);
        desk.undo();
        is("45: undoable", value(desk, 'a') + output(desk) + failure(desk), before);
        desk.restore();
        desk.appendValue(0, '3');
        desk.restore();
        is("45: the snapshot stays", value(desk, 'a'), "1");
        desk.emptyValue(0);
        is("44: in place of the one before", desk.keep(), 3);
        desk.appendValue(0, '4');
        desk.restore();
        is("45: the new one", value(desk, 'a'), "");
        while (desk.savedStates() > 0) {
            desk.undo();
        }
        is("45: undo does not drop the snapshot", desk.restore(), 3);
        is("44: not as it was kept first", desk.digest() == kept, false);
    }

    private static void valueShare() {
        TemplateScopes desk = desk("{a}1", "a=23");
        is("47: of an empty output", desk.valueShare(), 0.0);
        desk.render();
        is("47: valueShare", desk.valueShare(), 2.0 / 3);
        write(desk, "1~2");
        desk.render();
        is("47: without values", desk.valueShare(), 0.0);
        write(desk, "{a}");
        desk.render();
        is("47: of values alone", desk.valueShare(), 1.0);
        desk.undo();
        desk.undo();
        is("47: undone", desk.valueShare(), 2.0 / 3);
    }

    private static long hash(long... values) {
        long hash = 4349;
        for (long value : values) {
            hash = 31 * hash + value;
        }
        return hash;
    }

    private static void digest() {
        is("48: a new object", new TemplateScopes().digest(), hash(0, 0, 0, 0, 0, 0, 0, 0, 0, 0, 0,
                0, 0, 0, 0, 0, 0, 0, 0, 1, 0, 0, 0, 0, 0, 0, 0, 0, 0, 0, 0));
        TemplateScopes desk = desk("p{b}{h}", "b={q");
        desk.render();
        long share = Double.doubleToLongBits(2.0 / 3);
        is("48: digest", desk.digest(), hash(3, 'p', '{', 'q', 1, 1, 1, 4, 3, 1, 0, 2, 1, 1, 3, 4,
                0, 1, 2, '{', 'q', 0, 3, 2, 0, 0, 0, 0, 0, 0,
                1, 3, 1, 2 + 128, 0, 0, 3, 3, 1, 7, share, 7, 'p', '{', 'b', '}', '{', 'h', '}'));
        write(desk, "{}");
        is("48: not complete", desk.digest(), hash(3, 'p', '{', 'q', 1, 1, 1, 4, 3, 1, 0, 2, 1, 1, 3, 4,
                0, 1, 2, '{', 'q', 0, 3, 2, 0, 0, 0, 0, 0, 0, 0, 1, share, 2, '{', '}'));
        shares();
    }

    /** The bits of each share that an output of 1 to 60 characters can have. */
    private static void shares() {
        for (int plain = 0; plain < 30; plain++) {
            for (int values = 0; values <= 24; values++) {
                TemplateScopes desk = desk(".".repeat(plain) + "{a}", "a=" + "x".repeat(values));
                desk.render();
                Model model = new Model();
                model.emptyValue(0);
                for (int i = 0; i < values; i++) {
                    model.appendValue(0, 'x');
                }
                (".".repeat(plain) + "{a}").chars().forEach(model::append);
                model.render();
                is("48: the share " + values + " of " + (plain + values), desk.digest(), model.digest());
            }
        }
    }
}
