import java.util.List;
import java.util.function.ToIntFunction;

/** Sentences on names, on templates and their errors, and the promises 1 to 11. */
final class EdgesOfTemplates extends Edges {
    private static final String NO_NAMES = "ijlmwyz`ABHKX08{}~!^*?=:\"";
    private static final String SIGNS = "!^*?=";

    private EdgesOfTemplates() {
    }

    static void all() {
        characters();
        names();
        grammar();
        errors();
        newObject();
        append();
        clearTemplate();
        templateLength();
        firstError();
        isComplete();
        parts();
        depth();
        namesOfTheTemplate();
        namesSet();
        loops();
    }

    private static void reads(String template, int error, boolean complete) {
        TemplateScopes desk = desk(template);
        is("firstError of " + template, desk.firstError(), error);
        is("isComplete of " + template, desk.isComplete(), complete);
    }

    private static void isWhole(String template) {
        reads(template, template.length(), true);
    }

    private static void endsTooEarly(String template) {
        reads(template, template.length(), false);
    }

    private static void has(String template, ToIntFunction<TemplateScopes> call, int due) {
        is(template, call.applyAsInt(desk(template)), due);
    }

    /** Of each template that is not complete, by its end or by an error. */
    private static void refusesIncomplete(ToIntFunction<TemplateScopes> call) {
        for (String template : INCOMPLETE) {
            refuses(STATE, () -> desk(template, "a=1"), call::applyAsInt);
        }
        refuses(STATE, () -> desk("x".repeat(59) + "{"), call::applyAsInt);
        refuses(STATE, () -> desk("x".repeat(59) + "}"), call::applyAsInt);
    }

    /** What it tells of the template {*a:{=b:{?c:1}}}{!d}, and then of {h}, also when one was not complete between them. */
    private static void ofTheTemplateNow(String sentence, ToIntFunction<TemplateScopes> call, int due, int then) {
        edge(sentence, "of the template as it is now, not of one before", () -> {
            TemplateScopes desk = desk("{*a:{=b:{?c:1}}}{!d}");
            is("the first one", call.applyAsInt(desk), due);
            write(desk, "{h}");
            is("the next one", call.applyAsInt(desk), then);
            write(desk, "{*a:{=b:{?c:{*e:");
            desk.isComplete();
            write(desk, "{h}");
            is("behind one that is not complete", call.applyAsInt(desk), then);
            for (String value : new String[] {"{*a:{=b:}}", "{=b:{*a:}}", "{?c:{?c:}}"}) {
                give(desk, 'a', value);
                desk.isTemplate(0);
                is("behind a look at a value", call.applyAsInt(desk), then);
            }
            for (String value : new String[] {"{*a:{=b:}}", "{=b:{*a:}}", "{?c:{?c:}}"}) {
                desk.clearTemplate();
                give(desk, 'a', value);
                desk.isTemplate(0);
                is("of none", call.applyAsInt(desk), 0);
            }
        });
    }

    private static String blocks(int count, String within) {
        return "{*a:".repeat(count) + within + "}".repeat(count);
    }

    // ---- the terms

    private static void characters() {
        in("Terms");
        edge("All numbers are integers, but for a share.", "the share alone may lie between two", () ->
                is("valueShare", rendered("-{a}", "a=+").valueShare(), 0.5));
        edge("Characters are told by their codes, 33 to 126.", "33 in a value and in the output", () -> {
            TemplateScopes desk = rendered("!{a}", "a=!");
            is("in the value", desk.valueCharacter(0, 0), 33);
            is("plain", desk.outputCharacter(0), 33);
            is("of the value", desk.outputCharacter(1), 33);
        });
        edge("Characters are told by their codes, 33 to 126.", "126 in a value and in the output", () -> {
            TemplateScopes desk = rendered("~~{a}", "a=~");
            is("in the value", desk.valueCharacter(0, 0), 126);
            is("escaped", desk.outputCharacter(0), 126);
            is("of the value", desk.outputCharacter(1), 126);
        });
    }

    private static void names() {
        in("Names, values");
        edge("The names are the letters a to h, k and x.", "each of them is one", () -> {
            for (char name : NAMES.toCharArray()) {
                isWhole("{" + name + "}");
            }
        });
        edge("The names are the letters a to h, k and x.", "no other character is one", () -> {
            for (char code = 33; code <= 126; code++) {
                if (NAMES.indexOf(code) < 0) {
                    reads("{!" + code + "}", 2, false);
                }
            }
        });
        edge("The desk has 8 variables, 0 to 7, for the names a to h", "0 is a, 7 is h, and each between", () -> {
            TemplateScopes desk = new TemplateScopes();
            for (int variable = 0; variable < 8; variable++) {
                desk.appendValue(variable, '0' + variable);
            }
            write(desk, "{h}{g}{f}{e}{d}{c}{b}{a}");
            desk.render();
            is("output", output(desk), "76543210");
        });
        edge("a text of at most 24 characters (it can be empty)", "0 and 24 of each variable", () -> {
            for (char name = 'a'; name <= 'h'; name++) {
                is("24", value(desk("", name + "=" + LETTERS_24), name), LETTERS_24);
                is("0", value(desk("", name + "="), name), "");
            }
        });
        edge("or none (as at first)", "of each variable", () -> {
            for (char name = 'a'; name <= 'h'; name++) {
                is("none", value(new TemplateScopes(), name), "none");
            }
        });
        edge("The names k and x have values only within loops, or when they are set.", "none at first", () -> {
            renders("{k}", "", "1: 0", "a=1");
            renders("{x}", "", "1: 0", "a=1");
        });
        edge("The names k and x have values only within loops, or when they are set.", "none behind a loop", () -> {
            renders("{*a:{k}}{k}", "0", "1: 8", "a=1");
            renders("{*a:{x}}{x}", "1", "1: 8", "a=1");
        });
        edge("The names k and x have values only within loops, or when they are set.", "set without a loop", () -> {
            renders("{=k:12}{k}", "12", "0");
            renders("{=x:34}{x}", "34", "0");
        });
    }

    private static void grammar() {
        in("Templates");
        edge("The template is in a buffer of at most 60 characters, empty at first.", "0 at first, 60 at most", () -> {
            TemplateScopes desk = new TemplateScopes();
            is("at first", desk.templateLength(), 0);
            write(desk, "x".repeat(60));
            is("full", desk.templateLength(), 60);
            refuses(STATE, () -> desk("x".repeat(60)), full -> full.append('x'));
        });
        edge("A template is any number of parts, one behind the other (also none).", "none, one, and 60", () -> {
            isWhole("");
            isWhole("x");
            isWhole("x".repeat(60));
        });
        edge("a plain character: any one but \"{\", \"}\" and \"~\";", "each that is one", () -> {
            for (char code = 33; code <= 126; code++) {
                if ("{}~".indexOf(code) < 0) {
                    isWhole("" + code);
                    has("" + code, TemplateScopes::parts, 1);
                }
            }
        });
        edge("a plain character: any one but \"{\", \"}\" and \"~\";", "each that is none", () -> {
            endsTooEarly("{");
            endsTooEarly("~");
            reads("}", 0, false);
        });
        edge("an escape: \"~\", and any character;", "each character behind it, as one part", () -> {
            for (char code = 33; code <= 126; code++) {
                isWhole("~" + code);
                has("~" + code, TemplateScopes::parts, 1);
            }
        });
        edge("an escape: \"~\", and any character;", "none behind it", () -> {
            endsTooEarly("~");
            endsTooEarly("~~~");
            endsTooEarly("x".repeat(59) + "~");
        });
        edge("a value: \"{\", a name, and \"}\";", "another character at each place", () -> {
            isWhole("{a}");
            for (char no : NO_NAMES.toCharArray()) {
                if (SIGNS.indexOf(no) < 0) {
                    reads("{" + no + "a}", 1, false);
                }
                if (no != '}') {
                    reads("{a" + no + "}", 2, false);
                }
            }
        });
        simplePart("an escaped value: \"{!\", a name, and \"}\";", '!');
        simplePart("an included value: \"{^\", a name, and \"}\";", '^');
        block("a loop: \"{*\", a name, \":\", any number of parts, and \"}\";", '*');
        block("a condition: \"{?\", a name, \":\", any number of parts, and \"}\"; or", '?');
        block("a setting: \"{=\", a name, \":\", any number of parts, and \"}\".", '=');
        edge("The place of a part is the index of its first character in its template.", "the first place, and 57 in 60", () -> {
            renders("{h}", "", "1: 0");
            renders(".".repeat(57) + "{h}", ".".repeat(57), "1: 57");
        });
        edge("The place of a part is the index of its first character in its template.", "59, the last place", () ->
                renders("{*a:{b}}{?h:" + "-".repeat(46) + "}.", "x".repeat(200), "2: 59",
                        "a=" + "-".repeat(20), "b=xxxxxxxxxx"));
        edge("The place of a part is the index of its first character in its template.", "23, the last one of a value", () ->
                renders("{*a:{b}}{^c}", "x".repeat(200), "2: 8 23",
                        "a=" + "-".repeat(20), "b=xxxxxxxxxx", "c={?h:" + "-".repeat(18) + "}."));
        edge("The place of a part is the index of its first character in its template.", "behind parts of each length", () ->
                renders("1~2{a}{!a}{^a}{*b:}{?b:}{=b:}{h}", "12...", "1: 29", "a=.", "b="));
    }

    private static void simplePart(String sentence, char sign) {
        edge(sentence, "each name, and another character at each place", () -> {
            for (char name : NAMES.toCharArray()) {
                isWhole("{" + sign + name + "}");
                has("{" + sign + name + "}", TemplateScopes::parts, 1);
            }
            for (char no : NO_NAMES.toCharArray()) {
                reads("{" + sign + no + "a}", 2, false);
                if (no != '}') {
                    reads("{" + sign + "a" + no + "}", 3, false);
                }
            }
        });
    }

    private static void block(String sentence, char sign) {
        edge(sentence, "each name, and another character at each place", () -> {
            for (char name : NAMES.toCharArray()) {
                isWhole("{" + sign + name + ":}");
            }
            for (char no : NO_NAMES.toCharArray()) {
                reads("{" + sign + no + ":}", 2, false);
                if (no != ':') {
                    reads("{" + sign + "a" + no + "}", 3, false);
                }
            }
        });
        edge(sentence, "no part, one, and as many as there is room for", () -> {
            isWhole("{" + sign + "a:}");
            isWhole("{" + sign + "a:x}");
            isWhole("{" + sign + "a:" + "x".repeat(55) + "}");
            has("{" + sign + "a:" + "x".repeat(55) + "}", TemplateScopes::parts, 56);
        });
        edge(sentence, "parts of each kind within", () -> {
            isWhole("{" + sign + "a::~}{b}{!c}{^d}{*e:}{?f:}{=g:}}");
            reads("{" + sign + "a::~}{b}{!c}{^d}{*e:}{?f:}{=g:}}}", 34, false);
        });
    }

    private static void errors() {
        in("Templates");
        String sentence = "A character of a template is an error if no template, of any length, "
                + "begins with the characters before it and this character.";
        edge(sentence, "the first character", () -> {
            for (char code = 33; code <= 126; code++) {
                reads("" + code, code == '}' ? 0 : 1, code != '}' && code != '{' && code != '~');
            }
        });
        edge(sentence, "the last character of a full buffer", () -> {
            reads("x".repeat(59) + "}", 59, false);
            reads("x".repeat(56) + "{*a.", 59, false);
            reads("x".repeat(57) + "{ai", 59, false);
            reads("x".repeat(58) + "{:", 59, false);
            reads("x".repeat(57) + "{!i", 59, false);
        });
        edge(sentence, "a longer template than the buffer holds counts too", () -> {
            endsTooEarly("{?a:".repeat(15));
            endsTooEarly("x".repeat(56) + "{*a:");
            endsTooEarly("x".repeat(57) + "{*a");
            endsTooEarly("x".repeat(58) + "{*");
            endsTooEarly("x".repeat(59) + "{");
        });
        edge(sentence, "in a value, a longer template than a value holds counts too", () ->
                renders("{^a}", "", "5: 0 24", "a={?a:{?a:{?a:{?a:{?a:{?a:"));
        edge(sentence, "an end that has no beginning", () -> {
            reads("{?a:}}", 5, false);
            reads("{?a:{=b:}}}", 10, false);
            isWhole(blocks(12, ""));
            reads(blocks(11, "") + "}", 55, false);
        });
        edge(sentence, "an escaped end is none", () -> {
            endsTooEarly("{?a:~}");
            isWhole("{?a:~}}");
            isWhole("~{");
            reads("~{}", 2, false);
        });
        edge("(So it is not complete, if it has no error, and ends within a part.)", "behind each character of each part", () -> {
            for (String part : new String[] {"~x", "{a}", "{!a}", "{^a}", "{*a:x}", "{?a:x}", "{=a:x}", "{*a:{?b:~}}}"}) {
                for (int length = 1; length < part.length(); length++) {
                    endsTooEarly(part.substring(0, length));
                    endsTooEarly("x" + part.substring(0, length));
                }
                isWhole(part);
            }
        });
    }

    // ---- promises 1 to 4

    private static void newObject() {
        promise(1);
        String sentence = "Creates a desk without values, with an empty buffer, an empty output, no rendering so far, no snapshot.";
        edge(sentence, "no values", () -> {
            for (int variable = 0; variable < 8; variable++) {
                is("hasValue", new TemplateScopes().hasValue(variable), false);
            }
        });
        edge(sentence, "an empty buffer, which is a complete template", () -> {
            is("templateLength", new TemplateScopes().templateLength(), 0);
            is("isComplete", new TemplateScopes().isComplete(), true);
            is("render", new TemplateScopes().render(), 0);
        });
        edge(sentence, "an empty output", () -> {
            is("outputLength", new TemplateScopes().outputLength(), 0);
            refuses(INDEX, TemplateScopes::new, desk -> desk.outputCharacter(0));
        });
        edge(sentence, "no rendering so far", () -> {
            TemplateScopes desk = new TemplateScopes();
            is("hasFailed", desk.hasFailed(), false);
            is("failurePlaces", desk.failurePlaces(), 0);
            is("steps", desk.steps(), 0);
            is("what is counted", counts(desk), "0 0 0, 0 0 0");
            is("valueShare", desk.valueShare(), 0.0);
        });
        edge(sentence, "no snapshot", () -> refusesBare(STATE, TemplateScopes::new, TemplateScopes::restore));
        edge(sentence, "nothing to undo", () -> refusesBare(STATE, TemplateScopes::new, TemplateScopes::undo));
        edge(sentence, "also behind the use of another one", () -> {
            TemplateScopes other = laden(rendered("{a}{h}", "a=12"));
            is("digest", new TemplateScopes().digest() == other.digest(), false);
            is("all", allOf(new TemplateScopes()), List.of(new TemplateScopes().digest(), -1L));
        });
    }

    private static void append() {
        promise(2);
        edge("Appends a character to the buffer.", "at its end", () -> {
            is("output", output(rendered("abc")), "abc");
            TemplateScopes desk = desk("ab");
            desk.append('c');
            desk.render();
            is("output", output(desk), "abc");
        });
        edge("Appends a character to the buffer.", "behind an error too", () -> {
            TemplateScopes desk = desk("}");
            is("append", desk.append('}'), 2);
            desk.takeTemplate(0);
            is("the buffer", value(desk, 'a'), "}}");
        });
        edge("`code`: the character code, 33 to 126", "33 is the first", () -> {
            TemplateScopes desk = new TemplateScopes();
            is("append", desk.append(33), 1);
            desk.takeTemplate(0);
            is("the character", desk.valueCharacter(0, 0), 33);
        });
        edge("`code`: the character code, 33 to 126", "126 is the last", () -> {
            TemplateScopes desk = new TemplateScopes();
            is("append", desk.append(126), 1);
            desk.takeTemplate(0);
            is("the character", desk.valueCharacter(0, 0), 126);
        });
        edge("Returns the new length of the buffer.", "1 for the first character to 60 for the last", () -> {
            TemplateScopes desk = new TemplateScopes();
            for (int length = 1; length <= 60; length++) {
                is("append", desk.append('x'), length);
            }
        });
        edge("Throws `IllegalArgumentException` if code is not 33 to 126", "32", () ->
                refuses(ARGUMENT, () -> desk("ab"), desk -> desk.append(32)));
        edge("Throws `IllegalArgumentException` if code is not 33 to 126", "127", () ->
                refuses(ARGUMENT, () -> desk("ab"), desk -> desk.append(127)));
        edge("Throws `IllegalArgumentException` if code is not 33 to 126", "far from it", () -> {
            for (int code : NO_CODES) {
                refuses(ARGUMENT, TemplateScopes::new, desk -> desk.append(code));
            }
        });
        edge("Throws `IllegalStateException` if the buffer has 60 characters", "59 are not yet too many", () -> {
            TemplateScopes desk = desk("x".repeat(59));
            is("append", desk.append('x'), 60);
        });
        edge("Throws `IllegalStateException` if the buffer has 60 characters", "60 are", () -> {
            refuses(STATE, () -> desk("x".repeat(60)), desk -> desk.append('x'));
            refuses(STATE, () -> desk("{?a:".repeat(15)), desk -> desk.append('}'));
        });
        edge("Throws `IllegalStateException` if the buffer has 60 characters", "no more when it was cleared", () -> {
            TemplateScopes desk = desk("x".repeat(60));
            desk.clearTemplate();
            is("append", desk.append('y'), 1);
        });
        in("Exceptions");
        edge("If several exceptions apply, the one that is named first in the throws clause is thrown.",
                "append: no code, and a full buffer", () -> {
                    for (int code : NO_CODES) {
                        refuses(ARGUMENT, () -> desk("x".repeat(60)), desk -> desk.append(code));
                    }
                });
    }

    private static void clearTemplate() {
        promise(3);
        edge("Clears the buffer.", "behind it nothing of the old template is left", () -> {
            TemplateScopes desk = desk("{*a:{=b:x}");
            desk.clearTemplate();
            is("templateLength", desk.templateLength(), 0);
            is("firstError", desk.firstError(), 0);
            is("isComplete", desk.isComplete(), true);
            is("parts, depth, names, namesSet, loops", "" + desk.parts() + desk.depth() + desk.names()
                    + desk.namesSet() + desk.loops(), "00000");
            desk.append('y');
            desk.render();
            is("output", output(desk), "y");
        });
        edge("Clears the buffer.", "of an empty one, and of one with an error", () -> {
            TemplateScopes desk = desk("}");
            desk.clearTemplate();
            is("isComplete", desk.isComplete(), true);
            desk.clearTemplate();
            is("digest", desk.digest(), new TemplateScopes().digest());
        });
        edge("Clears the buffer.", "and nothing else", () -> {
            TemplateScopes desk = rendered("{a}{h}", "a=12");
            desk.clearTemplate();
            is("output, failure, value", output(desk) + ", " + failure(desk) + ", " + value(desk, 'a'), "12, 1: 3, 12");
        });
        edge("Returns the length that it had.", "0, 1 and 60", () -> {
            is("of 0", new TemplateScopes().clearTemplate(), 0);
            is("of 1", desk("x").clearTemplate(), 1);
            is("of 60", desk("x".repeat(60)).clearTemplate(), 60);
        });
        edge("Returns the length that it had.", "0 at the second time", () -> {
            TemplateScopes desk = desk("xyz");
            desk.clearTemplate();
            is("clearTemplate", desk.clearTemplate(), 0);
        });
    }

    private static void templateLength() {
        promise(4);
        edge("Returns the length of the buffer.", "0 to 60", () -> {
            TemplateScopes desk = new TemplateScopes();
            for (int length = 0; length <= 60; length++) {
                is("templateLength", desk.templateLength(), length);
                if (length < 60) {
                    desk.append('}');
                }
            }
        });
    }

    // ---- promises 5 to 11

    private static void firstError() {
        promise(5);
        edge("Finds the first error of the buffer.", "not a later one", () -> {
            reads("x}y}", 1, false);
            reads("{!}{", 2, false);
            reads("}".repeat(60), 0, false);
            reads("{{a}}", 1, false);
        });
        edge("Finds the first error of the buffer.", "not one of a value", () ->
                is("firstError", desk("{^a}", "a=}").firstError(), 4));
        edge("Returns the index of the first character that is an error", "0 and 59", () -> {
            reads("}", 0, false);
            reads("}" + "x".repeat(59), 0, false);
            reads("x".repeat(59) + "}", 59, false);
        });
        edge("the length of the buffer if there is none", "0 and 60, and when it ends within a part", () -> {
            reads("", 0, true);
            reads("x".repeat(60), 60, true);
            reads("{", 1, false);
            reads("{?a:" + "x".repeat(56), 60, false);
        });
    }

    private static void isComplete() {
        promise(6);
        edge("Returns whether the buffer is a complete template.", "true of none, and of 60 characters", () -> {
            is("of none", new TemplateScopes().isComplete(), true);
            is("of 60", desk(blocks(12, "")).isComplete(), true);
        });
        edge("Returns whether the buffer is a complete template.", "false with an error alone", () -> {
            is("at the beginning", desk("}").isComplete(), false);
            is("at the end", desk("x}").isComplete(), false);
            is("ahead of a whole part", desk("}{a}").isComplete(), false);
        });
        edge("Returns whether the buffer is a complete template.", "false without an error, when an end is missing", () -> {
            is("of a value", desk("{a").isComplete(), false);
            is("of a block", desk("{?a:{b}").isComplete(), false);
            is("of 60", desk("{?a:".repeat(12) + "}".repeat(11) + "x").isComplete(), false);
        });
        edge("Returns whether the buffer is a complete template.", "true also if it would fail", () ->
                is("isComplete", desk("{h}").isComplete(), true));
    }

    private static void parts() {
        promise(7);
        edge("Returns the number of parts of the template, those within others too.", "none, and 60", () -> {
            has("", TemplateScopes::parts, 0);
            has("x".repeat(60), TemplateScopes::parts, 60);
        });
        edge("Returns the number of parts of the template, those within others too.", "of each kind one", () -> {
            for (String part : new String[] {"x", "~x", "{a}", "{!a}", "{^a}", "{*a:}", "{?a:}", "{=a:}"}) {
                has(part, TemplateScopes::parts, 1);
                has(part + part, TemplateScopes::parts, 2);
            }
        });
        edge("Returns how many.", "those within 11 others", () -> {
            has(blocks(11, "12345"), TemplateScopes::parts, 16);
            has("{?a:x}y", TemplateScopes::parts, 3);
        });
        edge("Returns how many.", "not those of an included value", () ->
                is("parts", desk("{^a}", "a=123").parts(), 1));
        ofTheTemplateNow("Returns how many.", TemplateScopes::parts, 5, 1);
        edge("Throws `IllegalStateException` if it is not complete", "by an error or by its end", () ->
                refusesIncomplete(TemplateScopes::parts));
    }

    private static void depth() {
        promise(8);
        edge("Returns how deep parts lie within others: 1 for a template of plain characters, 0 without parts.", "0 and 1", () -> {
            has("", TemplateScopes::depth, 0);
            has("x", TemplateScopes::depth, 1);
            has("x".repeat(60), TemplateScopes::depth, 1);
        });
        edge("Returns how deep", "a block without parts is not deeper than a plain character", () -> {
            has("{*a:}", TemplateScopes::depth, 1);
            has("{*a:x}", TemplateScopes::depth, 2);
            has("{*a:{*a:}}", TemplateScopes::depth, 2);
        });
        edge("Returns how deep.", "12, the deepest that there is room for", () -> {
            has(blocks(12, ""), TemplateScopes::depth, 12);
            has(blocks(11, ""), TemplateScopes::depth, 11);
            has(blocks(11, "x"), TemplateScopes::depth, 12);
        });
        edge("Returns how deep.", "the deepest part, where it stands first, in the middle, or last", () -> {
            has("{?a:{?a:x}}{?a:}x", TemplateScopes::depth, 3);
            has("x{?a:{=a:x}}{?a:}", TemplateScopes::depth, 3);
            has("{?a:}x{?a:{*a:x}}", TemplateScopes::depth, 3);
        });
        ofTheTemplateNow("Returns how deep.", TemplateScopes::depth, 4, 1);
        edge("Throws `IllegalStateException` if it is not complete", "by an error or by its end", () ->
                refusesIncomplete(TemplateScopes::depth));
    }

    private static void namesOfTheTemplate() {
        promise(9);
        edge("Returns the names in the template.", "of each kind of part", () -> {
            for (String part : new String[] {"{h}", "{!h}", "{^h}", "{*h:}", "{?h:}", "{=h:}", "{?h:{=h:}}"}) {
                has(part, TemplateScopes::names, 128);
            }
        });
        edge("Returns the names in the template.", "none of plain characters and escapes", () -> {
            has("", TemplateScopes::names, 0);
            has("abkx~a~b~k~x:a", TemplateScopes::names, 0);
        });
        edge("Returns a mask: the bits 0 to 7 for a to h, 8 for k, 9 for x.", "each bit", () -> {
            for (int bit = 0; bit < 10; bit++) {
                has("{" + NAMES.charAt(bit) + "}", TemplateScopes::names, 1 << bit);
            }
        });
        edge("Returns a mask: the bits 0 to 7 for a to h, 8 for k, 9 for x.", "none, and all, those within others too", () -> {
            has("x", TemplateScopes::names, 0);
            has("{a}{!b}{^c}{*d:{e}}{?f:{?g:{?h:{=k:{x}}}}}", TemplateScopes::names, 1023);
        });
        edge("Returns a mask: the bits 0 to 7 for a to h, 8 for k, 9 for x.", "a name that is there twice", () ->
                has("{a}{a}{?a:{k}{k}}", TemplateScopes::names, 1 + 256));
        ofTheTemplateNow("Returns a mask: the bits 0 to 7 for a to h, 8 for k, 9 for x.", TemplateScopes::names, 1 + 2 + 4 + 8, 128);
        edge("Throws `IllegalStateException` if it is not complete", "by an error or by its end", () ->
                refusesIncomplete(TemplateScopes::names));
    }

    private static void namesSet() {
        promise(10);
        edge("Returns the names that are set in the template by settings.", "by no other kind of part", () -> {
            has("", TemplateScopes::namesSet, 0);
            has("a~a{a}{!b}{^c}{*d:}{?e:}{k}{x}", TemplateScopes::namesSet, 0);
        });
        edge("Returns the names that are set in the template by settings.", "not those within a setting", () ->
                has("{=a:{b}{*c:}}", TemplateScopes::namesSet, 1));
        edge("Returns a mask as that of names().", "each bit", () -> {
            for (int bit = 0; bit < 10; bit++) {
                has("{=" + NAMES.charAt(bit) + ":}", TemplateScopes::namesSet, 1 << bit);
            }
        });
        edge("Returns a mask as that of names().", "settings within each kind of block, and one name twice", () ->
                has("{*a:{=b:}}{?a:{=c:{=d:}}}{=x:}{=x:}", TemplateScopes::namesSet, 2 + 4 + 8 + 512));
        ofTheTemplateNow("Returns a mask as that of names().", TemplateScopes::namesSet, 2, 0);
        edge("Throws `IllegalStateException` if it is not complete", "by an error or by its end", () ->
                refusesIncomplete(TemplateScopes::namesSet));
    }

    private static void loops() {
        promise(11);
        edge("Returns the number of loops in the template.", "none of the other kinds", () -> {
            has("", TemplateScopes::loops, 0);
            has("*~*{a}{!a}{^a}{?a:}{=a:}", TemplateScopes::loops, 0);
        });
        edge("Returns how many.", "one, and 12 within one another", () -> {
            has("{*a:}", TemplateScopes::loops, 1);
            has(blocks(12, ""), TemplateScopes::loops, 12);
            has("{*a:}".repeat(12), TemplateScopes::loops, 12);
        });
        edge("Returns how many.", "those within conditions and settings too", () ->
                has("{?a:{*b:}}{=a:{*b:}}", TemplateScopes::loops, 2));
        ofTheTemplateNow("Returns how many.", TemplateScopes::loops, 1, 0);
        edge("Throws `IllegalStateException` if it is not complete", "by an error or by its end", () ->
                refusesIncomplete(TemplateScopes::loops));
    }
}
