import java.util.function.ToIntFunction;

/** The sections "Failures" and "What is counted" of the terms, and the promises 25 to 38. */
final class EdgesOfOutcomes extends Edges {
    private static final String DIGITS = "1234567890";
    private static final String A_20 = "a=" + "-".repeat(20);
    private static final String B_10 = "b=" + DIGITS;
    private static final String OUTPUT_200 = DIGITS.repeat(20);

    private EdgesOfOutcomes() {
    }

    static void all() {
        failures();
        reasonFive();
        whatIsCounted();
        render();
        outputLength();
        outputCharacter();
        hasFailed();
        failureReason();
        failurePlaces();
        failurePlace();
        steps();
        printedByKinds();
        renderings();
        failuresSoFar();
        printed();
    }

    /** Renders a template with an output of 200 characters of values, and more behind it. */
    private static TemplateScopes filled(String more) {
        return rendered("{*a:{b}}" + more, A_20, B_10, "c=5");
    }

    /** Renders another template. */
    private static TemplateScopes then(TemplateScopes desk, String template) {
        write(desk, template);
        desk.render();
        return desk;
    }

    private static void failures() {
        in("Failures");
        String places = "A failure has a reason, and one or more places, the outermost first: for each included value within which it happened "
                + "its place, in the template in which it stands, and then the place of the part that failed, in its template.";
        edge(places, "one place, without an included value", () -> {
            renders("{h}", "", "1: 0");
            renders(".{!h}", ".", "1: 1");
        });
        edge(places, "two to five places, each another one", () -> {
            renders("{^a}", ".", "1: 0 1", "a=.{h}");
            renders("{^a}", "...", "1: 0 1 2", "a=.{^b}", "b=..{h}");
            renders("{^a}", "......", "1: 0 1 2 3", "a=.{^b}", "b=..{^c}", "c=...{h}");
            renders("{^a}", "..........", "1: 0 1 2 3 4", "a=.{^b}", "b=..{^c}", "c=...{^d}", "d=....{h}");
            renders("{^a}", "..........", "4: 0 1 2 3 4", "a=.{^b}", "b=..{^c}", "c=...{^d}", "d=....{^e}", "e=");
        });
        edge(places, "of a part within blocks its own place, not that of a block", () -> {
            renders("{*a:{?a:{=b:1{h}}}}", "", "1: 13", "a=p");
            renders(".{^b}", "..", "1: 1 9", "a=p", "b={*a:{?a:.{h}}}");
        });
        edge(places, "of an included value within blocks its own place too", () ->
                renders("{*a:{^b}}", "", "1: 4 8", "a=p", "b={?a:{*a:{h}}}"));
        edge(places, "an included value that was rendered ahead has none", () -> {
            renders("{^a}{^a}{h}", "22", "1: 8", "a=2");
            renders("{^b}{^c}", "2.", "1: 4 1", "a=2", "b={^a}", "c=.{h}");
        });
        String prints = "(If a character cannot be printed, that is the part which prints it.)";
        edge(prints, "reason 2: a plain character, an escape, a value, in blocks and included values", () -> {
            renders("{*a:{b}}{?a:.}", OUTPUT_200, "2: 12", A_20, B_10);
            renders("{*a:{b}}{*a:~.}", OUTPUT_200, "2: 12", A_20, B_10);
            renders("{*a:{b}}{^c}", OUTPUT_200, "2: 8 4", A_20, B_10, "c={?a:{!b}}");
            renders("{*c:{*a:{b}}}", OUTPUT_200, "2: 8", A_20, B_10, "c=12");
        });
        edge(prints, "reason 6: the part within the setting, not the setting", () -> {
            renders("{=c:{a}.}", "", "6: 7", "a=" + LETTERS_24);
            renders("{=c:{a}{?a:~.}}", "", "6: 11", "a=" + LETTERS_24);
            renders("{=c:{*a:{k}{x}}}", "", "6: 8", "a=" + LETTERS_24);
            renders("{=c:{^d}}", "", "6: 4 3", "a=" + LETTERS_24, "d={a}{!a}");
        });
        edge(prints, "a value that was set is printed by the part that prints it", () ->
                renders("{=c:{a}}{=d:{c}{c}}", "", "6: 15", "a=" + LETTERS_24));
    }

    private static void reasonFive() {
        in("Failures");
        String sentence = "For the reason 5 (the part that failed is the included value itself, told once) there is one place more: "
                + "the index of the first error of the value, or its length, if it has no error.";
        edge(sentence, "an error at 0, and at 23, the last character", () -> {
            renders("..{^a}", "..", "5: 2 0", "a=}");
            renders("..{^a}", "..", "5: 2 0", "a=}" + LETTERS_24.substring(1));
            renders("..{^a}", "..", "5: 2 23", "a=" + LETTERS_24.substring(1) + "}");
        });
        edge(sentence, "the first of two errors", () ->
                renders("{^a}", "", "5: 0 1", "a=.}.}"));
        edge(sentence, "no error: the length, 1 and 24", () -> {
            renders("{^a}", "", "5: 0 1", "a=~");
            renders("{^a}", "", "5: 0 24", "a=" + LETTERS_24.substring(1) + "{");
        });
        edge(sentence, "five places at the fourth level", () ->
                renders("{^a}", "......", "5: 0 1 2 3 4", "a=.{^b}", "b=..{^c}", "c=...{^d}", "d=....}"));
        edge(sentence, "of a value that is set, and of a character of a loop", () -> {
            renders("{=a:~{~!}{^a}", "", "5: 9 2");
            renders("{*a:{^x}}", "", "5: 4 1", "a={");
        });
    }

    private static void whatIsCounted() {
        in("What is counted");
        String sentence = "Of the characters that a rendering prints to the output it is counted how many are of plain characters, "
                + "how many of escapes, and how many of values (of all kinds of parts by the name of which a value is printed; "
                + "what an included value prints is counted by its parts).";
        edge(sentence, "none, and of one kind alone", () -> {
            is("none", counts(rendered("")), "0 0 0, 1 0 0");
            is("plain", counts(rendered("x".repeat(60))), "60 0 0, 1 0 60");
            is("escapes", counts(rendered("~{".repeat(30))), "0 30 0, 1 0 30");
            is("values", counts(rendered("{a}{a}", "a=~!")), "0 0 4, 1 0 4");
        });
        edge(sentence, "values: the escaped ones with each \"~\" that is printed ahead", () ->
                is("counts", counts(rendered("{!a}", "a=p{}~")), "0 0 7, 1 0 7"));
        edge(sentence, "values: those of k and x, and those that are set", () -> {
            is("of a loop", counts(rendered("{*a:{k}{!x}}", "a=p~")), "0 0 5, 1 0 5");
            is("set", counts(rendered("{=h:1~2}{h}{=k:3}{k}")), "0 0 3, 1 0 3");
        });
        edge("what an included value prints is counted by its parts", "of each kind", () -> {
            is("counts", counts(rendered("{^a}", "a=12~3{b}{!b}", "b=4~")), "2 1 5, 1 0 8");
            is("two levels", counts(rendered("{^a}", "a={^b}~{", "b=12")), "2 1 0, 1 0 3");
        });
        edge("Of the characters that a rendering prints to the output", "not those to the text of a setting", () -> {
            is("counts", counts(rendered("{=h:1~2{a}{!a}{^a}}", "a=34")), "0 0 0, 1 0 0");
            is("within an included value", counts(rendered("{^a}.", "a={=h:1~2{b}}", "b=3")), "1 0 0, 1 0 1");
        });
        edge("Of the characters that a rendering prints to the output", "ahead of a failure too", () -> {
            is("reason 1", counts(rendered("1~2{a}{h}3", "a=4")), "1 1 1, 1 1 3");
            is("within a setting", counts(rendered("1~2{=a:3{h}}")), "1 1 0, 1 1 2");
        });
        edge("Of the characters that a rendering prints to the output", "those that are not printed are not counted", () -> {
            for (String part : new String[] {".", "~.", "{c}", "{!c}", "{^c}"}) {
                is("201 with " + part, counts(filled(part)), "0 0 200, 1 1 200");
            }
        });
        edge("Of the characters that a rendering prints to the output", "the 200th, of each kind", () -> {
            String[] values = {"a=" + "-".repeat(19), B_10, "c=123456789", "d=5"};
            is("plain", counts(rendered("{*a:{b}}{c}.", values)), "1 0 199, 1 0 200");
            is("escape", counts(rendered("{*a:{b}}{c}~.", values)), "0 1 199, 1 0 200");
            is("value", counts(rendered("{*a:{b}}{c}{d}", values)), "0 0 200, 1 0 200");
            is("the first of two", counts(rendered("{*a:{b}}{c}{b}", values)), "0 0 200, 1 1 200");
        });
        edge("Of the characters that a rendering prints to the output", "at the next rendering from 0 again", () ->
                is("counts", counts(then(rendered("1~2{a}", "a=3"), "")), "0 0 0, 2 0 3"));
    }

    // ---- promises 25 to 27

    private static void render() {
        promise(25);
        edge("Renders the template in the buffer, which stays; the output is what is printed.", "the buffer stays, also when it fails", () -> {
            TemplateScopes desk = rendered("1{h}");
            is("templateLength", desk.templateLength(), 4);
            is("again", desk.render(), 1);
            desk.takeTemplate(0);
            is("the buffer", value(desk, 'a'), "1{h}");
        });
        edge("the output is what is printed.", "in place of what was printed before", () -> {
            TemplateScopes desk = rendered("1234");
            is("a shorter one", output(then(desk, "56")), "56");
            is("none", output(then(desk, "")), "");
            is("a longer one", output(then(desk, "789")), "789");
        });
        edge("the output is what is printed.", "the values stay", () -> {
            TemplateScopes desk = rendered("{=a:2}{=b:3}{*a:{=c:4}}", "a=1", "c=5");
            is("values", value(desk, 'a') + value(desk, 'b') + value(desk, 'c'), "1none5");
        });
        edge("Returns the length of the output.", "0, 1 and 200, with a failure too", () -> {
            is("0", desk("").render(), 0);
            is("0 with a failure", desk("{h}").render(), 0);
            is("1", desk("x").render(), 1);
            is("1 with a failure", desk("x{h}").render(), 1);
            is("200", desk("{*a:{b}}", A_20, B_10).render(), 200);
            is("200 with a failure", desk("{*a:{b}}.", A_20, B_10).render(), 200);
        });
        edge("Throws `IllegalStateException` if the template is not complete", "by an error or by its end; the latest rendering stays", () -> {
            for (String template : INCOMPLETE) {
                refuses(STATE, () -> {
                    TemplateScopes desk = rendered("1{^a}", "a=2{h}");
                    write(desk, template);
                    return desk;
                }, TemplateScopes::render);
            }
        });
        edge("Throws `IllegalStateException` if the template is not complete", "though the beginning could be rendered", () ->
                refuses(STATE, () -> desk("12{a}}", "a=1"), TemplateScopes::render));
    }

    private static void outputLength() {
        promise(26);
        edge("Returns the length of the output.", "0 without a rendering, 0, 1, and 200", () -> {
            is("without", desk("x").outputLength(), 0);
            is("0", rendered("").outputLength(), 0);
            is("1", rendered("x").outputLength(), 1);
            is("200", filled("").outputLength(), 200);
            is("200 with a failure", filled(".").outputLength(), 200);
        });
        edge("Returns the length of the output.", "not that of what would be printed", () -> {
            TemplateScopes desk = rendered("x");
            write(desk, "yz");
            is("wouldPrint", desk.wouldPrint(), 2);
            is("outputLength", desk.outputLength(), 1);
        });
    }

    private static void outputCharacter() {
        promise(27);
        edge("Returns a character of the output.", "each of 200", () ->
                is("output", output(filled("")), OUTPUT_200));
        edge("`place`: from 0", "0 is the first place", () ->
                is("outputCharacter", rendered("pq").outputCharacter(0), (int) 'p'));
        edge("Returns its code.", "the last place", () -> {
            is("of 2", rendered("pq").outputCharacter(1), (int) 'q');
            is("of 200", filled("").outputCharacter(199), (int) '0');
        });
        String sentence = "Throws `IndexOutOfBoundsException` if there is no such place";
        edge(sentence, "the place behind the last", () -> {
            refuses(INDEX, () -> rendered("pq"), desk -> desk.outputCharacter(2));
            refuses(INDEX, () -> filled(""), desk -> desk.outputCharacter(200));
        });
        edge(sentence, "the place ahead of the first", () ->
                refuses(INDEX, () -> rendered("pq"), desk -> desk.outputCharacter(-1)));
        edge(sentence, "no place of an empty output", () -> {
            refuses(INDEX, () -> desk("x"), desk -> desk.outputCharacter(0));
            refuses(INDEX, () -> rendered("{h}"), desk -> desk.outputCharacter(0));
        });
        edge(sentence, "a place of a longer output that was there before", () ->
                refuses(INDEX, () -> then(rendered("pqr"), "p"), desk -> desk.outputCharacter(1)));
        edge(sentence, "far from it", () -> {
            refuses(INDEX, () -> rendered("pq"), desk -> desk.outputCharacter(Integer.MAX_VALUE));
            refuses(INDEX, () -> rendered("pq"), desk -> desk.outputCharacter(Integer.MIN_VALUE));
        });
    }

    // ---- promises 28 to 32

    private static void hasFailed() {
        promise(28);
        edge("Returns whether the latest rendering failed; false without one.", "without one, though it would fail", () -> {
            TemplateScopes desk = desk("{h}");
            is("wouldFail", desk.wouldFail(), 1);
            is("hasFailed", desk.hasFailed(), false);
        });
        edge("Returns whether the latest rendering failed; false without one.", "the latest one of two", () -> {
            is("the first one failed", then(rendered("{h}"), "x").hasFailed(), false);
            is("the second one failed", then(rendered("x"), "{h}").hasFailed(), true);
            is("the first one failed, the second one is empty", then(rendered("{h}"), "").hasFailed(), false);
        });
        edge("Returns whether the latest rendering failed; false without one.", "for each reason", () -> {
            for (String template : new String[] {"{h}", "{*a:{a}{a}{a}}", "{*a:{*a:{?a:}}}", "{^b}", "{^c}", "{=d:{a}{a}}"}) {
                is(template, rendered(template, "a=" + LETTERS_24, "b={^b}", "c=}").hasFailed(), true);
            }
        });
        edge("Returns whether the latest rendering failed; false without one.", "it stays when values and the buffer change", () -> {
            TemplateScopes desk = rendered("{h}");
            desk.emptyValue(7);
            desk.clearTemplate();
            desk.wouldPrint();
            is("hasFailed", desk.hasFailed(), true);
        });
    }

    private static void failureReason() {
        promise(29);
        edge("Returns the reason for which the latest rendering failed.", "the latest one of two", () ->
                is("failureReason", then(rendered("{h}", "a=}"), "{^a}{h}").failureReason(), 5));
        edge("Returns the reason, 1 to 6.", "each of them", () -> {
            String[] templates = {"{h}", "{*a:{a}{a}{a}}", "{*a:{*a:{?a:}}}", "{^b}", "{^c}", "{=d:{a}{a}}"};
            for (int reason = 1; reason <= 6; reason++) {
                TemplateScopes desk = rendered(templates[reason - 1], "a=" + LETTERS_24, "b={^b}", "c=}");
                is("failureReason", desk.failureReason(), reason);
            }
        });
        String sentence = "Throws `IllegalStateException` if it did not fail";
        edge(sentence, "without a rendering", () ->
                refuses(STATE, () -> desk("{h}"), TemplateScopes::failureReason));
        edge(sentence, "the latest one did not, though the one before did", () ->
                refuses(STATE, () -> then(rendered("{h}"), "x"), TemplateScopes::failureReason));
        edge(sentence, "the one that did is undone", () ->
                refuses(STATE, () -> {
                    TemplateScopes desk = rendered("{h}");
                    desk.undo();
                    return desk;
                }, TemplateScopes::failureReason));
    }

    private static void failurePlaces() {
        promise(30);
        String sentence = "Returns the number of places of the failure of the latest rendering, 0 if it did not fail.";
        edge(sentence, "0 without a rendering, and of one that did not fail", () -> {
            is("without", desk("{h}").failurePlaces(), 0);
            is("it did not fail", rendered("x").failurePlaces(), 0);
            is("the one before did", then(rendered("{^a}", "a={h}"), "x").failurePlaces(), 0);
        });
        edge(sentence, "1 to 5", () -> {
            String[] values = {"a={^b}", "b={^c}", "c={^d}", "d={h}"};
            is("1", rendered("{h}", values).failurePlaces(), 1);
            is("2", rendered("{^d}", values).failurePlaces(), 2);
            is("3", rendered("{^c}", values).failurePlaces(), 3);
            is("4", rendered("{^b}", values).failurePlaces(), 4);
            is("5", rendered("{^a}", values).failurePlaces(), 5);
        });
        edge(sentence, "for the reason 5 one more", () -> {
            is("2", rendered("{^d}", "d=}").failurePlaces(), 2);
            is("5", rendered("{^a}", "a={^b}", "b={^c}", "c={^d}", "d=}").failurePlaces(), 5);
        });
        edge(sentence, "fewer than at the rendering before", () ->
                is("1", then(rendered("{^a}", "a={^b}", "b={h}"), "{h}").failurePlaces(), 1));
    }

    private static void failurePlace() {
        promise(31);
        String[] values = {"a=.{^b}", "b=..{^c}", "c=...{^d}", "d=....{h}"};
        edge("Returns a place of the failure of the latest rendering.", "the latest one of two", () ->
                is("failurePlace", then(rendered("{^a}", values), ".....{h}").failurePlace(0), 5));
        edge("`number`: 0 for the outermost one", "0 of one, and of five", () -> {
            is("of one", rendered(".{h}").failurePlace(0), 1);
            is("of five", rendered("{?h:}{^a}", values).failurePlace(0), 5);
        });
        edge("Returns the place.", "4 is the last of five, and 1 of two", () -> {
            is("4", rendered("{^a}", values).failurePlace(4), 4);
            is("1", rendered("{^d}", values).failurePlace(1), 4);
        });
        String sentence = "Throws `IndexOutOfBoundsException` if there is no such place";
        edge(sentence, "the number behind the last of one, of two, and of five", () -> {
            refuses(INDEX, () -> rendered("{h}"), desk -> desk.failurePlace(1));
            refuses(INDEX, () -> rendered("{^d}", values), desk -> desk.failurePlace(2));
            refuses(INDEX, () -> rendered("{^a}", values), desk -> desk.failurePlace(5));
        });
        edge(sentence, "the number ahead of the first", () ->
                refuses(INDEX, () -> rendered("{^a}", values), desk -> desk.failurePlace(-1)));
        edge(sentence, "0 without a rendering, and of one that did not fail", () -> {
            refuses(INDEX, () -> desk("{h}"), desk -> desk.failurePlace(0));
            refuses(INDEX, () -> rendered("x"), desk -> desk.failurePlace(0));
        });
        edge(sentence, "a place of the rendering before", () -> {
            refuses(INDEX, () -> then(rendered("{^a}", values), "x"), desk -> desk.failurePlace(0));
            refuses(INDEX, () -> then(rendered("{^a}", values), "{h}"), desk -> desk.failurePlace(1));
        });
        edge(sentence, "far from it", () -> {
            refuses(INDEX, () -> rendered("{h}"), desk -> desk.failurePlace(Integer.MAX_VALUE));
            refuses(INDEX, () -> rendered("{h}"), desk -> desk.failurePlace(Integer.MIN_VALUE));
        });
    }

    private static void steps() {
        promise(32);
        edge("Returns the steps of the latest rendering, 0 without one.", "0 without one, and of an empty template", () -> {
            is("without", desk("x").steps(), 0);
            is("of none", rendered("").steps(), 0);
        });
        edge("Returns the steps of the latest rendering, 0 without one.", "1, 199 and 200", () -> {
            String a22 = "a=" + "-".repeat(22);
            is("1", rendered("x").steps(), 1);
            is("199", rendered("{*a:123456789}", a22).steps(), 199);
            is("200", rendered("{*a:123456789}.", a22).steps(), 200);
            is("200 with a failure", rendered("{*a:123456789}..", a22).steps(), 200);
        });
        edge("Returns the steps of the latest rendering, 0 without one.", "not those of the one before, and of what would be", () -> {
            TemplateScopes desk = then(rendered("1234"), "56");
            write(desk, "789");
            desk.wouldPrint();
            desk.wouldPrintByText();
            is("steps", desk.steps(), 2);
        });
    }

    // ---- promises 33 to 38

    private static void printedByKinds() {
        String mixed = "12~34{a}{!a}{^b}{=d:5~6{a}}";
        String[] values = {"a={7", "b=8~9{c}", "c=10"};
        kind(33, "Returns the characters of the output that are of plain characters.", TemplateScopes::plainPrinted, "1", "~1{c}{!c}",
                rendered(mixed, values).plainPrinted(), 4);
        kind(34, "Returns the characters of the output that are of escapes.", TemplateScopes::escapesPrinted, "~1", "1{c}{!c}",
                rendered(mixed, values).escapesPrinted(), 2);
        kind(35, "Returns the characters of the output that are of values.", TemplateScopes::valuesPrinted, "{c}", "1~1",
                rendered(mixed, values).valuesPrinted(), 7);
    }

    /** One kind of characters; a part that prints one of it, and those that print others, with c a value of one character. */
    private static void kind(int number, String sentence, ToIntFunction<TemplateScopes> call,
            String part, String others, int mixed, int due) {
        promise(number);
        edge(sentence, "0 without a rendering, of an empty template, and of the other kinds", () -> {
            is("without", call.applyAsInt(desk(part, "c=1")), 0);
            is("of none", call.applyAsInt(rendered("", "c=1")), 0);
            is("of the others", call.applyAsInt(rendered(others, "c=1")), 0);
        });
        edge(sentence, "1, and as many as there is room for", () -> {
            is("1", call.applyAsInt(rendered(part, "c=1")), 1);
            is("of 60", call.applyAsInt(rendered(part.repeat(60 / part.length()), "c=1")), 60 / part.length());
        });
        edge(sentence, "among those of the others", () -> is("of all kinds", mixed, due));
        edge(sentence, "ahead of a failure, and from 0 again", () -> {
            TemplateScopes desk = rendered(part + "{h}" + part, "c=1");
            is("ahead of a failure", call.applyAsInt(desk), 1);
            is("the latest one", call.applyAsInt(then(desk, "{h}")), 0);
        });
    }

    /** Nothing that is not a rendering counts as one. */
    private static void countsNothing(TemplateScopes desk, ToIntFunction<TemplateScopes> call) {
        int before = call.applyAsInt(desk);
        write(desk, "1{^a}{h}");
        give(desk, 'a', "2~{");
        desk.wouldPrint();
        desk.wouldPrintByText();
        desk.wouldFail();
        desk.wouldPrintWithout(0);
        desk.alikeBehindEscaping(0);
        desk.digest();
        is("behind what is no rendering", call.applyAsInt(desk), before);
        write(desk, "}");
        try {
            desk.render();
        } catch (IllegalStateException e) {
            is("behind one that is refused", call.applyAsInt(desk), before);
        }
    }

    private static void renderings() {
        promise(36);
        String sentence = "Returns the number of renderings so far.";
        edge(sentence, "0 at first, and one more for each", () -> {
            TemplateScopes desk = desk("");
            for (int number = 0; number <= 20; number++) {
                is("renderings", desk.renderings(), number);
                desk.render();
            }
        });
        edge(sentence, "those that failed too", () ->
                is("renderings", then(then(rendered("{h}"), "x"), "{h}").renderings(), 3));
        edge(sentence, "no other calls, and none that is refused", () ->
                countsNothing(rendered("x"), TemplateScopes::renderings));
    }

    private static void failuresSoFar() {
        promise(37);
        String sentence = "Returns the number of renderings so far that failed.";
        edge(sentence, "0 at first, and one more for each", () -> {
            TemplateScopes desk = desk("{h}");
            for (int number = 0; number <= 20; number++) {
                is("failures", desk.failures(), number);
                desk.render();
            }
        });
        edge(sentence, "not those that did not fail", () -> {
            is("none", then(rendered("x"), "").failures(), 0);
            is("one of three", then(then(rendered("x"), "{h}"), "y").failures(), 1);
        });
        edge(sentence, "no other calls, and none that is refused", () ->
                countsNothing(rendered("{h}"), TemplateScopes::failures));
    }

    private static void printed() {
        promise(38);
        String sentence = "Returns the number of characters that all renderings so far printed to the output.";
        edge(sentence, "0 at first, and of renderings without an output", () -> {
            is("at first", desk("x").printed(), 0);
            is("without an output", then(rendered(""), "{h}").printed(), 0);
        });
        edge(sentence, "of all renderings, those that failed too", () ->
                is("printed", then(then(rendered("1"), "23{h}4"), "567").printed(), 6));
        edge(sentence, "200 of each", () -> {
            TemplateScopes desk = filled(".");
            is("of one", desk.printed(), 200);
            desk.render();
            is("of two", desk.printed(), 400);
        });
        edge(sentence, "to the output, not to the text of a setting", () -> {
            is("of a setting", rendered("1{=a:23}").printed(), 1);
            is("of a setting that is printed", rendered("1{=a:23}{a}").printed(), 3);
        });
        edge(sentence, "no other calls, and none that is refused", () ->
                countsNothing(rendered("123"), TemplateScopes::printed));
    }
}
