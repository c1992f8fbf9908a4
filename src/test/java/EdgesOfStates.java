import java.util.ArrayList;
import java.util.List;
import java.util.function.Consumer;
import java.util.function.IntConsumer;
import java.util.function.Supplier;
import java.util.function.ToIntFunction;

/** The sections "Undo, the snapshot" and "Exceptions" of the terms, and the promises 39 to 48. */
final class EdgesOfStates extends Edges {
    private static final String DIGITS = "1234567890";
    private static final String A_20 = "a=" + "-".repeat(20);
    private static final String B_10 = "b=" + DIGITS;
    private static final String COMPLETE_CLAUSE = "Throws `IllegalStateException` if the template is not complete";

    /** A call by its promise, and what of it is tested. */
    private record Call(int promise, String name, Consumer<TemplateScopes> make) {
    }

    /** Each of them changes the desk of used(). */
    private static final List<Call> UNDOABLE = List.of(
            new Call(12, "appendValue", desk -> desk.appendValue(0, 'z')),
            new Call(12, "appendValue to none", desk -> desk.appendValue(6, 'z')),
            new Call(13, "removeValue", desk -> desk.removeValue(0)),
            new Call(14, "emptyValue", desk -> desk.emptyValue(0)),
            new Call(14, "emptyValue of none", desk -> desk.emptyValue(6)),
            new Call(15, "copyValue", desk -> desk.copyValue(0, 1)),
            new Call(15, "copyValue to none", desk -> desk.copyValue(6, 0)),
            new Call(16, "escapeValue", desk -> desk.escapeValue(0)),
            new Call(17, "takeOutput", desk -> desk.takeOutput(0)),
            new Call(18, "takeTemplate", desk -> desk.takeTemplate(0)),
            new Call(25, "render", TemplateScopes::render),
            new Call(45, "restore", TemplateScopes::restore));

    /** None of them changes the desk of unchanged(). */
    private static final List<Call> UNDOABLE_WITHOUT_CHANGE = List.of(
            new Call(14, "emptyValue of an empty one", desk -> desk.emptyValue(1)),
            new Call(15, "copyValue to itself", desk -> desk.copyValue(0, 0)),
            new Call(15, "copyValue of an equal one", desk -> desk.copyValue(0, 2)),
            new Call(16, "escapeValue without a special character", desk -> desk.escapeValue(0)),
            new Call(16, "escapeValue of an empty one", desk -> desk.escapeValue(1)),
            new Call(17, "takeOutput that is the value already", desk -> desk.takeOutput(0)),
            new Call(18, "takeTemplate that is the value already", desk -> desk.takeTemplate(0)),
            new Call(45, "restore of the same state", TemplateScopes::restore));

    private EdgesOfStates() {
    }

    static void all() {
        undoableCalls();
        whatIsSaved();
        whatIsNoPart();
        atMostSix();
        otherCalls();
        exceptions();
        lastCall();
        wouldPrint();
        wouldPrintByText();
        wouldFail();
        wouldPrintWithout();
        undo();
        keep();
        restore();
        savedStates();
        valueShare();
        digest();
        digestOfValues();
    }

    private static void undoAll(TemplateScopes desk) {
        while (desk.savedStates() > 0) {
            desk.undo();
        }
    }

    /** The same state, with it as the snapshot, and one saved state. */
    private static TemplateScopes kept(TemplateScopes desk) {
        desk.keep();
        undoAll(desk);
        desk.restore();
        return desk;
    }

    /** A rendering that failed within an included value, another template, and a snapshot of another state; one saved state. */
    private static TemplateScopes used() {
        TemplateScopes desk = kept(rendered("1~2{^b}3", "a={~p", "b=4{a}{h}"));
        desk.emptyValue(2);
        desk.keep();
        desk.undo();
        write(desk, "{*a:{k}}");
        return desk;
    }

    private static TemplateScopes unchanged() {
        return kept(rendered("pq", "a=pq", "b=", "c=pq"));
    }

    /** The values of h in the saved states, the latest first; the desk is used up then. */
    private static String savedValues(TemplateScopes desk) {
        StringBuilder told = new StringBuilder();
        while (desk.savedStates() > 0) {
            desk.undo();
            told.append(value(desk, 'h')).append(' ');
        }
        return told.toString();
    }

    /** Six saved states that are told by the value of h: from none to "0123"; it is "01234" then. */
    private static TemplateScopes withSix(TemplateScopes desk) {
        desk.emptyValue(7);
        for (int code = '0'; code <= '4'; code++) {
            desk.appendValue(7, code);
        }
        return desk;
    }

    // ---- undo and the snapshot: what is saved, and when

    private static void undoableCalls() {
        for (Call call : UNDOABLE) {
            promise(call.promise());
            edge("Undoable.", call.name() + " saves one state, that from before it", () -> {
                savesOneState(EdgesOfStates::used, call);
                TemplateScopes desk = used();
                call.make().accept(desk);
                is("the desk is another one", desk.digest() == used().digest(), false);
            });
        }
        for (Call call : UNDOABLE_WITHOUT_CHANGE) {
            promise(call.promise());
            edge("Undoable.", call.name() + ", which changes nothing, saves one state too", () -> {
                savesOneState(EdgesOfStates::unchanged, call);
                TemplateScopes desk = withSix(unchanged());
                call.make().accept(desk);
                is("the saved states", savedValues(desk).startsWith("01234 0123 "), true);
            });
        }
        in("Undo, the snapshot");
        for (Call call : UNDOABLE) {
            edge("Each method that is marked \"undoable\" and does not throw an exception saves the state from before it",
                    call.name() + " with six saved states", () -> {
                        TemplateScopes desk = withSix(used());
                        call.make().accept(desk);
                        is("savedStates", desk.savedStates(), 6);
                        is("the saved states", savedValues(desk), "01234 0123 012 01 0  ");
                    });
        }
        edge("(also if it changes nothing)", "with six saved states", () -> {
            for (Call call : UNDOABLE_WITHOUT_CHANGE.subList(0, UNDOABLE_WITHOUT_CHANGE.size() - 1)) {
                TemplateScopes desk = withSix(unchanged());
                call.make().accept(desk);
                is(call.name(), savedValues(desk), "01234 0123 012 01 0  ");
            }
        });
    }

    private static void savesOneState(Supplier<TemplateScopes> made, Call call) {
        TemplateScopes desk = made.get();
        call.make().accept(desk);
        is("savedStates", desk.savedStates(), made.get().savedStates() + 1);
        desk.undo();
        is("all that the desk tells behind undo", allOf(desk), allOf(made.get()));
    }

    /** What undo and restore must bring back: made first, and then something else. */
    private static void bringsBack(String what, Supplier<TemplateScopes> made, Consumer<TemplateScopes> something) {
        String sentence = ": the values, the output, the failure, and what is counted.";
        edge(sentence, what + ", by undo", () -> {
            TemplateScopes desk = kept(made.get());
            int saved = desk.savedStates();
            something.accept(desk);
            while (desk.savedStates() > saved) {
                desk.undo();
            }
            tellsAs(desk, made.get());
        });
        edge(sentence, what + ", by restore", () -> {
            TemplateScopes desk = kept(made.get());
            something.accept(desk);
            int saved = desk.savedStates();
            desk.restore();
            is("savedStates", desk.savedStates(), saved + 1);
            tellsAs(desk, made.get());
        });
    }

    /** The desk must tell the same of its state as another one, whichever buffer and saved states they have. */
    private static void tellsAs(TemplateScopes desk, TemplateScopes due) {
        is("output", output(desk), output(due));
        is("failure", failure(desk), failure(due));
        is("what is counted", counts(desk), counts(due));
        is("steps", desk.steps(), due.steps());
        for (char name = 'a'; name <= 'h'; name++) {
            is("value of " + name, value(desk, name), value(due, name));
        }
    }

    private static void whatIsSaved() {
        in("Undo, the snapshot");
        bringsBack("the values of each variable, of 24, empty ones, and none", () -> desk("", "a=" + LETTERS_24, "b=", "d=1",
                "e=" + LETTERS_24.substring(1), "f=p", "h=~"), desk -> {
                    desk.copyValue(2, 0);
                    desk.removeValue(0);
                    desk.copyValue(7, 1);
                    desk.appendValue(1, 'x');
                });
        bringsBack("a value where there is none, and none where there is one", () -> desk("", "a=1"), desk -> {
            desk.emptyValue(1);
            desk.removeValue(0);
            desk.appendValue(7, 'x');
        });
        bringsBack("an empty output, without a rendering", () -> desk(""), desk -> {
            write(desk, "1~2{=a:3}{a}{h}");
            desk.render();
        });
        bringsBack("an output of 200 characters", () -> rendered("{*a:{b}}.", A_20, B_10), desk -> {
            write(desk, "x");
            desk.render();
        });
        bringsBack("an output of each kind of character, with a failure of two places", () -> rendered("1~2{^b}", "a=34", "b=5{a}{h}"), desk -> {
            write(desk, "67{a}{h}");
            desk.render();
            desk.clearTemplate();
            desk.render();
        });
        bringsBack("a failure of five places, behind one of one place", () -> rendered("{?h:}{^a}", "a=.{^b}", "b=..{^c}", "c=...{^d}", "d=....}"),
                desk -> {
                    write(desk, "{h}");
                    desk.render();
                });
        bringsBack("no failure, behind one", () -> rendered("x"), desk -> {
            write(desk, "{^h}");
            desk.render();
        });
        bringsBack("renderings and failures of which some are undone", () -> {
            TemplateScopes desk = rendered("12{h}");
            desk.render();
            return desk;
        }, desk -> {
            desk.render();
            desk.render();
            write(desk, "3");
            desk.render();
        });
    }

    private static void whatIsNoPart() {
        in("Undo, the snapshot");
        String sentence = "(The buffer, the saved states and the snapshot are no part of it.)";
        edge(sentence, "the buffer stays as it is, by undo", () -> {
            TemplateScopes desk = desk("12");
            desk.emptyValue(0);
            desk.append('3');
            desk.emptyValue(1);
            write(desk, "45");
            desk.undo();
            desk.undo();
            desk.takeTemplate(2);
            is("the buffer", value(desk, 'c'), "45");
        });
        edge(sentence, "the buffer stays as it is, by restore", () -> {
            TemplateScopes desk = desk("12");
            desk.keep();
            write(desk, "{a");
            desk.restore();
            is("isComplete", desk.isComplete(), false);
            desk.takeTemplate(2);
            is("the buffer", value(desk, 'c'), "{a");
        });
        edge(sentence, "the saved states stay as they are, by restore, but for one more", () -> {
            TemplateScopes desk = new TemplateScopes();
            desk.emptyValue(7);
            desk.keep();
            desk.appendValue(7, '1');
            desk.appendValue(7, '2');
            desk.restore();
            is("savedStates", desk.savedStates(), 4);
            is("the saved states", savedValues(desk), "12 1  none ");
        });
        edge(sentence, "the snapshot stays as it is, by undo", () -> {
            TemplateScopes desk = desk("", "a=1");
            desk.appendValue(0, '2');
            desk.keep();
            desk.undo();
            desk.undo();
            desk.restore();
            is("value", value(desk, 'a'), "12");
        });
        edge(sentence, "a snapshot that was taken stays taken, by undo and restore", () -> {
            TemplateScopes desk = desk("", "a=1");
            desk.keep();
            desk.appendValue(0, '2');
            desk.restore();
            desk.undo();
            desk.keep();
            desk.undo();
            desk.undo();
            desk.restore();
            is("value", value(desk, 'a'), "12");
        });
    }

    private static void atMostSix() {
        in("Undo, the snapshot");
        String sentence = "At most 6 states are saved; the oldest one is dropped first.";
        edge(sentence, "the sixth drops none", () -> {
            TemplateScopes desk = withSix(new TemplateScopes());
            is("savedStates", desk.savedStates(), 6);
            is("the saved states", savedValues(desk), "0123 012 01 0  none ");
        });
        edge(sentence, "the seventh drops the first", () -> {
            TemplateScopes desk = withSix(new TemplateScopes());
            desk.appendValue(7, '5');
            is("savedStates", desk.savedStates(), 6);
            is("the saved states", savedValues(desk), "01234 0123 012 01 0  ");
        });
        edge(sentence, "of 24 the last six stay", () -> {
            TemplateScopes desk = desk("", "h=" + LETTERS_24);
            is("savedStates", desk.savedStates(), 6);
            desk.undo();
            desk.undo();
            is("value", value(desk, 'h'), LETTERS_24.substring(0, 22));
            undoAll(desk);
            is("value", value(desk, 'h'), LETTERS_24.substring(0, 18));
        });
        edge(sentence, "behind undo there is room for more", () -> {
            TemplateScopes desk = withSix(new TemplateScopes());
            desk.undo();
            desk.undo();
            desk.appendValue(7, '8');
            desk.appendValue(7, '9');
            is("savedStates", desk.savedStates(), 6);
            is("the saved states", savedValues(desk), "0128 012 01 0  none ");
        });
    }

    private static void otherCalls() {
        in("Exceptions");
        for (Call call : List.of(new Call(39, "wouldPrint", TemplateScopes::wouldPrint),
                new Call(40, "wouldPrintByText", TemplateScopes::wouldPrintByText), new Call(41, "wouldFail", TemplateScopes::wouldFail),
                new Call(42, "wouldPrintWithout", desk -> desk.wouldPrintWithout(0)))) {
            edge("---- what would be; nothing is changed.", call.name(), () -> {
                TemplateScopes desk = laden(used());
                call.make().accept(desk);
                is("all that the desk tells", allOf(desk), allOf(laden(used())));
            });
        }
        List<Call> asking = List.of(
                new Call(4, "templateLength", TemplateScopes::templateLength), new Call(5, "firstError", TemplateScopes::firstError),
                new Call(6, "isComplete", TemplateScopes::isComplete), new Call(7, "parts", TemplateScopes::parts),
                new Call(8, "depth", TemplateScopes::depth), new Call(9, "names", TemplateScopes::names),
                new Call(10, "namesSet", TemplateScopes::namesSet), new Call(11, "loops", TemplateScopes::loops),
                new Call(26, "outputLength", TemplateScopes::outputLength), new Call(27, "outputCharacter", desk -> desk.outputCharacter(0)),
                new Call(28, "hasFailed", TemplateScopes::hasFailed), new Call(29, "failureReason", TemplateScopes::failureReason),
                new Call(30, "failurePlaces", TemplateScopes::failurePlaces), new Call(31, "failurePlace", desk -> desk.failurePlace(1)),
                new Call(32, "steps", TemplateScopes::steps), new Call(33, "plainPrinted", TemplateScopes::plainPrinted),
                new Call(34, "escapesPrinted", TemplateScopes::escapesPrinted), new Call(35, "valuesPrinted", TemplateScopes::valuesPrinted),
                new Call(36, "renderings", TemplateScopes::renderings), new Call(37, "failures", TemplateScopes::failures),
                new Call(38, "printed", TemplateScopes::printed),
                new Call(46, "savedStates", TemplateScopes::savedStates),
                new Call(47, "valueShare", TemplateScopes::valueShare), new Call(48, "digest", TemplateScopes::digest));
        in("Undo, the snapshot");
        String sentence = "Each method that is marked \"undoable\"";
        for (Call call : asking) {
            edge(sentence, call.name() + " is not: it saves and changes nothing", () -> {
                TemplateScopes desk = used();
                call.make().accept(desk);
                is("all that the desk tells", allOf(desk), allOf(used()));
                desk = laden(used());
                call.make().accept(desk);
                is("all that the desk tells", allOf(desk), allOf(laden(used())));
            });
        }
        edge(sentence, "append, clearTemplate and keep are not", () -> {
            for (Consumer<TemplateScopes> call : List.<Consumer<TemplateScopes>>of(
                    desk -> desk.append('x'), TemplateScopes::clearTemplate, TemplateScopes::keep)) {
                TemplateScopes desk = withSix(new TemplateScopes());
                call.accept(desk);
                is("the saved states", savedValues(desk), "0123 012 01 0  none ");
                desk = new TemplateScopes();
                call.accept(desk);
                is("savedStates", desk.savedStates(), 0);
            }
        });
        edge(sentence, "undo is not", () -> {
            TemplateScopes desk = withSix(new TemplateScopes());
            desk.undo();
            is("savedStates", desk.savedStates(), 5);
            is("the saved states", savedValues(desk), "012 01 0  none ");
        });
    }

    private static void exceptions() {
        in("Exceptions");
        edge("A call that throws an exception changes nothing.", "undo brings back what was ahead of the call before it", () -> {
            TemplateScopes desk = desk("{", "a=1");
            desk.appendValue(0, '2');
            for (Consumer<TemplateScopes> call : List.<Consumer<TemplateScopes>>of(each -> each.appendValue(0, 32),
                    each -> each.removeValue(5), each -> each.emptyValue(8), each -> each.copyValue(0, 5),
                    each -> each.escapeValue(5), each -> each.takeOutput(8), each -> each.takeTemplate(-1),
                    TemplateScopes::render, TemplateScopes::restore)) {
                try {
                    call.accept(desk);
                    is("the call throws", false, true);
                } catch (IllegalStateException | IllegalArgumentException | IndexOutOfBoundsException e) {
                    is("savedStates", desk.savedStates(), 3);
                }
            }
            desk.undo();
            is("value", value(desk, 'a'), "1");
        });
        edge("\"There is no such variable\" means that it is not 0 to 7.", "each call that has a variable", () -> {
            List<IntConsumer> calls = List.of(
                    v -> used().appendValue(v, 'x'), v -> used().removeValue(v), v -> used().emptyValue(v), v -> used().copyValue(v, 0),
                    v -> used().copyValue(0, v), v -> used().escapeValue(v), v -> used().takeOutput(v), v -> used().takeTemplate(v),
                    v -> used().hasValue(v), v -> used().valueLength(v), v -> used().valueCharacter(v, 0), v -> used().isTemplate(v),
                    v -> used().escapedLength(v), v -> used().alikeBehindEscaping(v), v -> used().wouldPrintWithout(v));
            for (IntConsumer call : calls) {
                for (int variable = -2; variable <= 9; variable++) {
                    boolean refused = false;
                    try {
                        call.accept(variable);
                    } catch (IndexOutOfBoundsException e) {
                        refused = true;
                    } catch (IllegalStateException e) {
                        refused = false;
                    }
                    is("call " + calls.indexOf(call) + " refuses " + variable, refused, variable < 0 || variable > 7);
                }
            }
        });
        edge("If several exceptions apply, the one that is named first in the throws clause is thrown.",
                "wouldPrintWithout: no variable, and a template that is not complete", () -> {
                    for (int variable : NO_VARIABLES) {
                        refuses(INDEX, () -> desk("{", "a=1"), desk -> desk.wouldPrintWithout(variable));
                        refuses(INDEX, () -> desk("}", "a=1"), desk -> desk.wouldPrintWithout(variable));
                    }
                });
    }

    private static void lastCall() {
        in("What it is");
        edge("An object is used for at most 512 calls after it has been made; what later calls answer is free.", "the 512th call", () -> {
            TemplateScopes desk = desk("{*a:{k}}", "a=" + LETTERS_24);
            int calls = 34;
            for (; calls < 509; calls++) {
                desk.render();
            }
            is("renderings", desk.renderings(), 475);
            is("printed", desk.printed(), 475 * 38);
            is("the 512th call", desk.render(), 38);
        });
    }

    // ---- promises 39 to 42

    private static void refusesIncomplete(Consumer<TemplateScopes> call) {
        for (String template : INCOMPLETE) {
            refuses(STATE, () -> desk(template, "a=1"), call);
        }
        refuses(STATE, () -> desk("12{a}}", "a=1"), call);
    }

    /** The edges that the lengths told by the parts and by the text have alike. */
    private static void lengths(String sentence, ToIntFunction<TemplateScopes> call) {
        edge(sentence, "0, 1 and 200", () -> {
            is("of none", call.applyAsInt(desk("")), 0);
            is("1", call.applyAsInt(desk("x")), 1);
            is("60", call.applyAsInt(desk("x".repeat(60))), 60);
            is("199", call.applyAsInt(desk("{*a:{b}}{c}", A_20.substring(0, 21), B_10, "c=123456789")), 199);
            is("200", call.applyAsInt(desk("{*a:{b}}", A_20, B_10)), 200);
        });
        edge(sentence, "that of the template as it is now, and of the values as they are now", () -> {
            TemplateScopes desk = rendered("123{a}", "a=4");
            write(desk, "1{a}");
            give(desk, 'a', "234");
            is("now", call.applyAsInt(desk), 4);
            is("outputLength", desk.outputLength(), 4);
            desk.emptyValue(0);
            is("now", call.applyAsInt(desk), 1);
            is("outputLength", desk.outputLength(), 4);
        });
        edge(sentence, "told again it is the same", () -> {
            TemplateScopes desk = desk("{?h:12}{=h:3}{*a:{h}}", "a=pq");
            is("first", call.applyAsInt(desk), 2);
            is("again", call.applyAsInt(desk), 2);
            is("render", desk.render(), 2);
            is("once more", call.applyAsInt(desk), 2);
        });
    }

    private static void aheadOfFailures(String sentence, ToIntFunction<TemplateScopes> call) {
        edge(sentence, "ahead of each reason", () -> {
            is("reason 1", call.applyAsInt(desk("12{*a:3{h}4}5", "a=pq")), 3);
            is("reason 2", call.applyAsInt(desk("{*a:{b}}{!c}", A_20.substring(0, 21), B_10, "c=123456789~")), 200);
            is("reason 3", call.applyAsInt(desk("{*a:123456789}...", "a=" + "-".repeat(22))), 199);
            is("reason 4", call.applyAsInt(desk("1{^a}", "a=2{^a}")), 5);
            is("reason 5", call.applyAsInt(desk("12{^a}3", "a=4}")), 2);
            is("reason 6", call.applyAsInt(desk("12{=b:{a}{a}}3", "a=4567890123456")), 2);
        });
    }

    private static void wouldPrint() {
        promise(39);
        lengths("Returns the length of the output that a rendering of the template would have, told by its parts.", TemplateScopes::wouldPrint);
        aheadOfFailures("Returns the length, that of what would be printed ahead of a failure too.", TemplateScopes::wouldPrint);
        edge(COMPLETE_CLAUSE, "by an error or by its end", () -> refusesIncomplete(TemplateScopes::wouldPrint));
    }

    private static void wouldPrintByText() {
        promise(40);
        lengths("Returns the same, told by going through its text, character by character.", TemplateScopes::wouldPrintByText);
        aheadOfFailures("Returns the length.", TemplateScopes::wouldPrintByText);
        edge("Returns the same, told by going through its text, character by character.", "parts that are passed over", () -> {
            String within = "{a}{!a}{^a}~}~{~~{*a:{?a:x}}{=a:{k}}";
            is("of a condition", desk("1{?h:" + within + "}2").wouldPrintByText(), 2);
            is("of a loop", desk("1{*b:" + within + "}2", "b=").wouldPrintByText(), 2);
            is("within one another", desk("1{?a:2{?h:{?a:3}4}5}6", "a=1").wouldPrintByText(), 4);
        });
        edge("Returns the same, told by going through its text, character by character.", "each pass with its own character", () -> {
            renders("{*b:{!x}}", "~{y~~", "0", "a=yyy", "b={y~");
            renders("{*b:{!x}}", "p~}q", "0", "a=~~~", "b=p}q");
            renders("{*b:{*c:{!x}}{!x}}", "y~~y~{y~~yy", "0", "a=~~~", "b={y", "c=y~y");
            renders("{*b:{*c:{*d:{!x}}{!x}}{!x}}", "~}y~~~}yyy~}y~~~}yy~{", "0", "a=~~~", "b=y{", "c=~y", "d=}y");
            renders("{*b:{^c}{!x}}", "~~y~yy" + "~~y~~{~{", "0", "a=yyy", "b=y{", "c={*d:{!x}}~~{!x}", "d=~y");
            renders("{*b:{^x}}", "y", "5: 4 1", "a=~~~", "b=y~y");
            renders("{*b:{*x:{!x}}}", "~{y~~", "0", "a=yyy", "b={y~");
        });
        edge("Returns the same, told by going through its text, character by character.", "each pass with its own number", () -> {
            renders("{*b:{*c:{k}}{k}}", "0123456789100" + "0123456789101", "0", "a=p", "b=pq", "c=abcdefghijk");
            renders("{*c:{*b:{k}}{k}}", "010011012013014015016017018019" + "0110", "0", "a=p", "b=pq", "c=abcdefghijk");
            renders("{*c:{*k:{x}}}", "012345678910", "0", "a=p", "c=abcdefghijk");
            renders("{*c:{*b:{=k:123}}{k}}", "012345678910", "0", "b=p", "c=abcdefghijk");
        });
        edge("Returns the same, told by going through its text, character by character.", "as deep as there is room for", () -> {
            String[] values = {"a={?b:{?b:{?b:{?b:{^b}}}}}", "b={*c:{*c:{*c:{*c:{^d}}}}}",
                "c=1", "d={?c:{?c:{?c:{?c:{^e}}}}}", "e={*f:{*f:{*f:{*f:1234}}}}", "f=1"};
            renders("{*f:".repeat(11) + "{^a}" + "}".repeat(11), "1234", "0", values);
            renders("{=g:".repeat(11) + "{^a}" + "}".repeat(11), "", "0", values);
        });
        edge("Returns the same, told by going through its text, character by character.", "also behind many that failed deep within others", () -> {
            TemplateScopes desk = desk("{*a:".repeat(11) + "1{h}" + "}".repeat(11), "a=p");
            for (int turn = 0; turn < 20; turn++) {
                is("one that fails", desk.wouldPrintByText(), 1);
            }
            write(desk, "{*a:".repeat(11) + "1" + "}".repeat(11));
            is("one that does not", desk.wouldPrintByText(), 1);
        });
        edge(COMPLETE_CLAUSE, "by an error or by its end", () -> refusesIncomplete(TemplateScopes::wouldPrintByText));
    }

    private static void wouldFail() {
        promise(41);
        String sentence = "Returns the reason for which a rendering of the template would fail.";
        edge("Returns the reason, 1 to 6; 0 if it would not.", "each of them", () -> {
            String[] templates = {"{a}", "{h}", "{*a:{a}{a}{a}}", "{*a:{*a:{?a:}}}", "{^b}", "{^c}", "{=d:{a}{a}}"};
            for (int reason = 0; reason <= 6; reason++) {
                is("wouldFail", desk(templates[reason], "a=" + LETTERS_24, "b={^b}", "c=}").wouldFail(), reason);
            }
        });
        edge("Returns the reason, 1 to 6; 0 if it would not.", "0 of an empty template", () ->
                is("wouldFail", desk("").wouldFail(), 0));
        edge(sentence, "not that of the latest rendering", () -> {
            TemplateScopes desk = rendered("{h}", "a=}");
            write(desk, "{^a}");
            is("another one", desk.wouldFail(), 5);
            write(desk, "x");
            is("none", desk.wouldFail(), 0);
            is("failureReason", desk.failureReason(), 1);
        });
        edge(sentence, "the first of two", () ->
                is("wouldFail", desk("{^a}{h}", "a=}").wouldFail(), 5));
        edge(COMPLETE_CLAUSE, "by an error or by its end", () -> refusesIncomplete(TemplateScopes::wouldFail));
    }

    private static void wouldPrintWithout() {
        promise(42);
        String sentence = "Returns the length of the output that a rendering of the template would have, if a variable had no value.";
        edge(sentence, "parts of each kind", () -> {
            is("{a}", desk("1{a}2", "a=345").wouldPrintWithout(0), 1);
            is("{!a}", desk("1{!a}2", "a=345").wouldPrintWithout(0), 1);
            is("{^a}", desk("1{^a}2", "a=345").wouldPrintWithout(0), 1);
            is("{*a:}", desk("1{*a:.}2", "a=345").wouldPrintWithout(0), 1);
            is("{?a:}", desk("1{?a:.}2", "a=345").wouldPrintWithout(0), 2);
            is("{=a:}", desk("1{=a:34}{a}2", "a=345").wouldPrintWithout(0), 4);
        });
        edge(sentence, "within an included value", () ->
                is("wouldPrintWithout", desk("1{^b}2", "a=345", "b=6{?a:7}{a}").wouldPrintWithout(0), 2));
        edge(sentence, "a variable that has none, or that the template has not", () -> {
            is("none", desk("1{?a:2}3").wouldPrintWithout(0), 2);
            is("another one", desk("1{a}3", "a=2", "b=4").wouldPrintWithout(1), 3);
        });
        edge(sentence, "the variable keeps its value", () -> {
            TemplateScopes desk = desk("{?a:.}", "a=345");
            is("wouldPrintWithout", desk.wouldPrintWithout(0), 0);
            is("value", value(desk, 'a'), "345");
            is("wouldPrint", desk.wouldPrint(), 1);
            is("render", desk.render(), 1);
        });
        edge("`variable`: 0 to 7", "each of them, alone", () -> {
            for (int variable = 0; variable < 8; variable++) {
                TemplateScopes desk = desk("{?a:.}{?b:.}{?c:.}{?d:.}{?e:.}{?f:.}{?g:.}{?h:.}");
                for (int other = 0; other < 8; other++) {
                    desk.appendValue(other, 'x');
                }
                desk.appendValue(variable, 'y');
                write(desk, "{" + (char) ('a' + (variable + 1) % 8) + "}{" + (char) ('a' + variable) + "}");
                is("wouldPrintWithout " + variable, desk.wouldPrintWithout(variable), 1);
                is("wouldPrintWithout the next", desk.wouldPrintWithout((variable + 1) % 8), 0);
            }
        });
        aheadOfFailures("Returns the length, that of what would be printed ahead of a failure too.", desk -> desk.wouldPrintWithout(6));
        edge("Returns the length", "0 and 200", () -> {
            is("0", desk("").wouldPrintWithout(7), 0);
            is("200", desk("{*a:{b}}{c}", A_20, B_10, "c=1").wouldPrintWithout(2), 200);
        });
        edge("Throws `IndexOutOfBoundsException` if there is no such variable", "-1, 8, and far from it", () -> {
            for (int variable : NO_VARIABLES) {
                refuses(INDEX, () -> desk("{a}", "a=1"), desk -> desk.wouldPrintWithout(variable));
            }
        });
        edge(COMPLETE_CLAUSE, "by an error or by its end", () -> refusesIncomplete(desk -> desk.wouldPrintWithout(0)));
    }

    // ---- promises 43 to 47

    private static void undo() {
        promise(43);
        edge("Restores the latest saved state, and drops it.", "one, and the one before it", () -> {
            TemplateScopes desk = desk("", "a=12");
            desk.undo();
            is("one", value(desk, 'a'), "1");
            desk.undo();
            is("the one before", value(desk, 'a'), "");
            desk.undo();
            is("the first", value(desk, 'a'), "none");
        });
        edge("Returns how many saved states are left.", "5 to 0", () -> {
            TemplateScopes desk = withSix(new TemplateScopes());
            for (int left = 5; left >= 0; left--) {
                is("undo", desk.undo(), left);
                is("savedStates", desk.savedStates(), left);
            }
        });
        edge("Throws `IllegalStateException` if there is none", "at first", () ->
                refusesBare(STATE, () -> desk("x"), TemplateScopes::undo));
        edge("Throws `IllegalStateException` if there is none", "behind six, though seven calls were undoable", () -> {
            Supplier<TemplateScopes> made = () -> {
                TemplateScopes desk = withSix(new TemplateScopes());
                desk.appendValue(7, '5');
                undoAll(desk);
                return desk;
            };
            refusesBare(STATE, made, TemplateScopes::undo);
            is("value", value(made.get(), 'h'), "");
        });
        edge("Throws `IllegalStateException` if there is none", "behind one", () ->
                refusesBare(STATE, () -> {
                    TemplateScopes desk = rendered("x");
                    desk.undo();
                    return desk;
                }, TemplateScopes::undo));
        edge("Throws `IllegalStateException` if there is none", "though there is a snapshot", () ->
                refusesBare(STATE, () -> {
                    TemplateScopes desk = desk("x");
                    desk.keep();
                    return desk;
                }, TemplateScopes::undo));
    }

    private static void keep() {
        promise(44);
        edge("Takes a snapshot, in place of the one before.", "the second one of two", () -> {
            TemplateScopes desk = desk("", "a=1");
            desk.keep();
            desk.appendValue(0, '2');
            desk.keep();
            desk.removeValue(0);
            desk.restore();
            is("value", value(desk, 'a'), "12");
        });
        edge("Takes a snapshot, in place of the one before.", "what changes behind it does not change it", () -> {
            TemplateScopes desk = rendered("12{h}", "a=3");
            desk.keep();
            desk.appendValue(0, '4');
            write(desk, "56");
            desk.render();
            desk.restore();
            is("value, output, failure", value(desk, 'a') + ", " + output(desk) + ", " + failure(desk), "3, 12, 1: 2");
        });
        edge("Takes a snapshot", "of a new object", () -> {
            TemplateScopes desk = new TemplateScopes();
            is("keep", desk.keep(), 0);
            desk.emptyValue(0);
            desk.restore();
            is("value", value(desk, 'a'), "none");
        });
        edge("Returns the length of the output.", "0, 1 and 200", () -> {
            is("without a rendering", desk("x").keep(), 0);
            is("0", rendered("{h}").keep(), 0);
            is("1", rendered("x").keep(), 1);
            is("200", rendered("{*a:{b}}", A_20, B_10).keep(), 200);
        });
    }

    private static void restore() {
        promise(45);
        edge("Restores the state of the snapshot, which stays.", "at the second time too", () -> {
            TemplateScopes desk = desk("", "a=1");
            desk.keep();
            for (int turn = 0; turn < 3; turn++) {
                desk.appendValue(0, '2');
                desk.restore();
                is("value", value(desk, 'a'), "1");
            }
        });
        edge("Restores the state of the snapshot, which stays.", "what changes behind it does not change the snapshot", () -> {
            TemplateScopes desk = rendered("12{h}", "a=3");
            desk.keep();
            desk.restore();
            desk.emptyValue(0);
            write(desk, "4");
            desk.render();
            desk.restore();
            is("value, output, failure", value(desk, 'a') + ", " + output(desk) + ", " + failure(desk), "3, 12, 1: 2");
        });
        edge("Returns the length of the output then.", "0, 1 and 200, and not that from before", () -> {
            TemplateScopes desk = desk("x");
            desk.keep();
            desk.render();
            is("0", desk.restore(), 0);
            desk = rendered("x");
            desk.keep();
            write(desk, "yz");
            desk.render();
            is("1", desk.restore(), 1);
            desk = rendered("{*a:{b}}", A_20, B_10);
            desk.keep();
            desk.clearTemplate();
            desk.render();
            is("200", desk.restore(), 200);
        });
        edge("Throws `IllegalStateException` if there is no snapshot", "at first, and with six saved states", () -> {
            refusesBare(STATE, () -> rendered("x", "a=1"), TemplateScopes::restore);
            refusesBare(STATE, () -> withSix(new TemplateScopes()), TemplateScopes::restore);
        });
    }

    private static void savedStates() {
        promise(46);
        edge("Returns the number of saved states.", "0 to 6, and no more", () -> {
            TemplateScopes desk = new TemplateScopes();
            for (int number = 0; number <= 12; number++) {
                is("savedStates", desk.savedStates(), Math.min(6, number));
                desk.appendValue(0, 'x');
            }
        });
        edge("Returns the number of saved states.", "6 to 0 by undo", () -> {
            TemplateScopes desk = withSix(new TemplateScopes());
            for (int number = 6; number > 0; number--) {
                is("savedStates", desk.savedStates(), number);
                desk.undo();
            }
            is("savedStates", desk.savedStates(), 0);
        });
    }

    private static void share(String template, double due, String... values) {
        is("valueShare of " + template, rendered(template, values).valueShare(), due);
    }

    private static void valueShare() {
        promise(47);
        edge("Returns how much of the output is of values.", "none, some, and all", () -> {
            share("1~2", 0.0);
            share("1~2{a}", 1.0 / 3, "a=x");
            share("1{a}", 2.0 / 3, "a=xy");
            share("{a}", 1.0, "a=x");
        });
        edge("Returns the characters of values, as a double, divided by the length of the output; 0.0 if that is empty.", "empty", () -> {
            is("without a rendering", desk("x").valueShare(), 0.0);
            share("", 0.0);
            share("{a}", 0.0, "a=");
            share("{h}", 0.0);
            share("{=a:12}", 0.0);
        });
        edge("Returns the characters of values, as a double, divided by the length of the output", "of 199 and of 200", () -> {
            String a22 = "a=" + "-".repeat(22);
            share("{*a:123456789}{b}", 1.0 / 199, a22, "b=x");
            share("{*a:123456789}{b}", 2.0 / 200, a22, "b=xy");
            share("{*a:{b}}{c}.", 199.0 / 200, "a=" + "-".repeat(19), B_10, "c=123456789");
            share("{*a:{b}}.", 1.0, A_20, B_10);
        });
    }

    // ---- promise 48

    /** The list of the document, by the calls of the face; the buffer, which no call tells, is told. */
    private static long hashOf(TemplateScopes desk, String buffer) {
        List<Long> list = new ArrayList<>();
        add(list, desk.outputLength());
        addText(list, output(desk));
        add(list, desk.hasFailed() ? 1 : 0);
        if (desk.hasFailed()) {
            add(list, desk.failureReason());
        }
        add(list, desk.failurePlaces());
        for (int number = 0; number < desk.failurePlaces(); number++) {
            add(list, desk.failurePlace(number));
        }
        add(list, desk.steps(), desk.plainPrinted(), desk.escapesPrinted(), desk.valuesPrinted(),
                desk.renderings(), desk.failures(), desk.printed(), desk.savedStates());
        for (int v = 0; v < 8; v++) {
            add(list, desk.hasValue(v) ? 1 : 0);
            if (desk.hasValue(v)) {
                add(list, desk.valueLength(v));
                addText(list, value(desk, (char) ('a' + v)));
                add(list, desk.isTemplate(v) ? 1 : 0, desk.escapedLength(v), desk.alikeBehindEscaping(v));
            }
        }
        add(list, desk.isComplete() ? 1 : 0);
        if (desk.isComplete()) {
            add(list, desk.parts(), desk.depth(), desk.names(), desk.namesSet(), desk.loops(),
                    desk.wouldPrint(), desk.wouldPrintByText(), desk.wouldFail());
        }
        add(list, desk.firstError(), Double.doubleToLongBits(desk.valueShare()), desk.templateLength());
        addText(list, buffer);
        return hash(list);
    }

    private static void add(List<Long> list, long... values) {
        for (long value : values) {
            list.add(value);
        }
    }

    private static void addText(List<Long> list, String text) {
        text.chars().forEach(code -> list.add((long) code));
    }

    private static long hash(List<Long> values) {
        long hash = 4349;
        for (long value : values) {
            hash = 31 * hash + value;
        }
        return hash;
    }

    private static long hashOf(long... values) {
        List<Long> list = new ArrayList<>();
        add(list, values);
        return hash(list);
    }

    private static void hashes(String template, TemplateScopes desk) {
        is("digest", desk.digest(), hashOf(desk, template));
    }

    private static void digest() {
        promise(48);
        edge("The hash starts at 4349.", "of a new object, by its numbers", () ->
                is("digest", new TemplateScopes().digest(), hashOf(0, 0, 0, 0, 0, 0, 0, 0, 0, 0, 0,
                        0, 0, 0, 0, 0, 0, 0, 0, 1, 0, 0, 0, 0, 0, 0, 0, 0, 0, 0, 0)));
        edge("Computes a hash of the whole state.", "of one that has each of the values, by its numbers", () -> {
            TemplateScopes desk = rendered("p~q{b}{^c}", "b={", "c={h}");
            is("digest", desk.digest(), hashOf(3, 'p', 'q', '{', 1, 1, 2, 6, 0, 5, 1, 1, 1, 1, 1, 3, 6,
                    0, 1, 1, '{', 0, 2, 1, 1, 3, '{', 'h', '}', 1, 5, 3, 0, 0, 0, 0, 0,
                    1, 4, 1, 2 + 4, 0, 0, 3, 3, 1, 10, Double.doubleToLongBits(1.0 / 3), 10, 'p', '~', 'q', '{', 'b', '}', '{', '^', 'c', '}'));
        });
        edge("For each value v of the following list, in order, the hash becomes 31 * hash + v, in long arithmetic with overflow.",
                "some 300 values", () -> {
                    String template = "{*a:{b}}" + "~~".repeat(26);
                    hashes(template, rendered(template, "a=" + "~".repeat(20), "b=~}{~}{~}{~"));
                });
        edge("(A boolean is 1 for true, 0 for false.)", "each that the list has", () -> {
            hashes("x", rendered("x", "a=p"));
            hashes("{h}", rendered("{h}", "a=p"));
            hashes("{", desk("{", "a={"));
        });
        edge("The values are: outputLength, each outputCharacter, hasFailed, if that is true failureReason, failurePlaces, each failurePlace, "
                + "steps, plainPrinted, escapesPrinted, valuesPrinted, renderings, failures, printed and savedStates;",
                "an output of 0 and of 200", () -> {
                    hashes("{a}", rendered("{a}", "a="));
                    hashes("{*a:{b}}", rendered("{*a:{b}}", A_20, B_10));
                    hashes("{*a:{b}}.", rendered("{*a:{b}}.", A_20, B_10));
                });
        edge("if that is true failureReason, failurePlaces, each failurePlace", "no failure, and 1 to 5 places", () -> {
            String[] values = {"a=.{^b}", "b=..{^c}", "c=...{^d}", "d=....}", "e=5"};
            for (String template : new String[] {"{e}", "{h}", "{^d}", "{^c}", "{^b}", "{^a}"}) {
                hashes(template, rendered(template, values));
            }
        });
        edge("renderings, failures, printed and savedStates;", "0 and 6 saved states, 0 and more renderings", () -> {
            hashes("12{h}", desk("12{h}"));
            TemplateScopes desk = rendered("12{h}");
            desk.render();
            write(desk, "3");
            desk.render();
            hashes("3", desk);
            desk.undo();
            hashes("3", desk);
            withSix(desk);
            hashes("3", desk);
        });
    }

    private static void digestOfValues() {
        promise(48);
        edge("for each variable hasValue, and, if that is true, valueLength, each valueCharacter, isTemplate, escapedLength and alikeBehindEscaping;",
                "none, an empty one, and one of 24, of each variable", () -> {
                    for (char name = 'a'; name <= 'h'; name++) {
                        hashes("", desk("", name + "="));
                        hashes("", desk("", name + "=" + LETTERS_24));
                        hashes("", desk("", name + "=" + "{}~".repeat(8)));
                    }
                });
        edge("isComplete, and, if that is true, parts, depth, names, namesSet, loops, wouldPrint, wouldPrintByText and wouldFail;",
                "complete and not", () -> {
                    String template = "1{*a:{=b:{k}}{x}}{h}";
                    for (int length = 0; length <= template.length(); length++) {
                        hashes(template.substring(0, length), desk(template.substring(0, length), "a=pq"));
                    }
                });
        edge("firstError;", "0, one between, and the length", () -> {
            hashes("}", desk("}"));
            hashes("12}3", desk("12}3"));
            hashes("123", desk("123"));
        });
        edge("the bits of valueShare (as Double.doubleToLongBits);", "0.0 and 1.0", () -> {
            hashes("", desk(""));
            hashes("x", rendered("x"));
            hashes("{a}", rendered("{a}", "a=p"));
        });
        edge("the bits of valueShare (as Double.doubleToLongBits);", "each share of 1 to 40 characters", () -> {
            for (int plain = 0; plain <= 20; plain++) {
                for (int values = 1; values <= 20; values++) {
                    String template = ".".repeat(plain) + "{a}";
                    hashes(template, rendered(template, "a=" + "x".repeat(values)));
                }
            }
        });
        edge("the bits of valueShare (as Double.doubleToLongBits);", "the smallest one, and the greatest one that is not 1", () -> {
            String template = "{*a:123456789}{b}";
            hashes(template, rendered(template, "a=" + "-".repeat(22), "b=x"));
            template = "{*a:{b}}{c}.";
            hashes(template, rendered(template, "a=" + "-".repeat(19), B_10, "c=123456789"));
        });
        edge("templateLength and each character code of the buffer.", "0 and 60", () -> {
            hashes("", desk(""));
            hashes(LETTERS_24 + LETTERS_24 + "!~{~}~}~{~!}", desk(LETTERS_24 + LETTERS_24 + "!~{~}~}~{~!}"));
            hashes("~".repeat(60), desk("~".repeat(60)));
        });
        edge("Returns the hash.", "it is another one behind each change of the buffer or of a value", () -> {
            TemplateScopes desk = desk("ab", "a=p");
            long first = desk.digest();
            write(desk, "ba");
            is("the buffer", desk.digest() == first, false);
            write(desk, "ab");
            is("as before", desk.digest(), first);
        });
    }
}
