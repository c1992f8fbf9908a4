/** The sections "Scopes" and "Rendering" of the terms. */
final class EdgesOfRendering extends Edges {
    private static final String DIGITS = "1234567890";
    /** With A_22 it is 199 steps, and prints nothing: 1, and 22 passes of 9. It takes 18 characters. */
    private static final String QUIET_199 = "{*a:{=c:12345678}}";
    private static final String A_22 = "a=" + "-".repeat(22);
    /** With A_20 and B_10 it prints 200 characters in 21 steps. It takes 8 characters. */
    private static final String FILLS_200 = "{*a:{b}}";
    private static final String A_20 = "a=" + "-".repeat(20);
    private static final String B_10 = "b=" + DIGITS;
    private static final String OUTPUT_200 = DIGITS.repeat(20);

    private EdgesOfRendering() {
    }

    static void all() {
        scopes();
        order();
        steps();
        plainAndEscapes();
        valuesPrinted();
        included();
        includedFails();
        loops();
        conditions();
        settings();
        fullOutput();
        fullText();
        ends();
    }

    private static void scopes() {
        in("Scopes");
        edge("A scope gives some names values.", "those that it does not give are those of the scope outside", () -> {
            renders("{*a:{b}{x}}", "231", "0", "a=1", "b=23");
            renders("{*a:{*b:{^c}}}", "p0", "0", "a=p", "b=q", "c={=x:p}{x}{k}");
        });
        String innermost = "A name has the value that the innermost scope gives it which gives it one.";
        edge(innermost, "x and k of a loop within a loop, and behind it", () -> {
            renders("{*a:{*b:{k}{x}}{k}{x};}", "0y1z0p;0y1z1q;", "0", "a=pq", "b=yz");
            renders("{*a:{*b:{?x:{=c:23}{c}}}{c}}", "23231", "0", "a=p", "b=yz", "c=1");
        });
        edge(innermost, "a k and an x that are set are hidden by those of a loop, and there again behind it", () -> {
            renders("{=k:55}{*a:{k}}{k}", "055", "0", "a=p");
            renders("{=x:66}{*a:{x}}{x}", "p66", "0", "a=p");
        });
        edge(innermost, "an empty value is one", () -> {
            renders("{*a:{=b:}{b}}{b}", "yz", "0", "a=pq", "b=yz");
            renders("{*a:{=b:}{?b:n}}", "", "0", "a=pq", "b=yz");
        });
        edge(innermost, "the outermost of five scopes", () ->
                renders("{*a:{*a:{^b}}}{b}", "23{^c}", "0", "a=p", "b={^c}", "c={d}", "d=23"));
        String first = "A rendering begins with one scope, which gives the names a to h the values of the variables that have one.";
        edge(first, "each of a to h", () ->
                renders("{a}{b}{c}{d}{e}{f}{g}{h}", "12345678", "0", "a=1", "b=2", "c=3", "d=4", "e=5", "f=6", "g=7", "h=8"));
        edge(first, "those without a value have none", () -> {
            for (char name : NAMES.toCharArray()) {
                renders(".{" + name + "}", ".", "1: 1");
            }
        });
        edge(first, "what a rendering sets is gone at the next one", () -> {
            TemplateScopes desk = rendered("{=h:12}{=a:34}{=k:5}", "a=6");
            write(desk, "{a}{h}");
            is("wouldPrintByText", desk.wouldPrintByText(), 1);
            is("render", desk.render(), 1);
            is("failure", failure(desk), "1: 3");
            is("values", value(desk, 'a') + value(desk, 'h'), "6none");
        });
        edge(first, "also of one that failed within much", () -> {
            TemplateScopes desk = rendered("{*a:{=h:{*a:{^b}}}}", "a=12", "b={=g:3}{f}");
            is("failure", failure(desk), "1: 12 6");
            desk.wouldPrintByText();
            write(desk, "{*a:{x}}{g}");
            is("wouldPrintByText", desk.wouldPrintByText(), 2);
            desk.render();
            is("output", output(desk), "12");
            is("failure", failure(desk), "1: 8");
        });
    }

    private static void order() {
        in("Rendering");
        edge("The parts of the template are rendered one behind the other, and those within them as follows.", "none, and some", () -> {
            renders("", "", "0");
            renders("1~2{a}3", "12.3", "0", "a=.");
        });
        String goes = "What is printed goes to the output, or, within a setting, to the text of the innermost setting.";
        edge(goes, "ahead of a setting, within it, and behind it", () ->
                renders("1{=a:23}4{a}", "1423", "0"));
        edge(goes, "of two settings within one another the inner one", () ->
                renders("{=a:1{=b:23}4}{b}-{a}", "23-14", "0"));
        edge(goes, "also what is printed by parts and values within it", () -> {
            renders("{=c:{?a:1}{*a:{k}}{^b}}-{c}", "-1023", "0", "a=p", "b=23");
            renders("{=c:~1{a}{!a}}-{c}", "-1{~{", "0", "a={");
        });
        edge(goes, "settings of an included value within a setting", () ->
                renders("{=c:1{^b}4}{c}", "134", "0", "b={=c:2}3"));
    }

    private static void steps() {
        in("Rendering");
        String counted = "Each part that is rendered is a step, counted ahead of all else that it does";
        edge(counted, "one of each kind", () -> {
            for (String part : new String[] {".", "~.", "{=g:}"}) {
                is(part, rendered(part).steps(), 1);
                is(part + " twice", rendered(part + part).steps(), 2);
            }
            for (String part : new String[] {"{a}", "{!a}", "{^a}", "{*a:}", "{?a:}"}) {
                is(part, rendered(part, "a=").steps(), 1);
            }
        });
        edge(counted, "those within loops once for each pass", () -> {
            rendersInSteps(1, "{*a:1}", "", "0", "a=");
            rendersInSteps(2, "{*a:1}", "1", "0", "a=p");
            rendersInSteps(73, "{*a:1{?b:}{*b:}}", "1".repeat(24), "0", "a=" + LETTERS_24, "b=");
        });
        edge(counted, "those within a condition, a setting, and an included value", () -> {
            rendersInSteps(3, "{?a:12}", "12", "0", "a=.");
            rendersInSteps(1, "{?a:12}", "", "0");
            rendersInSteps(3, "{=a:12}", "", "0");
            rendersInSteps(4, "{^a}", "123", "0", "a=123");
        });
        edge(counted, "a part that fails too", () -> {
            rendersInSteps(2, ".{a}", ".", "1: 1");
            rendersInSteps(2, ".{*a:..}", ".", "1: 1");
            rendersInSteps(2, ".{^a}", ".", "5: 1 1", "a={");
            rendersInSteps(5, "{^a}", "", "4: 0 0 0 0 0", "a={^a}");
            rendersInSteps(22, FILLS_200 + ".", OUTPUT_200, "2: 8", A_20, B_10);
            rendersInSteps(3, "{=b:{a}.}", "", "6: 7", "a=" + LETTERS_24);
        });
        edge(counted, "the characters of a value are none", () ->
                rendersInSteps(2, "{a}{!a}", LETTERS_24 + LETTERS_24, "0", "a=" + LETTERS_24));
        fails3();
    }

    private static void fails3() {
        String sentence = "it fails for the reason 3, if 200 steps are counted already (it is not counted then)";
        edge(sentence, "the 200th step does not fail", () -> {
            rendersInSteps(199, QUIET_199, "", "0", A_22);
            rendersInSteps(200, QUIET_199 + ".", ".", "0", A_22);
            rendersInSteps(200, QUIET_199 + "{?h:.}", "", "0", A_22);
        });
        edge(sentence, "the 201st fails, of whichever kind, and is not counted", () -> {
            for (String part : new String[] {".", "~.", "{a}", "{!a}", "{^a}", "{*a:}", "{?a:}", "{=a:}", "{?h:}"}) {
                rendersInSteps(200, QUIET_199 + "." + part, ".", "3: 19", A_22);
            }
        });
        edge(sentence, "ahead of the reason 1", () -> {
            for (String part : new String[] {"{h}", "{!h}", "{^h}", "{*h:}"}) {
                rendersInSteps(200, QUIET_199 + "." + part, ".", "3: 19", A_22);
            }
        });
        edge(sentence, "ahead of the reason 2", () ->
                rendersInSteps(200, "{*a:{b}{=c:1234567}}{d}.", "x".repeat(200), "3: 23", A_22, "b=xxxxxxxxx", "d=xx"));
        edge(sentence, "ahead of the reason 4, which a step less is", () -> {
            String[] values = {"a=" + "-".repeat(16), "b={^d}", "d={^e}", "e={^f}", "f={^g}", "g="};
            rendersInSteps(200, "{*a:{=c:12345678901}}..{^b}", "..", "4: 23 0 0 0 0", values);
            rendersInSteps(200, "{*a:{=c:12345678901}}...{^b}", "...", "3: 24 0 0 0 0", values);
        });
        edge(sentence, "ahead of the reason 5", () ->
                rendersInSteps(200, QUIET_199 + ".{^b}", ".", "3: 19", A_22, "b=}"));
        edge(sentence, "ahead of the reason 6", () ->
                rendersInSteps(200, "{=g:{d}{*a:{=c:1234567}}" + "{?h:}".repeat(5) + ".}", "", "3: 49",
                        "a=" + LETTERS_24, "d=" + LETTERS_24));
        edge(sentence, "within a loop, which does not go on", () ->
                rendersInSteps(200, "{*a:{=c:123456789}}.", "", "3: 16", "a=" + "-".repeat(24)));
        edge(sentence, "within an included value", () ->
                rendersInSteps(200, QUIET_199 + "{^b}", "", "3: 18 0", A_22, "b=."));
        edge(sentence, "an included value that is empty needs no more", () ->
                rendersInSteps(200, QUIET_199 + "{^b}", "", "0", A_22, "b="));
    }

    private static void plainAndEscapes() {
        in("Rendering");
        edge("A plain character is printed.", "each of them", () -> {
            for (char code = 33; code <= 126; code++) {
                if ("{}~".indexOf(code) < 0) {
                    renders("" + code, "" + code, "0");
                }
            }
        });
        edge("Of an escape the second character is printed.", "each of them, and not the \"~\"", () -> {
            for (char code = 33; code <= 126; code++) {
                renders("~" + code, "" + code, "0");
            }
        });
        edge("Of an escape the second character is printed.", "escapes one behind the other", () ->
                renders("~~~~~{~}~~", "~~{}~", "0"));
    }

    private static void valuesPrinted() {
        in("Rendering");
        edge("A value is printed, character by character.", "0, 1 and 24, and none is read", () -> {
            renders("{a}", "", "0", "a=");
            renders("{a}", "~", "0", "a=~");
            renders("{a}", "{b}~{}~~{*a:{k}}{i}{{!!~", "0", "a={b}~{}~~{*a:{k}}{i}{{!!~");
        });
        edge("A value is printed, character by character.", "as many as there is room for", () ->
                renders("{*a:{b}}{c}{b}", DIGITS.repeat(19) + "!" + "123456789", "2: 11",
                        "a=" + "-".repeat(19), B_10, "c=!"));
        edge("A value is printed, character by character.", "an empty one also when there is no room", () ->
                renders(FILLS_200 + "{c}{!c}", OUTPUT_200, "0", A_20, B_10, "c="));
        String escaped = "Of an escaped value each character is printed, one that is \"{\", \"}\" or \"~\" with a \"~\" printed ahead of it.";
        edge(escaped, "each character", () -> {
            for (int code = 33; code <= 126; code++) {
                renders("{!a}", ("{}~".indexOf(code) < 0 ? "" : "~") + (char) code, "0", "a=" + (char) code);
            }
        });
        edge(escaped, "0, and 24 that all have one ahead", () -> {
            renders("{!a}", "", "0", "a=");
            renders("{!a}", "~{~}~~".repeat(8), "0", "a=" + "{}~".repeat(8));
        });
        edge(escaped, "room for the \"~\" alone", () ->
                renders("{*a:{b}}{c}{!d}", DIGITS.repeat(19) + "123456789~", "2: 11",
                        "a=" + "-".repeat(19), B_10, "c=123456789", "d={"));
        edge("Either fails for the reason 1, if the name has no value.", "either of them, and an empty one does not", () -> {
            renders(".{b}.", ".", "1: 1", "a=1");
            renders(".{!b}.", ".", "1: 1", "a=1");
            renders(".{b}{!b}.", "..", "0", "b=");
        });
        edge("Either fails for the reason 1, if the name has no value.", "also when there is no room to print", () -> {
            renders(FILLS_200 + "{h}", OUTPUT_200, "1: 8", A_20, B_10);
            renders("{=c:{d}{!h}}", "", "1: 7", "d=" + LETTERS_24);
        });
    }

    private static void included() {
        in("Rendering");
        String sentence = "An included value is read as a template, and its parts are rendered in a new scope, which gives nothing at first.";
        edge(sentence, "0 and 24 characters, parts of each kind", () -> {
            renders("{^a}", "", "0", "a=");
            renders("{^a}", LETTERS_24, "0", "a=" + LETTERS_24);
            renders("{^a}", "1}2~{03", "0", "a=1~}{b}{!c}{*b:{k}}{?b:3}", "b=2", "c={");
        });
        edge(sentence, "what it sets is gone behind it", () -> {
            renders("{^a}{b}", "34-2", "0", "a={=b:34}{b}-", "b=2");
            renders("{^a}{h}", "", "1: 4", "a={=h:1}");
        });
        edge(sentence, "at the second time it gives nothing again", () ->
                renders("{^a}{^a}", "..", "0", "a={?g:no}.{=g:1}"));
        edge(sentence, "the names of the scopes outside are there", () -> {
            renders("{*b:{^a}}", "0p1q", "0", "a={k}{x}", "b=pq");
            renders("{=c:12}{^a}", "12", "0", "a={c}");
        });
        edge(sentence, "a name that it sets itself, and includes", () ->
                renders("{=c:1{a}}{^c}", "123", "0", "a=23"));
        edge("A new scope is closed when its parts are rendered.", "that of an included value at each level", () ->
                renders("{^a}{h}", "4321", "1: 4", "a={^b}{?h:n}1{=h:n}", "b={^c}{?h:n}2{=h:n}", "c={^d}{?h:n}3{=h:n}", "d=4{=h:n}"));
        edge("A new scope is closed when its parts are rendered.", "that of each pass", () ->
                renders("{*a:{?h:n}{=h:n}.}{h}", "..", "1: 18", "a=12"));
    }

    private static void includedFails() {
        in("Rendering");
        String sentence = "It fails for the first of these that holds: for the reason 1, if the name has no value; "
                + "for the reason 4, if it lies within 4 included values already; for the reason 5, if the value is not a complete template.";
        edge(sentence, "reason 1", () ->
                renders(".{^h}.", ".", "1: 1"));
        edge(sentence, "within 4 included values a fifth one fails", () ->
                renders("1{^a}!", "12345", "4: 1 1 1 1 1", "a=2{^b}!", "b=3{^c}!", "c=4{^d}!", "d=5{^e}!", "e=6"));
        edge(sentence, "within 3 included values a fourth one does not", () ->
                renders("1{^a}9", "123456789", "0", "a=2{^b}8", "b=3{^c}7", "c=4{^d}6", "d=5"));
        edge(sentence, "one that includes itself", () ->
                renders("{^a}", "....", "4: 0 1 1 1 1", "a=.{^a}"));
        edge(sentence, "those behind one another do not lie within one another", () ->
                renders("{^a}{^a}{^a}{^a}{^a}{^a}", "......", "0", "a=."));
        edge(sentence, "behind four levels there is room for four again", () ->
                renders("{^a}{^a}", "4444", "0", "a={^b}{^b}", "b={^c}", "c={^d}", "d=4"));
        edge(sentence, "blocks are no included values", () ->
                renders("{*e:{?e:{=f:{*e:{^a}}}{f}}}", "4", "0", "a={?e:{^b}}", "b={*e:{^c}}", "c={=g:{^d}}{g}", "d=4", "e=1"));
        edge(sentence, "reason 1 ahead of reason 4", () ->
                renders("{^a}", "", "1: 0 0 0 0 0", "a={^b}", "b={^c}", "c={^d}", "d={^e}"));
        edge(sentence, "reason 4 ahead of reason 5", () ->
                renders("{^a}", "", "4: 0 0 0 0 0", "a={^b}", "b={^c}", "c={^d}", "d={^e}", "e=}"));
        edge(sentence, "reason 4 also of an empty value", () ->
                renders("{^a}", "", "4: 0 0 0 0 0", "a={^b}", "b={^c}", "c={^d}", "d={^e}", "e="));
        edge(sentence, "reason 5 of an error, and of an end within a part", () -> {
            renders(".{^a}.", ".", "5: 1 2", "a=12}");
            renders(".{^a}.", ".", "5: 1 3", "a=12~");
            renders(".{^a}.", ".", "5: 1 6", "a=12{?a:");
        });
        edge(sentence, "reason 5 ahead of what the value would print", () ->
                renders("{^a}", "", "5: 0 4", "a=1{h}}", "h=1"));
        edge(sentence, "reason 5 at the fourth level", () ->
                renders("1{^a}", "1234", "5: 1 1 1 1 1", "a=2{^b}", "b=3{^c}", "c=4{^d}", "d=5}"));
    }

    private static void loops() {
        in("Rendering");
        String once = "A loop renders its parts once for each character of the value that its name has as it begins, each time in a new scope, "
                + "which gives k the number of the pass, from 0, as a text without leading zeros, and x this character.";
        edge(once, "0, 1 and 24 passes", () -> {
            renders("{*a:.}", "", "0", "a=");
            renders("{*a:.}", ".", "0", "a=p");
            renders("{*a:.}", ".".repeat(24), "0", "a=" + LETTERS_24);
        });
        edge(once, "no parts", () ->
                renders("{*a:}.", ".", "0", "a=" + LETTERS_24));
        edge("of the value that its name has as it begins", "the name is set within it", () -> {
            renders("{*a:{=a:}{k}}{a}", "01pq", "0", "a=pq");
            renders("{*a:{=a:12345}{x}}", "pq", "0", "a=pq");
        });
        edge("of the value that its name has as it begins", "over x and k themselves", () -> {
            renders("{*a:{*x:{k}{x}}{x}}", "0pp0qq", "0", "a=pq");
            renders("{*a:{*k:.}}", ".".repeat(10 + 28), "0", "a=" + LETTERS_24);
            renders("{=x:pq}{*x:{x}}{x}", "pqpq", "0");
        });
        edge("of the value that its name has as it begins", "a value that was set, and set again behind it", () ->
                renders("{=a:pq}{*a:{x}}{=a:r}{*a:{x}}", "pqr", "0"));
        edge("each time in a new scope", "what a pass sets is gone at the next one, and behind the loop", () -> {
            renders("{*a:{?b:{b}}{=b:12}}", "", "0", "a=pqr");
            renders("{*a:{=b:{x}{x}}{b}}{b}", "ppqq-", "0", "a=pq", "b=-");
        });
        edge("each time in a new scope", "k and x that a pass sets are gone at the next one", () ->
                renders("{*a:{k}{x}{=k:!!}{=x:??}{k}{x}}", "0p!!??1q!!??", "0", "a=pq"));
        edge("which gives k the number of the pass, from 0, as a text without leading zeros", "0, 9, 10 and 23", () -> {
            renders("{*a:{k}}", "0", "0", "a=p");
            renders("{*a:{k}}", "0123456789", "0", "a=pqrstuvwxy");
            renders("{*a:{k}}", "012345678910", "0", "a=pqrstuvwxyz");
            renders("{*a:{k}}", "01234567891011121314151617181920212223", "0", "a=" + LETTERS_24);
        });
        edge("and x this character", "the first, the last, and those that are special", () ->
                renders("{*a:{x}}", "{p}~", "0", "a={p}~"));
        edge("and x this character", "as a value that can be escaped and included", () -> {
            renders("{*a:{!x}}", "~{p~}~~", "0", "a={p}~");
            renders("{*a:{^x}}", "pq", "5: 4 0", "a=pq}");
        });
        edge("It fails for the reason 1, if the name has no value.", "also without parts; not if it is empty", () -> {
            renders(".{*h:.}.", ".", "1: 1");
            renders(".{*h:}.", ".", "1: 1");
            renders(".{*h:{g}}.", "..", "0", "h=");
        });
    }

    private static void conditions() {
        in("Rendering");
        String sentence = "A condition renders its parts, if its name has a value that is not empty; otherwise it renders none "
                + "(it does not fail if the name has no value).";
        edge(sentence, "a value of 1, of 24, and \"0\"", () -> {
            renders("{?a:y}.", "y.", "0", "a=1");
            renders("{?a:y}.", "y.", "0", "a=" + LETTERS_24);
            renders("{?a:y}.", "y.", "0", "a=0");
            renders("{*a:{?k:{k}}}", "01", "0", "a=pq");
        });
        edge(sentence, "an empty value", () -> {
            renders("{?a:{h}~}{!a}{^a}{*a:{?a:}}}.", ".", "0", "a=");
            renders("{=a:}{?a:n}.", ".", "0", "a=1");
        });
        edge(sentence, "no value", () -> {
            renders("{?h:{h}~}{!a}{^a}{*a:{?a:}}}.", ".", "0");
            renders("{?k:n}{?x:n}.", ".", "0");
        });
        edge(sentence, "a value that is empty in the innermost scope, or there alone is not", () -> {
            renders("{*a:{=b:}{?b:n}}{?b:y}", "y", "0", "a=pq", "b=1");
            renders("{*a:{=b:1}{?b:y}}{?b:n}", "yy", "0", "a=pq", "b=");
        });
        edge("It opens no scope.", "what its parts set stays behind it", () -> {
            renders("{?a:{=a:new}}{a}", "new", "0", "a=old");
            renders("{?a:{?a:{=h:1}}}{h}", "1", "0", "a=1");
        });
        edge("It opens no scope.", "within a pass it is set in the scope of the pass", () ->
                renders("{*a:{?h:n}{?a:{=h:{x}}}{h}}{?h:n}", "pq", "0", "a=pq"));
    }

    private static void settings() {
        in("Rendering");
        String sentence = "A setting renders its parts into a new text, and then gives its name this text in the innermost scope.";
        edge(sentence, "0 and 24 characters", () -> {
            renders("{=b:}{b}.", ".", "0", "b=1");
            renders("{=b:{a}}{b}", LETTERS_24, "0", "a=" + LETTERS_24);
        });
        edge(sentence, "an empty text is a value", () ->
                renders("{=h:}{h}{!h}{^h}{*h:}{?h:n}.", ".", "0"));
        edge("into a new text", "at the second time it is empty again", () -> {
            renders("{=b:12}{=b:3}{b}", "3", "0");
            renders("{*a:{=b:{x}}{b}}", "pqr", "0", "a=pqr");
        });
        edge("and then gives its name this text", "within it the name has its old value, or none", () -> {
            renders("{=a:1{a}2}{a}", "1old2", "0", "a=old");
            renders("{=h:1{h}}", "", "1: 5");
            renders("{=h:1{?h:n}}{h}", "1", "0");
        });
        edge("in the innermost scope", "of a loop, of an included value, or the first one", () -> {
            renders("{*a:{=b:12}}{b}", "-", "0", "a=p", "b=-");
            renders("{^a}{b}", "-", "0", "a={=b:12}", "b=-");
            renders("{=b:12}{b}", "12", "0", "b=-");
        });
        edge("in the innermost scope", "a setting whose parts open scopes sets outside of them", () -> {
            renders("{=b:{*a:{x}}}{b}", "pq", "0", "a=pq");
            renders("{=b:{^a}}{b}", "pq", "0", "a=pq");
        });
        edge("in the innermost scope", "the variables have their values as before", () -> {
            TemplateScopes desk = rendered("{=a:2}{=b:3}{*a:{=c:4}}", "a=1");
            is("values", value(desk, 'a') + value(desk, 'b') + value(desk, 'c'), "1nonenone");
        });
        edge("It opens no scope, and prints nothing itself.", "what its parts set stays behind it", () -> {
            renders("{=a:1{=b:23}}{b}{a}", "231", "0");
            renders("{=a:1{=a:23}}{a}", "1", "0");
        });
        edge("It opens no scope, and prints nothing itself.", "the output stays", () -> {
            renders(".{=a:12}.", "..", "0");
            renders(".{=a:{=b:12}}.{a}", "..", "0");
        });
    }

    private static void fullOutput() {
        in("Rendering");
        String sentence = "To print a character fails for the reason 2, if the output has 200 characters";
        edge(sentence, "the 200th is printed, by whichever kind", () -> {
            for (String part : new String[] {"5", "~5", "{d}", "{!d}", "{^d}"}) {
                renders("{*a:{b}}{c}" + part, DIGITS.repeat(19) + "!!!!!!!!!5", "0",
                        "a=" + "-".repeat(19), B_10, "c=!!!!!!!!!", "d=5");
            }
        });
        edge(sentence, "the 201st fails, by whichever kind", () -> {
            for (String part : new String[] {"5", "~5", "{d}", "{!d}"}) {
                renders(FILLS_200 + part, OUTPUT_200, "2: 8", A_20, B_10, "d=5");
            }
            renders(FILLS_200 + "{^d}", OUTPUT_200, "2: 8 0", A_20, B_10, "d=5");
        });
        edge(sentence, "within four included values, and within ten loops", () -> {
            String[] values = {A_20, B_10, "c={^d}", "d={^e}", "e={^f}", "f={*a:{b}}{?g:.}", "g=.", "h=."};
            renders("{^c}", OUTPUT_200, "2: 0 0 0 0 12", values);
            renders("{?h:}{=g:}{^c}", OUTPUT_200, "0", values);
            renders("{*h:".repeat(10) + "{*a:{b}}." + "}".repeat(10), OUTPUT_200, "2: 48", values);
            renders("{*h:".repeat(10) + "{*a:{b}}" + "}".repeat(10), OUTPUT_200, "0", values);
        });
        edge(sentence, "what prints nothing does not fail", () ->
                renders(FILLS_200 + "{c}{!c}{^c}{*c:.}{?c:.}{=c:.}", OUTPUT_200, "0", A_20, B_10, "c="));
        edge(sentence, "within a setting it is the text that is printed to", () ->
                renders(FILLS_200 + "{=c:{=d:1}2{^d}}{?c:{=e:.}}", OUTPUT_200, "0", A_20, B_10));
        edge(sentence, "behind the setting it is the output again", () ->
                renders(FILLS_200 + "{=c:1}{c}", OUTPUT_200, "2: 14", A_20, B_10));
    }

    private static void fullText() {
        in("Rendering");
        String sentence = "and for the reason 6, if the text of a setting has 24.";
        String a24 = "a=" + LETTERS_24;
        String a23 = "a=" + LETTERS_24.substring(1);
        edge(sentence, "the 24th is printed, by whichever kind", () -> {
            for (String part : new String[] {"5", "~5", "{d}", "{!d}", "{^d}"}) {
                renders("{=b:{a}" + part + "}{b}", LETTERS_24.substring(1) + "5", "0", a23, "d=5");
            }
        });
        edge(sentence, "the 25th fails, by whichever kind", () -> {
            for (String part : new String[] {"5", "~5", "{d}", "{!d}"}) {
                renders(".{=b:{a}" + part + "}{b}", ".", "6: 8", a24, "d=5");
            }
            renders(".{=b:{a}{^d}}{b}", ".", "6: 8 0", a24, "d=5");
        });
        edge(sentence, "an escaped character, of which the \"~\" is the 24th", () ->
                renders(".{=b:{a}{!d}}{b}", ".", "6: 8", a23, "d={"));
        edge(sentence, "of values, the 25th within one", () -> {
            renders("{=b:{!d}}{b}", "~{".repeat(12), "0", "d=" + "{".repeat(12));
            renders("{=b:{!d}}{b}", "", "6: 4", "d=" + "{".repeat(13));
            renders("{=b:{d}{d}}{b}", "", "6: 7", "d=" + "{".repeat(13));
        });
        edge(sentence, "what prints nothing does not fail", () ->
                renders("{=b:{a}{c}{!c}{^c}{*c:.}{?c:.}{=c:.}}{b}", LETTERS_24, "0", a24, "c="));
        edge(sentence, "each of two settings within one another has 24", () -> {
            renders("{=b:{a}{=c:{a}}}{b}{c}", LETTERS_24 + LETTERS_24, "0", a24);
            renders("{=b:1{=c:{a}}{=d:{a}}2}{b}", "12", "0", a24);
        });
        edge(sentence, "behind an inner setting the outer one is as full as before", () -> {
            renders("{=b:{a}{=c:1}2}", "", "6: 13", a24);
            renders("{=b:{a}{=c:1}2}{b}", LETTERS_24.substring(1) + "2", "0", a23);
        });
        edge(sentence, "behind the setting the output has room for more", () ->
                renders("{=b:{a}}1{b}{b}", "1" + LETTERS_24 + LETTERS_24, "0", a24));
        edge(sentence, "within four included values, and within ten loops", () -> {
            String[] values = {a24, "c={^d}", "d={^e}", "e={^f}", "f={?g:.}", "g=.", "h=."};
            renders("{=b:{a}{^c}}{b}", "", "6: 7 0 0 0 4", values);
            renders("{=g:}{=b:{a}{^c}}{b}", LETTERS_24, "0", values);
            renders("{*h:".repeat(10) + "{=b:{a}.}" + "}".repeat(10), "", "6: 47", values);
        });
        edge(sentence, "an included value within a setting, and a setting within that", () ->
                renders("{=b:{^d}.}{b}", "", "6: 8", a24, "d={=c:{a}}{c}"));
    }

    private static void ends() {
        in("Rendering");
        edge("What is printed ahead of a failure stays printed.", "to the output, also by the part that fails", () -> {
            renders("12{^a}4", "123", "1: 2 1", "a=3{h}");
            renders("{*a:{x}{?k:{^x}}}", "ppqq~", "5: 11 1", "a=pq~");
        });
        edge("What is printed ahead of a failure stays printed.", "of a setting that is not ended nothing is", () ->
                renders("1{=a:23{h}}", "1", "1: 7"));
        edge("A rendering ends with the first failure.", "parts behind it are not rendered, at each level", () -> {
            rendersInSteps(5, "{*a:{?a:{^b}}.}.", "1", "1: 8 1", "a=123", "b=1{h}{g}");
            rendersInSteps(3, "{=a:{=b:{h}}}{^a}", "", "1: 8");
        });
        edge("A rendering ends with the first failure.", "the reason is that of the first one", () -> {
            renders("{^a}{h}", "", "5: 0 0", "a=}");
            renders("{h}{^a}", "", "1: 0", "a=}");
        });
        edge("A rendering ends with the first failure.", "at the last part of all", () ->
                renders("1{?a:2{=b:3}{h}}", "12", "1: 12", "a=1"));
    }
}
