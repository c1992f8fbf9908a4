/** A desk in use. README.md shows this program and what it prints. */
public final class Example {
    private static final int A = 0;     // the variables 0 to 7 are the names a to h
    private static final int B = 1;
    private static final int C = 2;

    public static void main(String[] args) {
        TemplateScopes desk = new TemplateScopes();
        give(desk, A, "yo");
        give(desk, B, "{a}!");

        // a loop over a, b as it is, an escape, b read as a template
        write(desk, "{*a:{k}{x};}{b}~~{^b}");
        System.out.println("parts " + desk.parts() + ", depth " + desk.depth() + ", loops " + desk.loops());
        System.out.println("wouldPrint " + desk.wouldPrint() + ", without a " + desk.wouldPrintWithout(A));
        System.out.println("render " + desk.render() + ": " + output(desk));
        System.out.println("of plain characters " + desk.plainPrinted() + ", of escapes " + desk.escapesPrinted()
                + ", of values " + desk.valuesPrinted() + ", share " + desk.valueShare());
        System.out.println("keep " + desk.keep());

        // c is read as a template at 1, and fails at its place 1, since d has no value
        give(desk, C, "<{d}>");
        write(desk, "({^c})");
        System.out.println("render " + desk.render() + ": " + output(desk));
        System.out.println("failed " + desk.hasFailed() + ", reason " + desk.failureReason()
                + " at " + desk.failurePlace(0) + ", " + desk.failurePlace(1));

        // a saved state for each of the latest six calls that can be undone
        System.out.println("undo " + desk.undo() + ": " + output(desk));
        System.out.println("restore " + desk.restore() + ": " + output(desk) + ", c has a value " + desk.hasValue(C));

        // the "!" is an error, so this never becomes a template; a call that throws changes nothing
        write(desk, "{a!");
        System.out.println("firstError " + desk.firstError() + ", isComplete " + desk.isComplete());
        try {
            desk.render();
        } catch (IllegalStateException e) {
            System.out.println("render refused, outputLength " + desk.outputLength());
        }
    }

    private static void write(TemplateScopes desk, String template) {
        desk.clearTemplate();
        for (char c : template.toCharArray()) {
            desk.append(c);
        }
    }

    private static void give(TemplateScopes desk, int variable, String value) {
        desk.emptyValue(variable);
        for (char c : value.toCharArray()) {
            desk.appendValue(variable, c);
        }
    }

    private static String output(TemplateScopes desk) {
        StringBuilder text = new StringBuilder();
        for (int place = 0; place < desk.outputLength(); place++) {
            text.append((char) desk.outputCharacter(place));
        }
        return text.toString();
    }
}
