import java.util.HashMap;
import java.util.Map;
import java.util.regex.Pattern;

/**
 * Each text of a few signs, compared with the table of parts in the document as it is written
 * there: a text is a template if it can be cut into parts, and a part is what one of its lines
 * says. A character is an error if no continuation of the text up to it is a template.
 */
public final class GrammarTest extends Desks {
    /** What can stand behind a text that ends within a part, so that the part has its end. */
    private static final String[] ENDS = {"", "a", "}", "a}", ":}", "a:}"};
    private static final Pattern PLAIN_OR_ESCAPE = Pattern.compile("[^{}~]|~.");
    private static final Pattern VALUE = Pattern.compile("\\{[!^]?[a-hkx]\\}");
    private static final Pattern BLOCK = Pattern.compile("\\{[*?=][a-hkx]:.*\\}");
    private static final int TEXTS_OF_A_DESK = 25;

    /** What a template tells: its parts, how deep they lie, the names, those that are set, the loops. */
    private record Told(int parts, int depth, int names, int namesSet, int loops) {
        Told with(Told other) {
            return new Told(parts + other.parts, Math.max(depth, other.depth), names | other.names,
                    namesSet | other.namesSet, loops + other.loops);
        }
    }

    private static final Told NOTHING = new Told(0, 0, 0, 0, 0);
    private static final Map<String, Told> templates = new HashMap<>();
    private static TemplateScopes desk;
    private static int texts;

    public static void main(String[] args) {
        allTexts("az{}~:!^*?=xik", 4);
        allTexts("a{}~:*=", 6);
        allTexts("{}*a:", 8);
        allTexts("{}~", 8);
        System.out.println(texts + " texts, as the table of parts has them");
        Check.end("GrammarTest");
    }

    private static void allTexts(String signs, int length) {
        templates.clear();
        extend("", 0, signs, length);
    }

    /** Compares a text and all that go on with it; its first error is told, or its length for none. */
    private static void extend(String text, int error, String signs, int length) {
        compare(text, error);
        for (char sign : text.length() < length ? signs.toCharArray() : new char[0]) {
            String longer = text + sign;
            boolean faultless = error == text.length() && canBecomeTemplate(longer);
            extend(longer, faultless ? longer.length() : error, signs, length);
        }
    }

    private static void compare(String text, int error) {
        if (texts % TEXTS_OF_A_DESK == 0) {
            desk = new TemplateScopes();
        }
        texts++;
        write(desk, text);
        Told told = told(text);
        boolean right = desk.firstError() == error && desk.isComplete() == (told != null);
        if (right && told != null) {
            right = told.equals(new Told(desk.parts(), desk.depth(), desk.names(), desk.namesSet(), desk.loops()));
        }
        if (!right || texts % 1000 == 0) {
            is(text + ": the first error, and whether it is complete", desk.firstError() + " " + desk.isComplete(),
                    error + " " + (told != null));
            is(text + ": what it tells", right, true);
        }
    }

    /** Behind the end of the part in which it ends each block that is open has one end more. */
    private static boolean canBecomeTemplate(String text) {
        for (String end : ENDS) {
            for (int blocks = 0; blocks <= text.length() / 4; blocks++) {
                if (told(text + end + "}".repeat(blocks)) != null) {
                    return true;
                }
            }
        }
        return false;
    }

    /** Any number of parts, one behind the other; null if the text can't be cut so. */
    private static Told told(String text) {
        if (text.isEmpty()) {
            return NOTHING;
        }
        if (!templates.containsKey(text)) {
            Told found = null;
            for (int cut = 1; cut <= text.length() && found == null; cut++) {
                Told first = part(text.substring(0, cut));
                Told others = first == null ? null : told(text.substring(cut));
                found = others == null ? null : first.with(others);
            }
            templates.put(text, found);
        }
        return templates.get(text);
    }

    /** What a text tells that is one part; null if it is none. */
    private static Told part(String text) {
        if (PLAIN_OR_ESCAPE.matcher(text).matches()) {
            return new Told(1, 1, 0, 0, 0);
        }
        if (VALUE.matcher(text).matches()) {
            return new Told(1, 1, mask(text.charAt(text.length() - 2)), 0, 0);
        }
        if (!BLOCK.matcher(text).matches()) {
            return null;
        }
        Told within = told(text.substring(4, text.length() - 1));
        int name = mask(text.charAt(2));
        return within == null ? null : new Told(within.parts + 1, within.depth + 1, within.names | name,
                within.namesSet | (text.charAt(1) == '=' ? name : 0), within.loops + (text.charAt(1) == '*' ? 1 : 0));
    }

    private static int mask(char name) {
        return 1 << NAMES.indexOf(name);
    }
}
