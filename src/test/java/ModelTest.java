/** Compares all answers of the class with those of the model, over many texts. */
public final class ModelTest {
    private static final int TEXTS = 4000;
    private static final int MOST_CALLS = 500;

    private final String text;
    private final Model model;
    private Macrocosm object;
    private int calls;
    private String first = "";

    private ModelTest(String text) {
        this.text = text;
        model = new Model(text);
        calls = MOST_CALLS;
    }

    public static void main(String[] args) {
        int count = args.length > 0 ? Integer.parseInt(args[0]) : TEXTS;
        Texts texts = new Texts(args.length > 1 ? Long.parseLong(args[1]) : 1);
        int[] faults = new int[7];
        int wrong = 0;
        int renamed = 0;
        int tried = 0;
        for (int i = 0; i < count; i++) {
            ModelTest test = new ModelTest(texts.next());
            test.compare(texts);
            faults[test.model.fault]++;
            if (!test.first.isEmpty() && wrong++ < 10) {
                System.out.println("text <<" + test.text + ">>: " + test.first);
            }
            renamed += test.renamed;
            tried += test.tried;
        }
        System.out.println(count + " texts; without fault, and with faults 1 to 6: " + java.util.Arrays.toString(faults)
                + "; renamed " + renamed + " of " + tried);
        System.out.println(wrong == 0 ? "all answers are those of the model" : wrong + " texts are answered otherwise");
        if (wrong != 0) {
            System.exit(1);
        }
    }

    private int renamed;
    private int tried;

    /** An object that has the text, and has not yet been asked too often. */
    private Macrocosm ready() {
        if (calls >= MOST_CALLS) {
            object = new Macrocosm();
            for (int i = 0; i < text.length(); i++) {
                object.type(text.charAt(i));
            }
            calls = text.length();
        }
        calls++;
        return object;
    }

    private void due(String call, long got, long want) {
        if (got != want && first.isEmpty()) {
            first = call + " answered " + got + ", due is " + want;
        }
    }

    private interface Call {
        long ask(Macrocosm object);
    }

    private static final long REFUSED = Long.MIN_VALUE + 7;

    private long ask(Call call) {
        try {
            return call.ask(ready());
        } catch (IllegalStateException refused) {
            return REFUSED;
        }
    }

    private void compare(Texts texts) {
        boolean sound = model.fault == 0;
        due("fault()", ready().fault(), model.fault);
        due("faultPlace()", ready().faultPlace(), model.faultPlace);
        due("tokens()", ready().tokens(), model.tokenCount());
        due("value()", ask(x -> x.value()), sound ? model.value : REFUSED);
        due("valueByText()", ask(x -> x.valueByText()), sound ? model.value : REFUSED);
        due("value() again", ask(x -> x.value()), sound ? model.value : REFUSED);
        due("parts()", ask(x -> x.parts()), sound ? model.parts : REFUSED);
        due("expanded()", ask(x -> x.expanded()), sound ? model.expansion.length() : REFUSED);
        if (sound) {
            compareExpansion();
        }
        for (int place = -1; place <= text.length() + 1; place++) {
            comparePlace(place, sound);
        }
        for (int i = 0; i < 12; i++) {
            compareRename(texts.below(text.length() + 1), texts.below(26));
            compareRename(texts.below(text.length() + 1), "abclnxfgr".charAt(texts.below(9)) - 'a');
        }
    }

    private void compareExpansion() {
        for (int i = 0; i < model.expansion.length(); i++) {
            int place = i;
            due("expandedAt(" + i + ")", ask(x -> x.expandedAt(place)), model.expansion.charAt(i));
        }
        Model plain = new Model(model.expansion.length() <= 120 ? model.expansion : "");
        if (model.expansion.length() <= 120) {
            due("the model's own expansion, read anew", plain.value, model.value);
            due("the parts of the model's own expansion, read anew", plain.parts, model.parts);
        }
    }

    private void comparePlace(int place, boolean sound) {
        due("made(" + place + ")", ask(x -> x.made(place)), sound ? model.made(place) : REFUSED);
        due("uses(" + place + ")", ask(x -> x.uses(place)), sound ? model.uses(place) : REFUSED);
        for (int what = 0; what < 4 && place >= 0 && place <= text.length(); what++) {
            int sort = what;
            due("holds(" + place + ", " + what + ")", ask(x -> x.holds(place, sort)),
                    sound ? model.holds(place, what) : REFUSED);
        }
    }

    private void compareRename(int place, int letter) {
        // A new object, so that what a rename changes is not seen later, nor too many calls are made.
        calls = MOST_CALLS;
        if (model.fault != 0) {
            due("rename(" + place + ", " + letter + ")", ask(x -> x.rename(place, letter) ? 1 : 0), REFUSED);
            return;
        }
        String want = model.renamed(place, letter);
        due("rename(" + place + ", " + letter + ")", ask(x -> x.rename(place, letter) ? 1 : 0), want == null ? 0 : 1);
        tried++;
        renamed += want == null ? 0 : 1;
        String left = want == null ? text : want;
        due("length() after rename(" + place + ", " + letter + ")", object.length(), left.length());
        for (int i = 0; i < left.length() && i < object.length(); i++) {
            due("at(" + i + ") after rename(" + place + ", " + letter + ")", object.at(i), left.charAt(i));
        }
        if (want != null) {
            due("value() after rename(" + place + ", " + letter + ")", object.value(), model.value);
            compareMeanings(new Model(want));
        }
    }

    private void compareMeanings(Model after) {
        for (int place = 0; place < after.text.length(); place++) {
            due("made(" + place + ") after a rename", object.made(place), after.made(place));
        }
    }
}
