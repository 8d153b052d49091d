/** Edits one object again and again, up to 512 calls, and compares each answer with that of a model of its text. */
public final class EditTest {
    private static final int OBJECTS = 600;
    private static final int MOST_CALLS = 512;
    private static final long OUT_OF_BOUNDS = Long.MIN_VALUE + 1;
    private static final long ILLEGAL_ARGUMENT = Long.MIN_VALUE + 2;
    private static final long ILLEGAL_STATE = Long.MIN_VALUE + 3;

    private final Texts chance;
    private final Macrocosm object = new Macrocosm();
    private final StringBuilder text = new StringBuilder();
    private final StringBuilder history = new StringBuilder();
    private Model model;
    private int calls;
    private boolean failed;

    private EditTest(Texts chance) {
        this.chance = chance;
    }

    private interface Call {
        long ask();
    }

    public static void main(String[] args) {
        int count = args.length > 0 ? Integer.parseInt(args[0]) : OBJECTS;
        Texts chance = new Texts(args.length > 1 ? Long.parseLong(args[1]) : 99);
        int wrong = 0;
        for (int i = 0; i < count; i++) {
            EditTest test = new EditTest(chance);
            test.run();
            wrong += test.failed ? 1 : 0;
        }
        System.out.println(wrong == 0 ? count + " objects answer as their models" : wrong + " objects answer otherwise");
        if (wrong != 0) {
            System.exit(1);
        }
    }

    private void run() {
        while (calls < MOST_CALLS && !failed) {
            int kind = chance.below(30);
            if (kind == 0) {
                writeAnew();
            } else if (kind < 10) {
                edit();
            } else {
                question();
            }
        }
    }

    private static long answer(Call call) {
        try {
            return call.ask();
        } catch (IndexOutOfBoundsException e) {
            return OUT_OF_BOUNDS;
        } catch (IllegalArgumentException e) {
            return ILLEGAL_ARGUMENT;
        } catch (IllegalStateException e) {
            return ILLEGAL_STATE;
        }
    }

    private void due(String name, Call call, long want) {
        if (calls >= MOST_CALLS || failed) {
            return;
        }
        calls++;
        long got = answer(call);
        history.append(name).append(' ');
        if (got != want) {
            failed = true;
            System.out.println("text <<" + text + ">>: " + name + " answered " + got + ", due is " + want
                    + ", after " + history);
        }
    }

    private Model model() {
        if (model == null || !model.text.contentEquals(text)) {
            model = new Model(text.toString());
        }
        return model;
    }

    private void writeAnew() {
        if (calls > 380) {
            return;
        }
        int had = text.length();
        text.setLength(0);
        due("clear()", () -> object.clear(), had);
        String next = chance.next();
        for (int i = 0; i < next.length(); i++) {
            char character = next.charAt(i);
            text.append(character);
            due("type(" + character + ")", () -> object.type(character), text.length());
        }
    }

    private char someCharacter() {
        return "abfl1259+-*!#=;,(){}^ \nlet".charAt(chance.below(26));
    }

    private void edit() {
        int place = chance.below(text.length() + 4) - 1;
        char character = someCharacter();
        int kind = chance.below(5);
        if (kind == 0) {
            long want = text.length() >= 120 ? ILLEGAL_STATE : text.length() + 1;
            due("type(" + character + ")", () -> object.type(character), want);
            if (want > 0) {
                text.append(character);
            }
        } else if (kind == 1) {
            boolean isOut = place < 0 || place > text.length();
            long want = isOut ? OUT_OF_BOUNDS : text.length() >= 120 ? ILLEGAL_STATE : text.length() + 1;
            due("insert(" + place + ", " + character + ")", () -> object.insert(place, character), want);
            if (want > 0) {
                text.insert(place, character);
            }
        } else if (kind == 2) {
            boolean isOut = place < 0 || place >= text.length();
            due("erase(" + place + ")", () -> object.erase(place), isOut ? OUT_OF_BOUNDS : text.charAt(place));
            if (!isOut) {
                text.deleteCharAt(place);
            }
        } else {
            rename(place, kind == 3 ? chance.below(26) : chance.below(30) - 2);
        }
    }

    private void rename(int place, int letter) {
        String renamed = null;
        long want;
        if (letter < 0 || letter > 25) {
            want = ILLEGAL_ARGUMENT;
        } else if (model().fault != 0) {
            want = ILLEGAL_STATE;
        } else {
            renamed = model().renamed(place, letter);
            want = renamed == null ? 0 : 1;
        }
        due("rename(" + place + ", " + letter + ")", () -> object.rename(place, letter) ? 1 : 0, want);
        if (renamed != null) {
            text.setLength(0);
            text.append(renamed);
        }
    }

    private void question() {
        int place = chance.below(text.length() + 4) - 1;
        switch (chance.below(4)) {
            case 0:
                askText(place);
                break;
            case 1:
                askValues(place);
                break;
            default:
                askNames(place);
                break;
        }
    }

    private void askText(int place) {
        boolean isOut = place < 0 || place >= text.length();
        due("length()", () -> object.length(), text.length());
        due("at(" + place + ")", () -> object.at(place), isOut ? OUT_OF_BOUNDS : text.charAt(place));
        due("fault()", () -> object.fault(), model().fault);
        due("faultPlace()", () -> object.faultPlace(), model().faultPlace);
    }

    private void askValues(int place) {
        Model asked = model();
        boolean sound = asked.fault == 0;
        int inside = asked.expansion.isEmpty() ? place : place * 3 % (asked.expansion.length() + 2);
        boolean isOut = inside < 0 || inside >= asked.expansion.length();
        due("valueByText()", () -> object.valueByText(), sound ? asked.value : ILLEGAL_STATE);
        due("value()", () -> object.value(), sound ? asked.value : ILLEGAL_STATE);
        due("parts()", () -> object.parts(), sound ? asked.parts : ILLEGAL_STATE);
        due("expanded()", () -> object.expanded(), sound ? asked.expansion.length() : ILLEGAL_STATE);
        due("expandedAt(" + inside + ")", () -> object.expandedAt(inside),
                !sound ? ILLEGAL_STATE : isOut ? OUT_OF_BOUNDS : asked.expansion.charAt(inside));
    }

    private void askNames(int place) {
        Model asked = model();
        boolean sound = asked.fault == 0;
        int what = chance.below(6) - 1;
        due("tokens()", () -> object.tokens(), asked.tokenCount());
        due("made(" + place + ")", () -> object.made(place), sound ? asked.made(place) : ILLEGAL_STATE);
        due("uses(" + place + ")", () -> object.uses(place), sound ? asked.uses(place) : ILLEGAL_STATE);
        boolean isOut = place < 0 || place > text.length();
        long wrong = isOut ? OUT_OF_BOUNDS : what < 0 || what > 3 ? ILLEGAL_ARGUMENT : sound ? 0 : ILLEGAL_STATE;
        due("holds(" + place + ", " + what + ")", () -> object.holds(place, what),
                wrong != 0 ? wrong : asked.holds(place, what));
    }
}
