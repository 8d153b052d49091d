/** What the tests by example share: calls are compared with what is due, and what is not as due is told. */
class Checks {
    static final int OUT_OF_BOUNDS = 1;
    static final int ILLEGAL_ARGUMENT = 2;
    static final int ILLEGAL_STATE = 3;

    // An object answers 512 calls, of which 120 may have typed its text.
    private static final int READ_OF_ONE = 300;

    static int wrong = 0;
    static String about = "";

    interface Call {
        void make();
    }

    static void due(String call, long got, long want) {
        if (got != want) {
            wrong++;
            System.out.println(about + ": " + call + " answered " + got + ", due is " + want);
        }
    }

    static void dueText(String call, String got, String want) {
        if (!got.equals(want)) {
            wrong++;
            System.out.println(about + ": " + call + " is <<" + got + ">>, due is <<" + want + ">>");
        }
    }

    static int thrown(Call call) {
        try {
            call.make();
            return 0;
        } catch (IndexOutOfBoundsException e) {
            return OUT_OF_BOUNDS;
        } catch (IllegalArgumentException e) {
            return ILLEGAL_ARGUMENT;
        } catch (IllegalStateException e) {
            return ILLEGAL_STATE;
        }
    }

    static Macrocosm of(String text) {
        Macrocosm x = new Macrocosm();
        for (int i = 0; i < text.length(); i++) {
            x.type(text.charAt(i));
        }
        return x;
    }

    static String textOf(Macrocosm x) {
        StringBuilder text = new StringBuilder();
        int length = x.length();
        for (int i = 0; i < length; i++) {
            text.append((char) x.at(i));
        }
        return text.toString();
    }

    static String expansionOf(String text) {
        Macrocosm x = of(text);
        if (x.fault() != 0) {
            return "fault " + x.fault() + " at " + x.faultPlace();
        }
        int length = x.expanded();
        StringBuilder expansion = new StringBuilder();
        for (int i = 0; i < length; i++) {
            if (i % READ_OF_ONE == 0) {
                x = of(text);
            }
            expansion.append((char) x.expandedAt(i));
        }
        return expansion.toString();
    }

    static void dueFault(String text, int fault, int place) {
        Macrocosm x = of(text);
        due("fault() of " + text, x.fault(), fault);
        due("faultPlace() of " + text, x.faultPlace(), place);
        if (fault != 0) {
            due("value() of " + text + " throws", thrown(() -> x.value()), ILLEGAL_STATE);
        }
    }

    static void dueValue(String text, long value, String expansion) {
        Macrocosm x = of(text);
        due("fault() of " + text, x.fault(), 0);
        if (x.fault() == 0) {
            due("value() of " + text, x.value(), value);
            due("valueByText() of " + text, x.valueByText(), value);
            dueText("the expansion of " + text, expansionOf(text), expansion);
        }
    }

    static String repeated(String part, int times) {
        return new String(new char[times]).replace("\0", part);
    }

    static void dueRename(String text, int place, char letter, String want) {
        Macrocosm x = of(text);
        boolean done = x.rename(place, letter - 'a');
        due("rename(" + place + ", " + letter + ") of " + text, done ? 1 : 0, want.equals(text) ? 0 : 1);
        dueText("the text after rename(" + place + ", " + letter + ")", textOf(x), want);
        due("fault() after it", x.fault(), 0);
    }

    static void dueHolds(String text, int place, int names, int macros, int between, int ahead) {
        Macrocosm x = of(text);
        due("holds(" + place + ", 0) of " + text, x.holds(place, 0), names);
        due("holds(" + place + ", 1) of " + text, x.holds(place, 1), macros);
        due("holds(" + place + ", 2) of " + text, x.holds(place, 2), between);
        due("holds(" + place + ", 3) of " + text, x.holds(place, 3), ahead);
    }

    static void tellAndExit() {
        System.out.println(wrong == 0 ? "all answers are as due" : wrong + " answers are not as due");
        if (wrong != 0) {
            System.exit(1);
        }
    }
}
