/** The boundary cases of the document's promises 1 to 19, and of calls that are refused. */
public final class CallBoundaryTest extends Checks {
    private static final int LEAST = Integer.MIN_VALUE;
    private static final int MOST = Integer.MAX_VALUE;
    private static final String SOUND = "let a=1;mac f(b)=b+a;f(2)";
    private static final String FAULTY = "let a=1;b";

    public static void main(String[] args) {
        newObject();
        typeWhenFull();
        typeAnyCharacter();
        insertPlaces();
        insertWhenFull();
        erasePlaces();
        clearReturns();
        lengthAfterEdits();
        atPlaces();
        faultNumbers();
        faultPlaceOrNone();
        valueRefused();
        valueByTextReadAnew();
        partsRefused();
        expandedRefused();
        expandedAtPlaces();
        tokensUpToTheFirstThatIsNone();
        madeAtItself();
        madeNothing();
        usesItselfCounted();
        usesNothing();
        renameLetters();
        renameAtAllTokens();
        renameNamesAndMacrosAlone();
        renameBehindCaret();
        renameWithAFault();
        renameChangingMeanings();
        renameToTheSame();
        renameNotDoneChangesNothing();
        holdsPlaces();
        holdsWhat();
        holdsJustAhead();
        holdsBehindTheStatement();
        holdsParameters();
        holdsDifferentOnes();
        holdsAsAtFirst();
        throwingChangesNothing();
        firstNamedException();
        lastOfMostCalls();
        greatTextsAgainAndAgain();
        otherTextsAgainAndAgain();
        textsBehindFaultyOnes();
        textsBehindParameters();
        tellAndExit();
    }

    private static void dueState(Macrocosm x, String text, int fault, long value) {
        dueText("the text", textOf(x), text);
        due("length()", x.length(), text.length());
        due("fault()", x.fault(), fault);
        if (fault == 0 && x.fault() == 0) {
            due("value()", x.value(), value);
        }
    }

    private static void newObject() {
        about = "Macrocosm(): An empty text";
        dueState(new Macrocosm(), "", 0, 0);
        due("at(0) throws", thrown(() -> new Macrocosm().at(0)), OUT_OF_BOUNDS);
        due("erase(0) throws", thrown(() -> new Macrocosm().erase(0)), OUT_OF_BOUNDS);
        due("clear()", new Macrocosm().clear(), 0);
        due("type()", new Macrocosm().type('1'), 1);
        due("insert(0)", new Macrocosm().insert(0, '1'), 1);
        due("insert(1) throws", thrown(() -> new Macrocosm().insert(1, '1')), OUT_OF_BOUNDS);
        due("expandedAt(0) throws", thrown(() -> new Macrocosm().expandedAt(0)), OUT_OF_BOUNDS);
        due("holds(0, 2)", new Macrocosm().holds(0, 2), 3);
        due("holds(1, 2) throws", thrown(() -> new Macrocosm().holds(1, 2)), OUT_OF_BOUNDS);
        Macrocosm one = of("1");
        due("length() of another object", new Macrocosm().length(), 0);
        due("length() of the first", one.length(), 1);
    }

    private static void typeWhenFull() {
        about = "type throws IllegalStateException if it has 120";
        Macrocosm x = of(repeated(";", 118));
        due("type()", x.type('4'), 119);
        due("type()", x.type('2'), 120);
        due("type() throws", thrown(() -> x.type('0')), ILLEGAL_STATE);
        due("type() throws again", thrown(() -> x.type('0')), ILLEGAL_STATE);
        due("value()", x.value(), 42);
        due("at(119)", x.at(119), '2');
        x.erase(119);
        due("type() again", x.type('3'), 120);
        due("value()", x.value(), 43);
        x.clear();
        due("type() when emptied", x.type('3'), 1);
    }

    private static void typeAnyCharacter() {
        about = "type, a character: any";
        char[] some = {0, 1, 9, 10, 13, 32, 127, 128, 255, 256, 32767, 32768, 65534, 65535};
        Macrocosm x = new Macrocosm();
        for (int i = 0; i < some.length; i++) {
            due("type(" + (int) some[i] + ")", x.type(some[i]), i + 1);
        }
        for (int i = 0; i < some.length; i++) {
            due("at(" + i + ")", x.at(i), some[i]);
        }
        due("insert(0, 65535)", x.insert(0, (char) 65535), some.length + 1);
        due("erase(0)", x.erase(0), 65535);
        due("erase(13)", x.erase(13), 65535);
        due("erase(0) of a 0", x.erase(0), 0);
        due("tokens()", x.tokens(), 0);
        due("fault()", x.fault(), 1);
        due("faultPlace()", x.faultPlace(), 0);
    }

    private static void insertPlaces() {
        about = "insert, place: 0 to how many characters there are";
        Macrocosm x = of("12");
        due("insert(-1) throws", thrown(() -> x.insert(-1, '9')), OUT_OF_BOUNDS);
        due("insert(3) throws", thrown(() -> x.insert(3, '9')), OUT_OF_BOUNDS);
        due("insert(least) throws", thrown(() -> x.insert(LEAST, '9')), OUT_OF_BOUNDS);
        due("insert(most) throws", thrown(() -> x.insert(MOST, '9')), OUT_OF_BOUNDS);
        due("insert(120) throws", thrown(() -> x.insert(120, '9')), OUT_OF_BOUNDS);
        dueState(x, "12", 0, 12);
        due("insert(0)", x.insert(0, '3'), 3);
        dueState(x, "312", 0, 312);
        due("insert(3)", x.insert(3, '4'), 4);
        dueState(x, "3124", 0, 3124);
        due("insert(2)", x.insert(2, '5'), 5);
        dueState(x, "31524", 0, 31524);
    }

    private static void insertWhenFull() {
        about = "insert throws IllegalStateException if it has 120";
        Macrocosm x = of(repeated(";", 118) + "7");
        due("insert(0)", x.insert(0, '1'), 120);
        due("insert(0) throws", thrown(() -> x.insert(0, ';')), ILLEGAL_STATE);
        due("insert(60) throws", thrown(() -> x.insert(60, ';')), ILLEGAL_STATE);
        due("insert(120) throws", thrown(() -> x.insert(120, ';')), ILLEGAL_STATE);
        due("insert(121) throws", thrown(() -> x.insert(121, ';')), OUT_OF_BOUNDS);
        dueText("the text", textOf(x), "1" + repeated(";", 118) + "7");
        x.erase(0);
        due("insert(119)", x.insert(119, '8'), 120);
        due("value()", x.value(), 78);
    }

    private static void erasePlaces() {
        about = "erase throws IndexOutOfBoundsException if there is none";
        Macrocosm x = of("123");
        due("erase(-1) throws", thrown(() -> x.erase(-1)), OUT_OF_BOUNDS);
        due("erase(3) throws", thrown(() -> x.erase(3)), OUT_OF_BOUNDS);
        due("erase(least) throws", thrown(() -> x.erase(LEAST)), OUT_OF_BOUNDS);
        due("erase(most) throws", thrown(() -> x.erase(MOST)), OUT_OF_BOUNDS);
        dueState(x, "123", 0, 123);
        due("erase(2)", x.erase(2), '3');
        due("erase(2) throws", thrown(() -> x.erase(2)), OUT_OF_BOUNDS);
        due("erase(0)", x.erase(0), '1');
        dueState(x, "2", 0, 2);
        due("erase(0)", x.erase(0), '2');
        due("erase(0) throws", thrown(() -> x.erase(0)), OUT_OF_BOUNDS);
        dueState(x, "", 0, 0);
        Macrocosm full = of(repeated("{", 60) + repeated("}", 60));
        due("erase(119) of a full text", full.erase(119), '}');
        due("faultPlace()", full.faultPlace(), 119);
        due("erase(119) throws", thrown(() -> full.erase(119)), OUT_OF_BOUNDS);
    }

    private static void clearReturns() {
        about = "clear empties the text; returns how many characters it had";
        Macrocosm x = new Macrocosm();
        due("clear() of nothing", x.clear(), 0);
        x.type('1');
        due("clear() of one", x.clear(), 1);
        due("clear() again", x.clear(), 0);
        dueState(x, "", 0, 0);
        Macrocosm full = of(repeated("1", 120));
        due("clear() of a full text", full.clear(), 120);
        dueState(full, "", 0, 0);
        due("faultPlace()", full.faultPlace(), -1);
        due("tokens()", full.tokens(), 0);
    }

    private static void lengthAfterEdits() {
        about = "length returns how many characters the text has";
        Macrocosm x = new Macrocosm();
        due("length()", x.length(), 0);
        x.type(' ');
        due("length() of a blank", x.length(), 1);
        x.insert(0, (char) 0);
        due("length()", x.length(), 2);
        x.erase(1);
        due("length()", x.length(), 1);
        x.clear();
        due("length()", x.length(), 0);
        due("length() of a full text", of(repeated("1", 120)).length(), 120);
        Macrocosm renamed = of("let abcdef=1;abcdef");
        renamed.rename(4, 0);
        due("length() when renamed", renamed.length(), 9);
    }

    private static void atPlaces() {
        about = "at throws IndexOutOfBoundsException if there is none";
        Macrocosm x = of("ab");
        due("at(0)", x.at(0), 'a');
        due("at(1)", x.at(1), 'b');
        due("at(2) throws", thrown(() -> x.at(2)), OUT_OF_BOUNDS);
        due("at(-1) throws", thrown(() -> x.at(-1)), OUT_OF_BOUNDS);
        due("at(least) throws", thrown(() -> x.at(LEAST)), OUT_OF_BOUNDS);
        due("at(most) throws", thrown(() -> x.at(MOST)), OUT_OF_BOUNDS);
        Macrocosm full = of(repeated("1", 119) + "2");
        due("at(119) of a full text", full.at(119), '2');
        due("at(120) throws", thrown(() -> full.at(120)), OUT_OF_BOUNDS);
        x.clear();
        due("at(0) when emptied throws", thrown(() -> x.at(0)), OUT_OF_BOUNDS);
    }

    private static void faultNumbers() {
        about = "fault returns 0 for none, 1 to 6";
        dueFault("1", 0, -1);
        dueFault("1+", 1, 2);
        dueFault("a", 2, 0);
        dueFault("op ! 5 n(a,b)=a;1!2!3", 3, 19);
        dueFault("f()", 4, 0);
        dueFault("mac d(a)=a+a;d(d(d(d(d(d(d(d(1))))))))", 5, 0);
        dueFault("let a=1;let a=1", 6, 12);
    }

    private static void faultPlaceOrNone() {
        about = "faultPlace: where its token begins, or the length of the text for its end; -1 for none";
        dueFault("", 0, -1);
        dueFault("\n abcdef \n", 2, 2);
        dueFault("1+", 1, 2);
        dueFault("1+ \n ", 1, 5);
        dueFault(repeated("1+", 60), 1, 120);
        dueFault(repeated(";", 119) + "A", 1, 119);
    }

    private static void valueRefused() {
        about = "value throws IllegalStateException if the text has a fault";
        Macrocosm x = of(FAULTY);
        due("value() throws", thrown(() -> x.value()), ILLEGAL_STATE);
        x.erase(8);
        due("value() when mended", x.value(), 0);
        x.type('a');
        due("value()", x.value(), 1);
        x.type('A');
        due("value() throws again", thrown(() -> x.value()), ILLEGAL_STATE);
    }

    private static void valueByTextReadAnew() {
        about = "valueByText: the text of its expansion, read anew, without any operators and macros made";
        dueValue("op + 1 r(a,b)=a-b;op - 9 r(a,b)=b*a;9+5+2-3", 10, "(9-(5-(3*2)))");
        dueValue("op * 1 n(a,b)=a+b;2*3-1", 4, "(2+(3-1))");
        dueValue("", 0, "");
        due("valueByText() with a fault throws", thrown(() -> of(FAULTY).valueByText()), ILLEGAL_STATE);
        Macrocosm x = of(SOUND);
        due("valueByText()", x.valueByText(), 3);
        due("valueByText() again", x.valueByText(), 3);
        dueState(x, SOUND, 0, 3);
        due("made(21) behind it", x.made(21), 12);
    }

    private static void partsRefused() {
        about = "parts throws IllegalStateException if the text has a fault";
        Macrocosm x = of(SOUND);
        due("parts()", x.parts(), 5);
        x.type('!');
        due("parts() throws", thrown(() -> x.parts()), ILLEGAL_STATE);
        x.clear();
        due("parts() of nothing", x.parts(), 0);
    }

    private static void expandedRefused() {
        about = "expanded throws IllegalStateException if the text has a fault";
        Macrocosm x = of(SOUND);
        due("expanded()", x.expanded(), "let va=1;(2+va)".length());
        x.type('!');
        due("expanded() throws", thrown(() -> x.expanded()), ILLEGAL_STATE);
        x.clear();
        due("expanded() of nothing", x.expanded(), 0);
    }

    private static void expandedAtPlaces() {
        about = "expandedAt throws IllegalStateException with a fault, and IndexOutOfBoundsException if there is none";
        Macrocosm x = of(SOUND);
        due("expandedAt(0)", x.expandedAt(0), 'l');
        due("expandedAt(14)", x.expandedAt(14), ')');
        due("expandedAt(15) throws", thrown(() -> x.expandedAt(15)), OUT_OF_BOUNDS);
        due("expandedAt(-1) throws", thrown(() -> x.expandedAt(-1)), OUT_OF_BOUNDS);
        due("expandedAt(least) throws", thrown(() -> x.expandedAt(LEAST)), OUT_OF_BOUNDS);
        due("expandedAt(most) throws", thrown(() -> x.expandedAt(MOST)), OUT_OF_BOUNDS);
        due("expandedAt(0) of nothing throws", thrown(() -> of(";").expandedAt(0)), OUT_OF_BOUNDS);
        due("expandedAt(0) with a fault throws", thrown(() -> of(FAULTY).expandedAt(0)), ILLEGAL_STATE);
        due("expandedAt(-1) with a fault throws", thrown(() -> of(FAULTY).expandedAt(-1)), ILLEGAL_STATE);
        x.clear();
        x.type('5');
        due("expandedAt(0) of another text", x.expandedAt(0), '5');
        due("expandedAt(1) of it throws", thrown(() -> x.expandedAt(1)), OUT_OF_BOUNDS);
    }

    private static void tokensUpToTheFirstThatIsNone() {
        about = "tokens: how many tokens the text has, up to the first that is none";
        due("tokens() of nothing", of("").tokens(), 0);
        due("tokens() of blanks", of(" \n ").tokens(), 0);
        due("tokens() of one that is none", of("A").tokens(), 0);
        due("tokens() behind one that is none", of("A;;;").tokens(), 0);
        due("tokens()", of("1;A;2").tokens(), 2);
        due("tokens() behind another fault", of("1 2;;A;").tokens(), 4);
        due("tokens() with a fault", of("))))").tokens(), 4);
        due("tokens() of a full text", of(repeated("(", 120)).tokens(), 120);
        due("tokens() of a full text of numbers", of(repeated("1 ", 60)).tokens(), 60);
        due("tokens() of a full text, the last one none", of(repeated("(", 119) + "A").tokens(), 119);
    }

    private static void madeAtItself() {
        about = "made: also of the token at which it is made";
        Macrocosm x = of("let a=1;mac b(c)=c;op ! 5 l(d,e)=d;pre # 5(g)=g;b(#1!a)");
        due("made(4), a name", x.made(4), 4);
        due("made(12), a macro", x.made(12), 12);
        due("made(14), a parameter", x.made(14), 14);
        due("made(17), it", x.made(17), 14);
        due("made(22), a sign", x.made(22), 22);
        due("made(28), a parameter", x.made(28), 28);
        due("made(30), a parameter not used", x.made(30), 30);
        due("made(33), it", x.made(33), 28);
        due("made(39), a sign ahead", x.made(39), 39);
        due("made(48), the macro used", x.made(48), 12);
        due("made(50), the sign ahead used", x.made(50), 39);
        due("made(52), the sign used", x.made(52), 22);
        due("made(53), the name used", x.made(53), 4);
    }

    private static void madeNothing() {
        about = "made: -1 if no token begins there that means something that was made";
        Macrocosm x = of("let ab=1;op + 5 l(a,b)=a-b*1;mac l()=^ab;ab+2;l()");
        due("made(0), a word", x.made(0), -1);
        due("made(5), in a name", x.made(5), -1);
        due("made(3), a blank", x.made(3), -1);
        due("made(6), a mark", x.made(6), -1);
        due("made(7), a number", x.made(7), -1);
        due("made(9), a word", x.made(9), -1);
        due("made(14), a precedence", x.made(14), -1);
        due("made(16), a side", x.made(16), -1);
        due("made(17), a bracket", x.made(17), -1);
        due("made(24), - as at first", x.made(24), -1);
        due("made(26), * as at first", x.made(26), -1);
        due("made(29), a word", x.made(29), -1);
        due("made(37), a ^", x.made(37), -1);
        due("made(38), a name behind ^", x.made(38), -1);
        due("made(43), + as made", x.made(43), 12);
        due("made(-1)", x.made(-1), -1);
        due("made(49), behind the last one", x.made(49), -1);
        due("made(least)", x.made(LEAST), -1);
        due("made(most)", x.made(MOST), -1);
        due("made(0) of nothing", of("").made(0), -1);
        due("made(0) of + as at first", of("1+1").made(1), -1);
        due("made(0) with a fault throws", thrown(() -> of(FAULTY).made(0)), ILLEGAL_STATE);
        due("made(-1) with a fault throws", thrown(() -> of(FAULTY).made(-1)), ILLEGAL_STATE);
    }

    private static void usesItselfCounted() {
        about = "uses: how many tokens mean the same as the one that begins at a place, itself counted";
        due("uses() of a name not used", of("let a=1").uses(4), 1);
        due("uses() of a name used once", of("let a=1;a").uses(4), 2);
        due("uses() of its use", of("let a=1;a").uses(8), 2);
        due("uses() of a parameter not used", of("mac f(a)=1").uses(6), 1);
        due("uses() of a hidden one", of("let a=1;{let a=a;a;a}").uses(4), 2);
        due("uses() of what hides it", of("let a=1;{let a=a;a;a}").uses(13), 3);
        due("uses() of a macro beside a name", of("let f=1;mac f()=f;f();f").uses(12), 2);
        due("uses() of the name", of("let f=1;mac f()=f;f();f").uses(4), 3);
        due("uses() of a sign between", of("op ! 5 l(a,b)=a;pre ! 9(a)=a;1!!!2").uses(3), 2);
        due("uses() of the sign ahead", of("op ! 5 l(a,b)=a;pre ! 9(a)=a;1!!!2").uses(20), 3);
        due("uses() in what is not used", of("let a=1;mac f(b)=a+a").uses(4), 3);
        due("uses() of 112 tokens", of("let a=1;" + repeated("a+", 55) + "a;").uses(4), 57);
    }

    private static void usesNothing() {
        about = "uses: 0 if made() tells -1";
        Macrocosm x = of("let a=1+2;mac f()=^a;f()");
        due("uses(0)", x.uses(0), 0);
        due("uses(3)", x.uses(3), 0);
        due("uses(7), + as at first", x.uses(7), 0);
        due("uses(6), a number", x.uses(6), 0);
        due("uses(19), a name behind ^", x.uses(19), 0);
        due("uses(4), without that", x.uses(4), 1);
        due("uses(-1)", x.uses(-1), 0);
        due("uses(24)", x.uses(24), 0);
        due("uses(least)", x.uses(LEAST), 0);
        due("uses(most)", x.uses(MOST), 0);
        due("uses(0) of nothing", of("").uses(0), 0);
        due("uses() with a fault throws", thrown(() -> of(FAULTY).uses(4)), ILLEGAL_STATE);
    }

    private static void renameLetters() {
        about = "rename, letter: 0 for a to 25 for z";
        dueRename("let m=1;m", 4, 'a', "let a=1;a");
        dueRename("let m=1;m", 4, 'z', "let z=1;z");
        for (int letter : new int[] {-1, 26, LEAST, MOST}) {
            Macrocosm x = of("let m=1;m");
            due("rename(4, " + letter + ") throws", thrown(() -> x.rename(4, letter)), ILLEGAL_ARGUMENT);
            due("rename(0, " + letter + ") throws", thrown(() -> x.rename(0, letter)), ILLEGAL_ARGUMENT);
            dueState(x, "let m=1;m", 0, 1);
        }
        due("rename() with a fault throws", thrown(() -> of(FAULTY).rename(4, 2)), ILLEGAL_STATE);
    }

    private static void renameAtAllTokens() {
        about = "rename: at all tokens that mean it";
        dueRename("let ab=1;ab+{ab;let ab=ab;ab}+ab", 4, 'c', "let c=1;c+{c;let ab=c;ab}+c");
        dueRename("let ab=1;ab+{ab;let ab=ab;ab}+ab", 9, 'c', "let c=1;c+{c;let ab=c;ab}+c");
        dueRename("let ab=1;ab+{ab;let ab=ab;ab}+ab", 26, 'c', "let ab=1;ab+{ab;let c=ab;c}+ab");
        dueRename("mac foo()=1;mac bar()=foo();foo()", 4, 'f', "mac f()=1;mac bar()=f();f()");
        dueRename("mac f(abcdef)=abcdef;f(1)", 6, 'x', "mac f(x)=x;f(1)");
        String long1 = "let abcdef=1;" + repeated("abcdef+", 14) + "abcdef;;";
        dueRename(long1, 4, 'q', "let q=1;" + repeated("q+", 14) + "q;;");
    }

    private static void renameNamesAndMacrosAlone() {
        about = "rename: what a token means, a name or a macro";
        String text = "let a=1;op ! 5 l(b,c)=b;pre ! 9(d)=d;1+2!!3;a";
        for (int place : new int[] {0, 3, 5, 6, 7, 11, 13, 15, 28, 30, 38, 39, 40, 41, 42, -1, 45, 46, LEAST, MOST}) {
            dueRename(text, place, 'x', text);
        }
        dueRename(text, 17, 'x', "let a=1;op ! 5 l(x,c)=x;pre ! 9(d)=d;1+2!!3;a");
        dueRename(text, 32, 'x', "let a=1;op ! 5 l(b,c)=b;pre ! 9(x)=x;1+2!!3;a");
        dueRename(text, 44, 'x', "let x=1;op ! 5 l(b,c)=b;pre ! 9(d)=d;1+2!!3;x");
        dueRename("", 0, 'x', "");
    }

    private static void renameBehindCaret() {
        about = "rename is not done if some name behind ^ is the old or the new one";
        String text = "let a=1;let b=2;mac f()=^a;f()+b";
        dueRename(text, 4, 'c', text);
        dueRename(text, 12, 'a', text);
        dueRename(text, 12, 'c', "let a=1;let c=2;mac f()=^a;f()+c");
        dueRename(text, 20, 'a', text);
        dueRename(text, 20, 'b', "let a=1;let b=2;mac b()=^a;b()+b");
        String unused = "mac f()=^a;let b=1;b";
        dueRename(unused, 15, 'a', unused);
        dueRename(unused, 15, 'c', "mac f()=^a;let c=1;c");
        String macro = "mac a()=1;mac f()=^a;a()";
        dueRename(macro, 4, 'b', macro);
        String longer = "let ab=1;mac f()=^ab;f()";
        dueRename(longer, 4, 'c', longer);
        String elsewhere = "{let a=1;a};mac f()=^a;1";
        dueRename(elsewhere, 5, 'c', elsewhere);
    }

    private static void renameWithAFault() {
        about = "rename is not done if the text would have a fault";
        dueRename("let a=1;let b=2;b", 4, 'b', "let a=1;let b=2;b");
        dueRename("let a=1;let b=2;b", 12, 'a', "let a=1;let b=2;b");
        dueRename("mac f(a,b)=1", 8, 'a', "mac f(a,b)=1");
        dueRename("mac f()=1;mac g()=2", 4, 'g', "mac f()=1;mac g()=2");
        dueRename("mac f()=1;let g=2", 4, 'g', "mac g()=1;let g=2");
        dueRename("mac f()=1;let g=2", 14, 'f', "mac f()=1;let f=2");
        dueRename("{let a=1};let b=2", 14, 'a', "{let a=1};let a=2");
        dueRename("mac f()=1;{mac g(a)=a;f()}", 15, 'f', "mac f()=1;{mac g(a)=a;f()}");
    }

    private static void renameChangingMeanings() {
        about = "or if some token would mean something that is made at another token than before";
        dueRename("let a=1;{let b=2;a}", 13, 'a', "let a=1;{let b=2;a}");
        dueRename("let a=1;{let b=2;a}", 4, 'b', "let a=1;{let b=2;a}");
        dueRename("let a=1;{let b=2;b}", 13, 'a', "let a=1;{let a=2;a}");
        dueRename("let a=1;{let b=2;b};a", 13, 'a', "let a=1;{let a=2;a};a");
        dueRename("let a=1;mac f(b)=a;f(2)", 14, 'a', "let a=1;mac f(b)=a;f(2)");
        dueRename("let a=1;mac f(b)=b;f(2)", 14, 'a', "let a=1;mac f(a)=a;f(2)");
        dueRename("let a=1;mac f(b)=b;f(2)", 4, 'b', "let b=1;mac f(b)=b;f(2)");
        dueRename("let a=1;mac f(b)=a;f(2)", 4, 'b', "let a=1;mac f(b)=a;f(2)");
        dueRename("mac f()=1;{mac g()=2;f()}", 15, 'f', "mac f()=1;{mac g()=2;f()}");
        dueRename("mac f()=1;{mac g()=f();g()}", 15, 'f', "mac f()=1;{mac f()=f();f()}");
        dueRename("let a=1;{let b=a;b}", 13, 'a', "let a=1;{let a=a;a}");
        dueRename("let a=1;{a;let b=2;b}", 15, 'a', "let a=1;{a;let a=2;a}");
    }

    private static void renameToTheSame() {
        about = "rename returns whether it is done, and the name is another one by that";
        dueRename("let a=1;a", 4, 'a', "let a=1;a");
        dueRename("let a=1;a", 8, 'a', "let a=1;a");
        dueRename("mac z()=1;z()", 4, 'z', "mac z()=1;z()");
        dueRename("let aa=1;aa", 4, 'a', "let a=1;a");
    }

    private static void renameNotDoneChangesNothing() {
        about = "rename that is not done changes nothing";
        Macrocosm x = of(SOUND);
        due("rename(14, a)", x.rename(14, 0) ? 1 : 0, 0);
        due("rename(4, b)", x.rename(4, 1) ? 1 : 0, 0);
        dueState(x, SOUND, 0, 3);
        due("uses(4)", x.uses(4), 2);
        due("valueByText()", x.valueByText(), 3);
        due("rename(4, c)", x.rename(4, 2) ? 1 : 0, 1);
        dueState(x, "let c=1;mac f(b)=b+c;f(2)", 0, 3);
        due("uses(4)", x.uses(4), 2);
        due("made(19)", x.made(19), 4);
        due("rename(4, a)", x.rename(4, 0) ? 1 : 0, 1);
        dueState(x, SOUND, 0, 3);
    }

    // ---- holds

    private static void holdsPlaces() {
        about = "holds, place: 0 to how many characters there are";
        Macrocosm x = of("let a=1;a");
        due("holds(0, 0)", x.holds(0, 0), 0);
        due("holds(9, 0)", x.holds(9, 0), 1);
        due("holds(10, 0) throws", thrown(() -> x.holds(10, 0)), OUT_OF_BOUNDS);
        due("holds(-1, 0) throws", thrown(() -> x.holds(-1, 0)), OUT_OF_BOUNDS);
        due("holds(least, 0) throws", thrown(() -> x.holds(LEAST, 0)), OUT_OF_BOUNDS);
        due("holds(most, 0) throws", thrown(() -> x.holds(MOST, 0)), OUT_OF_BOUNDS);
        Macrocosm full = of("let a=1;" + repeated(";", 111) + "a");
        due("holds(120, 0) of a full text", full.holds(120, 0), 1);
        due("holds(121, 0) throws", thrown(() -> full.holds(121, 0)), OUT_OF_BOUNDS);
    }

    private static void holdsWhat() {
        about = "holds, what: 0 names, 1 macros, 2 signs between two, 3 ahead of one";
        String text = "let a=1;mac f()=1;mac g()=1;op ! 5 l(a,b)=1;pre ! 5(a)=1;pre + 5(a)=1;pre - 5(a)=1;1";
        dueHolds(text, text.length(), 1, 2, 4, 3);
        Macrocosm x = of("1");
        for (int what : new int[] {-1, 4, LEAST, MOST}) {
            due("holds(0, " + what + ") throws", thrown(() -> x.holds(0, what)), ILLEGAL_ARGUMENT);
        }
        due("holds(0, 0)", x.holds(0, 0), 0);
        due("holds(0, 3)", x.holds(0, 3), 0);
    }

    private static void holdsJustAhead() {
        about = "holds: as for the last token that begins there or ahead of it, just ahead of this one";
        String text = "let abc=12;  abc  ";
        dueHolds(text, 0, 0, 0, 3, 0);
        dueHolds(text, 9, 0, 0, 3, 0);
        dueHolds(text, 10, 1, 0, 3, 0);
        dueHolds(text, 12, 1, 0, 3, 0);
        dueHolds(text, 13, 1, 0, 3, 0);
        dueHolds(text, 18, 1, 0, 3, 0);
        dueHolds("let abc=12", 10, 0, 0, 3, 0);
        dueHolds("let abc=12  ", 12, 0, 0, 3, 0);
        dueHolds("mac f()=1  ", 11, 0, 0, 3, 0);
        dueHolds("{let a=1;a}", 0, 0, 0, 3, 0);
        dueHolds("{let a=1;a}", 9, 1, 0, 3, 0);
        dueHolds("{let a=1;a}", 11, 1, 0, 3, 0);
        dueHolds("{let a=1;a};", 11, 0, 0, 3, 0);
    }

    private static void holdsBehindTheStatement() {
        about = "holds: behind the statement ahead of a ; or }";
        dueHolds("let a=1;", 7, 1, 0, 3, 0);
        dueHolds("{let a=1}", 8, 1, 0, 3, 0);
        dueHolds("{let a=1}", 7, 0, 0, 3, 0);
        dueHolds("mac f(a)=a;", 10, 0, 1, 3, 0);
        dueHolds("{mac f(a)=a}", 11, 0, 1, 3, 0);
        dueHolds("op ! 5 l(a,b)=a;", 15, 0, 0, 4, 0);
        dueHolds("{op ! 5 l(a,b)=a}", 16, 0, 0, 4, 0);
        dueHolds("pre ! 5(a)=a;", 12, 0, 0, 3, 1);
        dueHolds("{pre ! 5(a)=a}", 13, 0, 0, 3, 1);
        dueHolds("mac f(a)={let b=a;1};1", 19, 2, 0, 3, 0);
        dueHolds("mac f(a)={let b=a;1};1", 20, 0, 1, 3, 0);
        dueHolds("let a={let b=1;b};a", 16, 1, 0, 3, 0);
        dueHolds("let a={let b=1;b};a", 17, 1, 0, 3, 0);
        dueHolds("let a={let b=1;let c=2};a", 22, 2, 0, 3, 0);
        dueHolds("let a={let b=1;let c=2};a", 23, 1, 0, 3, 0);
    }

    private static void holdsParameters() {
        about = "holds: with parameters from the first token of their E on";
        String macro = "mac f(a,b,c)= {1}+a;1";
        dueHolds(macro, 6, 0, 0, 3, 0);
        dueHolds(macro, 10, 0, 0, 3, 0);
        dueHolds(macro, 12, 0, 0, 3, 0);
        dueHolds(macro, 13, 0, 0, 3, 0);
        dueHolds(macro, 14, 3, 0, 3, 0);
        dueHolds(macro, 15, 3, 0, 3, 0);
        dueHolds(macro, 18, 3, 0, 3, 0);
        dueHolds(macro, 19, 0, 1, 3, 0);
        dueHolds(macro, 20, 0, 1, 3, 0);
        dueHolds("op ! 5 l(a,b)=a", 13, 0, 0, 3, 0);
        dueHolds("op ! 5 l(a,b)=a", 14, 2, 0, 3, 0);
        dueHolds("pre ! 5(a)=a", 10, 0, 0, 3, 0);
        dueHolds("pre ! 5(a)=a", 11, 1, 0, 3, 0);
        dueHolds("mac f()=1", 8, 0, 0, 3, 0);
    }

    private static void holdsDifferentOnes() {
        about = "holds returns how many different ones hold";
        dueHolds("let a=1;{let a=2;a}", 17, 1, 0, 3, 0);
        dueHolds("let a=1;mac f(a,b)=a", 19, 2, 0, 3, 0);
        dueHolds("let a=1;mac f(a,b)={let b=1;b};1", 28, 2, 0, 3, 0);
        dueHolds("mac f()=1;{mac f()=2;f()}", 21, 0, 1, 3, 0);
        dueHolds("op + 5 l(a,b)=a;1", 16, 0, 0, 3, 0);
        dueHolds("pre + 5(a)=a;1", 13, 0, 0, 3, 1);
        dueHolds("let f=1;mac f()=1;1", 18, 1, 1, 3, 0);
        dueHolds("let a=1;{let a=2;{let a=3;a};a};a", 26, 1, 0, 3, 0);
        dueHolds("let a=1;{let a=2;{let a=3;a};a};a", 29, 1, 0, 3, 0);
        dueHolds("let a=1;{let a=2;{let a=3;a};a};a", 32, 1, 0, 3, 0);
    }

    private static void holdsAsAtFirst() {
        about = "holds: as at first, if there is none";
        dueHolds("", 0, 0, 0, 3, 0);
        dueHolds("  ", 0, 0, 0, 3, 0);
        dueHolds(" \n", 2, 0, 0, 3, 0);
        dueHolds("  let a=1;a", 1, 0, 0, 3, 0);
        dueHolds("  let a=1;a", 2, 0, 0, 3, 0);
        due("holds() with a fault throws", thrown(() -> of(FAULTY).holds(0, 0)), ILLEGAL_STATE);
    }

    // ---- calls that throw

    private static void throwingChangesNothing() {
        about = "A call that throws an exception changes nothing";
        Macrocosm x = of(SOUND);
        int length = SOUND.length();
        due("insert throws", thrown(() -> x.insert(length + 1, 'x')), OUT_OF_BOUNDS);
        dueState(x, SOUND, 0, 3);
        due("erase throws", thrown(() -> x.erase(length)), OUT_OF_BOUNDS);
        dueState(x, SOUND, 0, 3);
        due("at throws", thrown(() -> x.at(length)), OUT_OF_BOUNDS);
        due("expandedAt throws", thrown(() -> x.expandedAt(15)), OUT_OF_BOUNDS);
        due("rename throws", thrown(() -> x.rename(4, 26)), ILLEGAL_ARGUMENT);
        dueState(x, SOUND, 0, 3);
        due("holds throws", thrown(() -> x.holds(length + 1, 0)), OUT_OF_BOUNDS);
        due("holds throws", thrown(() -> x.holds(0, 4)), ILLEGAL_ARGUMENT);
        dueState(x, SOUND, 0, 3);
        due("uses(4)", x.uses(4), 2);
        faultyStaysAsItIs();
        fullStaysAsItIs();
    }

    private static void faultyStaysAsItIs() {
        Macrocosm x = of(FAULTY);
        due("value throws", thrown(() -> x.value()), ILLEGAL_STATE);
        due("valueByText throws", thrown(() -> x.valueByText()), ILLEGAL_STATE);
        due("parts throws", thrown(() -> x.parts()), ILLEGAL_STATE);
        due("expanded throws", thrown(() -> x.expanded()), ILLEGAL_STATE);
        due("expandedAt throws", thrown(() -> x.expandedAt(0)), ILLEGAL_STATE);
        due("made throws", thrown(() -> x.made(0)), ILLEGAL_STATE);
        due("uses throws", thrown(() -> x.uses(0)), ILLEGAL_STATE);
        due("rename throws", thrown(() -> x.rename(4, 1)), ILLEGAL_STATE);
        due("holds throws", thrown(() -> x.holds(0, 0)), ILLEGAL_STATE);
        dueState(x, FAULTY, 2, 0);
        due("faultPlace()", x.faultPlace(), 8);
        due("tokens()", x.tokens(), 6);
    }

    private static void fullStaysAsItIs() {
        String text = repeated(";", 118) + "12";
        Macrocosm x = of(text);
        due("type throws", thrown(() -> x.type('3')), ILLEGAL_STATE);
        due("insert throws", thrown(() -> x.insert(0, '3')), ILLEGAL_STATE);
        due("insert throws", thrown(() -> x.insert(120, '3')), ILLEGAL_STATE);
        dueState(x, text, 0, 12);
    }

    private static void firstNamedException() {
        about = "If several exceptions apply, the one that is named first in the throws clause is thrown";
        Macrocosm full = of(repeated("1", 120));
        due("insert out of a full text", thrown(() -> full.insert(121, '1')), OUT_OF_BOUNDS);
        due("insert ahead of a full text", thrown(() -> full.insert(-1, '1')), OUT_OF_BOUNDS);
        Macrocosm faulty = of(FAULTY);
        due("expandedAt(-1) with a fault", thrown(() -> faulty.expandedAt(-1)), ILLEGAL_STATE);
        due("expandedAt(most) with a fault", thrown(() -> faulty.expandedAt(MOST)), ILLEGAL_STATE);
        due("rename(4, 26) with a fault", thrown(() -> faulty.rename(4, 26)), ILLEGAL_ARGUMENT);
        due("rename(4, -1) with a fault", thrown(() -> faulty.rename(4, -1)), ILLEGAL_ARGUMENT);
        due("holds(-1, 4) with a fault", thrown(() -> faulty.holds(-1, 4)), OUT_OF_BOUNDS);
        due("holds(10, -1) with a fault", thrown(() -> faulty.holds(10, -1)), OUT_OF_BOUNDS);
        due("holds(10, 0) with a fault", thrown(() -> faulty.holds(10, 0)), OUT_OF_BOUNDS);
        due("holds(0, 4) with a fault", thrown(() -> faulty.holds(0, 4)), ILLEGAL_ARGUMENT);
        due("holds(0, 0) with a fault", thrown(() -> faulty.holds(0, 0)), ILLEGAL_STATE);
        Macrocosm sound = of("1");
        due("holds(2, 4)", thrown(() -> sound.holds(2, 4)), OUT_OF_BOUNDS);
        due("holds(-1, -1)", thrown(() -> sound.holds(-1, -1)), OUT_OF_BOUNDS);
    }

    private static void lastOfMostCalls() {
        about = "An object is used for at most 512 calls";
        Macrocosm x = new Macrocosm();
        for (int call = 1; call <= 508; call += 4) {
            due("type()", x.type('7'), 1);
            due("value()", x.value(), 7);
            due("erase(0)", x.erase(0), '7');
            due("valueByText()", x.valueByText(), 0);
        }
        due("call 509", x.type('8'), 1);
        due("call 510", x.valueByText(), 8);
        due("call 511", x.clear(), 1);
        due("call 512", x.value(), 0);
    }

    private static void greatTextsAgainAndAgain() {
        about = "An object is used for at most 512 calls, with a text that is read and expanded anew again and again";
        // 1 + 9 * 5 = 46 uses, most of them with three parts.
        String text = "let x=7;mac i(a,b,c)=c;mac n(a)={a;a;a;a;a;a;a;a;a};n(i(1,2,i(1,2,i(1,2,i(1,2,{mac j()=x;j()})))))";
        Macrocosm x = of(text);
        int calls = text.length();
        due("parts()", x.parts(), 2 + 1 + 9 * 2);
        for (calls++; calls + 6 <= 512; calls += 6) {
            due("type()", x.type('1'), text.length() + 1);
            due("fault()", x.fault(), 1);
            due("erase()", x.erase(text.length()), '1');
            due("value()", x.value(), 7);
            due("parts()", x.parts(), 21);
            due("valueByText()", x.valueByText(), 7);
        }
        due("expanded()", x.expanded(), "let va=7;{}".length() + 9 * "{va}".length() + 8);
    }

    private static void otherTextsAgainAndAgain() {
        about = "What a text was before is forgotten";
        Macrocosm x = of("let a=1;mac f(b)=^c+b;let c=2;f(a)");
        due("value()", x.value(), 3);
        due("clear()", x.clear(), 34);
        write(x, "a=1;c;f(2)");
        due("faultPlace()", x.faultPlace(), 0);
        x.clear();
        write(x, "let a=1;rest");
        due("faultPlace()", x.faultPlace(), 8);
        x.clear();
        write(x, "let d=5;1+2*3;d");
        due("made(9), a sign as at first", x.made(9), -1);
        due("uses(4)", x.uses(4), 2);
        due("expandedAt(5)", x.expandedAt(5), 'a');
        due("parts()", x.parts(), 8);
        due("holds(14, 0)", x.holds(14, 0), 1);
        due("holds(14, 1)", x.holds(14, 1), 0);
        due("holds(14, 2)", x.holds(14, 2), 3);
        due("rename(14, c), no longer behind a ^", x.rename(14, 2) ? 1 : 0, 1);
        dueText("the text", textOf(x), "let c=5;1+2*3;c");
        due("value()", x.value(), 5);
    }

    private static void textsBehindFaultyOnes() {
        about = "What a text with a fault was is forgotten";
        Macrocosm x = of(repeated("(", 100));
        for (int i = 0; i < 5; i++) {
            due("faultPlace()", x.faultPlace(), 100 + i);
            x.type('(');
        }
        x.clear();
        write(x, "2+{3}");
        due("value()", x.value(), 5);
        due("parts()", x.parts(), 4);
        x.clear();
        write(x, "mac d(a)={a;a};d(d(d(d(d(d(d(d(1))))))))");
        due("fault()", x.fault(), 5);
        x.erase(39);
        x.erase(17);
        x.erase(16);
        due("fault() of one less", x.fault(), 0);
        due("expanded()", x.expanded(), 128 + 127 * 3);
        x.clear();
        write(x, "4;5");
        due("value()", x.value(), 5);
        due("expanded()", x.expanded(), 3);
        due("valueByText()", x.valueByText(), 5);
    }

    private static void textsBehindParameters() {
        about = "What a token, or what was made, was in another text is forgotten";
        Macrocosm x = of("mac f(b)=b;mac g(b)=b;f(g(1))");
        due("value()", x.value(), 1);
        x.clear();
        write(x, "let a=1;let b=2;let c=3;let d=4;a+b+c+d");
        due("value()", x.value(), 10);
        due("valueByText()", x.valueByText(), 10);
        due("uses(12)", x.uses(12), 2);
        x.clear();
        write(x, "let a=1;1+a");
        due("uses(4)", x.uses(4), 2);
        x.clear();
        write(x, "let a=1;a;");
        due("uses(4) of a shorter text", x.uses(4), 2);
        x.clear();
        write(x, "mac f()=^a;let a=1;f()");
        due("value()", x.value(), 1);
        x.clear();
        write(x, "mac f()=2;f()");
        due("value() without a name behind ^", x.fault() == 0 ? x.value() : -1, 2);
        x.clear();
        String numbers = repeated("1;", 25);
        write(x, numbers);
        for (int place = 0; place <= numbers.length(); place++) {
            due("made(" + place + ")", x.made(place), -1);
            due("uses(" + place + ")", x.uses(place), 0);
        }
    }

    private static void write(Macrocosm x, String text) {
        for (int i = 0; i < text.length(); i++) {
            x.type(text.charAt(i));
        }
    }
}
