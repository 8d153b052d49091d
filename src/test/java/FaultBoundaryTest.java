/** The boundary cases of the document's "Faults", each sentence with a test of its own. */
public final class FaultBoundaryTest extends Checks {
    private static final String NONE = "op ! 5 n(a,b)=a-b;";
    private static final String GREAT = "mac d(a)=a+a;d(d(d(d(d(d(d(d(1))))))));";

    public static void main(String[] args) {
        cannotStand();
        isNoToken();
        endOfTheText();
        meansNothing();
        meansNothingWithCaret();
        whenItsPartsWereRead();
        mayNotFollow();
        noSuchMacro();
        anotherNumberOfParts();
        partsAreReadAhead();
        madeTwice();
        madeTwiceWhenRead();
        tooGreat();
        tooGreatIfNoOther();
        theFirstComeTo();
        noPrecedenceCannotStand();
        noSideCannotStand();
        tellAndExit();
    }

    private static void cannotStand() {
        about = "1 a token that cannot stand where it does";
        String[] marks = {"=", ",", ")", "}", "^", "+", "!"};
        for (String mark : marks) {
            dueFault(mark, 1, 0);
            dueFault("  " + mark, 1, 2);
            dueFault("1+" + mark, 1, 2);
            dueFault("let a=" + mark, 1, 6);
            dueFault("{1;" + mark.replace('}', ')'), 1, 3);
        }
        String[] behind = {"=", ",", ")", "}", "^", "!", "(", "{", "let", "op", "pre", "mac", "a", "2"};
        for (String token : behind) {
            dueFault("1 " + token, 1, 2);
        }
        dueFault("let a=1;a a", 1, 10);
        dueFault("let a=1;a{", 1, 9);
        dueFault("let = 1", 1, 4);
        dueFault("let a=1=2", 1, 7);
        dueFault("mac f()=1 2", 1, 10);
        dueFault("1+(2;3)", 1, 4);
        dueFault("mac f()=1;f{", 2, 10);
        dueFault("let let", 1, 4);
        dueFault("op let", 1, 3);
        dueFault("pre pre", 1, 4);
        dueFault("mac mac", 1, 4);
        dueFault("op =", 1, 3);
        dueFault("pre 1", 1, 4);
        dueFault("mac +", 1, 4);
    }

    private static void isNoToken() {
        about = "1 a token that is none";
        dueFault("A", 1, 0);
        dueFault(" \n _", 1, 3);
        dueFault("let A", 1, 4);
        dueFault("let a A", 1, 6);
        dueFault("let a=A", 1, 6);
        dueFault("let a=1 A", 1, 8);
        dueFault("op A", 1, 3);
        dueFault("op ! A", 1, 5);
        dueFault("op ! 5 A", 1, 7);
        dueFault("op ! 5 l A", 1, 9);
        dueFault("op ! 5 l(A", 1, 9);
        dueFault("op ! 5 l(a A", 1, 11);
        dueFault("op ! 5 l(a,A", 1, 11);
        dueFault("op ! 5 l(a,b A", 1, 13);
        dueFault("op ! 5 l(a,b) A", 1, 14);
        dueFault("op ! 5 l(a,b)=A", 1, 14);
        dueFault("mac f(A", 1, 6);
        dueFault("mac f()=^A", 1, 9);
        dueFault("mac f()=1;f(A", 1, 12);
        dueFault("mac f()=1;f(1 A", 1, 14);
        dueFault("{A", 1, 1);
        dueFault("(A", 1, 1);
        dueFault("1+A", 1, 2);
        dueFault("1;A", 1, 2);
        dueFault("1;abcdefg", 1, 2);
        dueFault("1;1234567890", 1, 2);
        dueFault("let a=1;a A", 1, 10);
    }

    private static void endOfTheText() {
        about = "1 the end of the text, told at the length of the text";
        String[] texts = {"let", "let a", "let a=", "op", "op !", "op ! 5", "op ! 5 l", "op ! 5 l(", "op ! 5 l(a",
            "op ! 5 l(a,", "op ! 5 l(a,b", "op ! 5 l(a,b)", "op ! 5 l(a,b)=", "pre", "pre !", "pre ! 5", "pre ! 5 (",
            "pre ! 5 (a", "pre ! 5 (a)", "pre ! 5 (a)=", "mac", "mac f", "mac f(", "mac f(a", "mac f(a,", "mac f(a)",
            "mac f(a)=", "mac f(a)=^", "1+", "(", "(1", "{", "{1", "{1;", "mac f()=1;f(", "mac f()=1;f(1",
            "mac f(a,b)=1;f(1", "mac f(a,b)=1;f(1,", "pre ! 5(a)=a;!"};
        for (String text : texts) {
            dueFault(text, 1, text.length());
            dueFault(text + " \n", 1, text.length() + 2);
        }
        dueFault(repeated("(", 120), 1, 120);
        dueFault("", 0, -1);
        dueFault("1", 0, -1);
    }

    private static void meansNothing() {
        about = "2 a name that means nothing, told at it";
        dueFault("a", 2, 0);
        dueFault("  abcdef  ", 2, 2);
        dueFault("1+a", 2, 2);
        dueFault("let a=b", 2, 6);
        dueFault("(a)", 2, 1);
        dueFault("{a}", 2, 1);
        dueFault("mac f(a)=b", 2, 9);
        dueFault("mac f(a)=a;f(a)", 2, 13);
        dueFault("mac f()=f", 2, 8);
        dueFault("let a=1;aa", 2, 8);
        dueFault("let aa=1;a", 2, 9);
        dueFault("mac f()=1;f", 2, 10);
        dueFault("l", 2, 0);
    }

    private static void meansNothingWithCaret() {
        about = "2 for a name with ^, at the name or sign of what is used";
        dueFault("mac f()=^a", 0, -1);
        dueFault("mac f()=^a;f()", 2, 11);
        dueFault("mac f()=^a; f()", 2, 12);
        dueFault("mac f(a)=^a;f(1)", 2, 12);
        dueFault("op ! 5 l(a,b)=^c;1 ! 2", 2, 19);
        dueFault("pre ! 5(a)=^c; ! 2", 2, 15);
        dueFault("mac f()=^a;let a=f()", 2, 17);
        dueFault("mac f()=^a;let a=1;f()", 0, -1);
        dueFault("mac f()=^a;{let a=1};f()", 2, 21);
        dueFault("mac f()=^a+^b;let a=1;f()", 2, 22);
        dueFault("mac f()={{^a}};f()", 2, 15);
        dueFault("mac f()=^f;f()", 2, 11);
        dueFault("mac f()=^a;mac g()=f();1", 2, 19);
        dueFault("mac f()={mac g()=^a;g()};1", 2, 20);
        dueFault("mac f()={mac g()=^a;1};f()", 0, -1);
        dueFault("mac f()=^a;mac z(a)=1;z(f())", 2, 24);
        dueFault("mac f()={let a=1;^a};f()", 2, 21);
    }

    private static void whenItsPartsWereRead() {
        about = "2 for a name with ^, when its parts were read";
        dueFault("mac f(a)=^c;f(b)", 2, 14);
        dueFault("mac f(a)=^c;f(1", 1, 15);
        dueFault("mac f(a)=^c;f(1 1", 1, 16);
        dueFault("mac f(a)=^c;f(1,1)", 4, 12);
        dueFault("mac f(a)=^c;f()", 4, 12);
        dueFault("mac f(a)=^c;f(1)A", 2, 12);
        dueFault("mac f(a)=^c;f({let c=1;1})", 2, 12);
        dueFault("mac f(a)=^c;f(f(1))", 2, 14);
        dueFault("op ! 5 l(a,b)=^c;1!", 1, 19);
        dueFault("op ! 5 l(a,b)=^c;1!d", 2, 19);
        dueFault("op ! 5 l(a,b)=^c;1!2*d", 2, 21);
        dueFault("op ! 5 l(a,b)=^c;1!2+d", 2, 18);
        dueFault("op ! 5 l(a,b)=^c;1!2!d", 2, 18);
        dueFault("op ! 5 r(a,b)=^c;1!2!d", 2, 21);
        dueFault("op ! 5 r(a,b)=^c;1!2!3", 2, 20);
        dueFault("pre ! 5(a)=^c;!2+d", 2, 17);
        dueFault("pre ! 6(a)=^c;!2+d", 2, 14);
        dueFault("pre ! 6(a)=^c;!!2", 2, 15);
    }

    private static void mayNotFollow() {
        about = "3 an operator that may not follow, as told for the side n";
        dueFault(NONE + "1!2", 0, -1);
        dueFault(NONE + "1!2 ! 3", 3, 22);
        dueFault(NONE + "1!2 + 3", 3, 22);
        dueFault(NONE + "1!2 - ", 3, 22);
        dueFault(NONE + "1!2 * 3", 0, -1);
        dueFault(NONE + "1!2*3*4!5", 3, 25);
        dueFault(NONE + "1!(2!3!4)", 3, 24);
        dueFault(NONE + "{1!2!3}", 3, 22);
        dueFault(NONE + "1!2 # 3", 1, 22);
        dueFault(NONE + "pre + 9(a)=a;1!2+3", 3, 34);
        dueFault(NONE + "pre + 9(a)=a;1!+2", 0, -1);
        dueFault(NONE + "pre # 3(a)=a;1!#2+3", 0, -1);
        dueFault(NONE + "pre # 3(a)=a;1!#2!3!4", 3, 37);
        dueFault(NONE + "pre # 6(a)=a;1!#2!3", 3, 35);
        dueFault(NONE + "{op ! 6 l(a,b)=a;1!2!3}", 0, -1);
        dueFault(NONE + "{op + 4 l(a,b)=a;1!2+3}", 0, -1);
        dueFault(NONE + "{op * 5 l(a,b)=a;1!2*3}", 3, 38);
    }

    private static void noSuchMacro() {
        about = "4 a name with ( behind, of which there is no macro, told at the name, then";
        dueFault("f()", 4, 0);
        dueFault("f(", 4, 0);
        dueFault("f(a", 4, 0);
        dueFault("f (A", 4, 0);
        dueFault(" f\n(1)", 4, 1);
        dueFault("let f=1;f(1)", 4, 8);
        dueFault("mac f(g)=g(1)", 4, 9);
        dueFault("mac f()=f()", 4, 8);
        dueFault("mac f()=1;ff()", 4, 10);
        dueFault("{mac f()=1};f()", 4, 12);
        dueFault("1+f(2)", 4, 2);
        dueFault("f", 2, 0);
        dueFault("f 1(", 2, 0);
    }

    private static void anotherNumberOfParts() {
        about = "4 another number of parts, told at the name, when the , or ) that is wrong is come to";
        String none = "mac f()=1;";
        dueFault(none + "f()", 0, -1);
        dueFault(none + "f(1)", 4, 10);
        dueFault(none + "f(1,", 4, 10);
        String one = "mac f(a)=1;";
        dueFault(one + "f()", 4, 11);
        dueFault(one + "f(1)", 0, -1);
        dueFault(one + "f(1,", 4, 11);
        dueFault(one + "f(1,A", 4, 11);
        dueFault(one + "f(1;", 1, 14);
        String two = "mac f(a,b)=1;";
        dueFault(two + "f()", 4, 13);
        dueFault(two + "f(1)", 4, 13);
        dueFault(two + "f(1,2)", 0, -1);
        dueFault(two + "f(1,2,", 4, 13);
        String three = "mac f(a,b,c)=1;";
        dueFault(three + "f()", 4, 15);
        dueFault(three + "f(1,2)", 4, 15);
        dueFault(three + "f(1,2,3)", 0, -1);
        dueFault(three + "f(1,2,3,4)", 4, 15);
        dueFault(three + "f(1,2,3 4)", 1, 23);
        dueFault(two + "f(f(1,2),f(1))", 4, 22);
    }

    private static void partsAreReadAhead() {
        about = "parts are read as expressions ahead of that, also those of a macro without parameters";
        dueFault("mac f()=1;f(a)", 2, 12);
        dueFault("mac f()=1;f(1+)", 1, 14);
        dueFault("mac f()=1;f(g())", 4, 12);
        dueFault("mac f()=1;f(1", 1, 13);
        dueFault("mac f()=1;f(;)", 1, 12);
        dueFault("mac f()=1;f(f(1))", 4, 12);
        dueFault("mac f()=1;f({let a=1;let a=2})", 6, 25);
        dueFault("mac f(a)=1;f(1+,2)", 1, 15);
        dueFault("mac f(a)=1;f(b,2)", 2, 13);
        dueFault("mac f(a,b)=1;f(1+)", 1, 17);
        dueFault("mac f(a,b)=1;f(c)", 2, 15);
    }

    private static void madeTwice() {
        about = "6 what is made twice, told at its name, sign or parameter";
        dueFault("let a=1;let  a=2", 6, 13);
        dueFault("op ! 5 l(a,b)=a;op  ! 5 l(a,b)=a", 6, 20);
        dueFault("pre ! 5(a)=a;pre  ! 5(a)=a", 6, 18);
        dueFault("mac f()=1;mac  f()=1", 6, 15);
        dueFault("mac f(a, a)=1", 6, 9);
        dueFault("op ! 5 l(a, a)=1", 6, 12);
        dueFault("{let a=1;{};let a=1}", 6, 16);
    }

    private static void madeTwiceWhenRead() {
        about = "6 what is made twice, told when that is read";
        dueFault("let a=1;let a", 6, 12);
        dueFault("let a=1;let a A", 6, 12);
        dueFault("let a=1;let a=b", 6, 12);
        dueFault("op ! 5 l(a,b)=a;op !", 6, 19);
        dueFault("op ! 5 l(a,b)=a;op ! 0", 6, 19);
        dueFault("pre ! 5(a)=a;pre ! 0", 6, 17);
        dueFault("mac f()=1;mac f 1", 6, 14);
        dueFault("mac f(a,a", 6, 8);
        dueFault("mac f(a,a A", 6, 8);
        dueFault("op ! 5 l(a,a,", 6, 11);
        dueFault("let a=1;let b=let a", 1, 14);
        dueFault("let a=1 let a", 1, 8);
    }

    private static void tooGreat() {
        about = "5 too great, told at 0";
        dueFault(GREAT, 5, 0);
        dueFault(" \n" + GREAT, 5, 0);
        dueFault("1;" + GREAT + "1", 5, 0);
        Macrocosm x = of(GREAT);
        due("tokens()", x.tokens(), 36);
        due("parts() throws", thrown(() -> x.parts()), ILLEGAL_STATE);
        due("valueByText() throws", thrown(() -> x.valueByText()), ILLEGAL_STATE);
        due("made(4) throws", thrown(() -> x.made(4)), ILLEGAL_STATE);
        due("holds(0, 0) throws", thrown(() -> x.holds(0, 0)), ILLEGAL_STATE);
        due("rename(4, 0) throws", thrown(() -> x.rename(4, 0)), ILLEGAL_STATE);
    }

    private static void tooGreatIfNoOther() {
        about = "5 if there is no other one";
        dueFault(GREAT + "a", 2, 39);
        dueFault(GREAT + "A", 1, 39);
        dueFault(GREAT + "f(1)", 4, 39);
        dueFault(GREAT + "d()", 4, 39);
        dueFault(GREAT + "mac d()=1", 6, 43);
        dueFault(GREAT + "1+", 1, 41);
        dueFault(GREAT + "mac f()=^a;f()", 2, 50);
        dueFault(GREAT + NONE + "1!2!3", 3, 60);
    }

    private static void theFirstComeTo() {
        about = "The first one that is come to is that of the text";
        dueFault("a;b", 2, 0);
        dueFault("a;A", 2, 0);
        dueFault("A;a", 1, 0);
        dueFault("a A", 2, 0);
        dueFault("1+;a", 1, 2);
        dueFault("let a=1;let a=2;b", 6, 12);
        dueFault("b;let a=1;let a=2", 2, 0);
        dueFault("mac f(a,a)=b", 6, 8);
        dueFault("mac f(a)=b;f(1,2)", 2, 9);
        dueFault(NONE + "1!2!a", 3, 21);
        dueFault(NONE + "1!a!2", 2, 20);
        dueFault("op ! 5 n(a,b)=^c;1!2!3", 2, 18);
        dueFault("f(a);a", 4, 0);
    }

    private static void noPrecedenceCannotStand() {
        about = "A number that is no precedence cannot stand there";
        dueFault("op ! 0 l(a,b)=1", 1, 5);
        dueFault("op ! 10 l(a,b)=1", 1, 5);
        dueFault("pre ! 0(a)=1", 1, 6);
        dueFault("pre ! 10(a)=1", 1, 6);
        dueFault("op ! 0", 1, 5);
        dueFault("op ! 0 m", 1, 5);
        dueFault("op ! 0 l(a,a)", 1, 5);
    }

    private static void noSideCannotStand() {
        about = "a name that is no side cannot stand there";
        dueFault("op ! 5 m(a,b)=1", 1, 7);
        dueFault("op ! 5 ln(a,b)=1", 1, 7);
        dueFault("op ! 5 abcdef(a,b)=1", 1, 7);
        dueFault("op ! 5 (a,b)=1", 1, 7);
        dueFault("let m=1;op ! 5 m(a,b)=1", 1, 15);
        dueFault("op ! 5 m(a,a)=1", 1, 7);
    }
}
