/** Examples for each promise of the document: ordinary ones, edges, and wrong inputs. */
public final class PromiseTest extends Checks {
    public static void main(String[] args) {
        newObject();
        type();
        insert();
        erase();
        clear();
        length();
        at();
        faultNoToken();
        faultCannotStand();
        faultHeads();
        faultMeansNothing();
        faultMayNotFollow();
        faultWrongUse();
        faultMadeTwice();
        faultTooGreat();
        usesUpToTwoHundred();
        faultPlace();
        value();
        valueOfMakings();
        valueOfCarets();
        valueByText();
        parts();
        expanded();
        expandedNames();
        expandedAt();
        tokens();
        made();
        uses();
        rename();
        renameRefused();
        holds();
        holdsInBodies();
        throwsChangeNothing();
        tellAndExit();
    }

    // ---- the text

    private static void newObject() {
        about = "promise 1";
        Macrocosm x = new Macrocosm();
        due("length()", x.length(), 0);
        due("fault()", x.fault(), 0);
        due("faultPlace()", x.faultPlace(), -1);
        due("value()", x.value(), 0);
        due("valueByText()", x.valueByText(), 0);
        due("parts()", x.parts(), 0);
        due("expanded()", x.expanded(), 0);
        due("tokens()", x.tokens(), 0);
        due("made(0)", x.made(0), -1);
        due("uses(0)", x.uses(0), 0);
        due("holds(0, 2)", x.holds(0, 2), 3);
        due("holds(0, 0)", x.holds(0, 0), 0);
        due("rename(0, 0)", x.rename(0, 0) ? 1 : 0, 0);
    }

    private static void type() {
        about = "promise 2";
        Macrocosm x = new Macrocosm();
        for (int i = 0; i < 120; i++) {
            due("type " + i, x.type((char) (i * 547)), i + 1);
        }
        for (int i = 0; i < 120; i++) {
            due("at(" + i + ")", x.at(i), (char) (i * 547));
        }
        due("type on a full text throws", thrown(() -> x.type('a')), ILLEGAL_STATE);
        due("length()", x.length(), 120);
        x.erase(5);
        due("type after erase", x.type((char) 65535), 120);
        due("at(119)", x.at(119), 65535);
    }

    private static void insert() {
        about = "promise 3";
        Macrocosm x = new Macrocosm();
        due("insert(0, b)", x.insert(0, 'b'), 1);
        due("insert(0, a)", x.insert(0, 'a'), 2);
        due("insert(2, d)", x.insert(2, 'd'), 3);
        due("insert(2, c)", x.insert(2, 'c'), 4);
        dueText("text", textOf(x), "abcd");
        due("insert(5) throws", thrown(() -> x.insert(5, 'x')), OUT_OF_BOUNDS);
        due("insert(-1) throws", thrown(() -> x.insert(-1, 'x')), OUT_OF_BOUNDS);
        due("insert(most) throws", thrown(() -> x.insert(Integer.MAX_VALUE, 'x')), OUT_OF_BOUNDS);
        due("insert(least) throws", thrown(() -> x.insert(Integer.MIN_VALUE, 'x')), OUT_OF_BOUNDS);
        Macrocosm full = of(repeated("1", 119));
        due("insert(0)", full.insert(0, '+'), 120);
        due("insert on a full text throws", thrown(() -> full.insert(0, 'x')), ILLEGAL_STATE);
        due("insert at its end throws", thrown(() -> full.insert(120, 'x')), ILLEGAL_STATE);
        due("insert out of it throws", thrown(() -> full.insert(121, 'x')), OUT_OF_BOUNDS);
        due("insert ahead of it throws", thrown(() -> full.insert(-1, 'x')), OUT_OF_BOUNDS);
        dueText("text", textOf(full), "+" + repeated("1", 119));
    }

    private static void erase() {
        about = "promise 4";
        Macrocosm x = of("abcd");
        due("erase(1)", x.erase(1), 'b');
        due("erase(2)", x.erase(2), 'd');
        due("erase(0)", x.erase(0), 'a');
        dueText("text", textOf(x), "c");
        due("erase(1) throws", thrown(() -> x.erase(1)), OUT_OF_BOUNDS);
        due("erase(-1) throws", thrown(() -> x.erase(-1)), OUT_OF_BOUNDS);
        due("erase(0)", x.erase(0), 'c');
        due("erase(0) throws", thrown(() -> x.erase(0)), OUT_OF_BOUNDS);
        due("erase(most) throws", thrown(() -> x.erase(Integer.MAX_VALUE)), OUT_OF_BOUNDS);
        due("length()", x.length(), 0);
        x.type((char) 0);
        due("erase(0) of a 0", x.erase(0), 0);
        Macrocosm changed = of("12+3");
        changed.value();
        changed.erase(0);
        due("value() after erase", changed.value(), 5);
    }

    private static void clear() {
        about = "promise 5";
        Macrocosm x = of("1+");
        due("fault()", x.fault(), 1);
        due("clear()", x.clear(), 2);
        due("clear()", x.clear(), 0);
        due("fault()", x.fault(), 0);
        due("length()", x.length(), 0);
        due("clear() of a full text", of(repeated("{", 120)).clear(), 120);
    }

    private static void length() {
        about = "promise 6";
        Macrocosm x = of(" 1 ");
        due("length()", x.length(), 3);
        x.insert(0, '2');
        due("length()", x.length(), 4);
        x.erase(0);
        due("length()", x.length(), 3);
    }

    private static void at() {
        about = "promise 7";
        Macrocosm x = of("a\n");
        due("at(0)", x.at(0), 'a');
        due("at(1)", x.at(1), 10);
        due("at(2) throws", thrown(() -> x.at(2)), OUT_OF_BOUNDS);
        due("at(-1) throws", thrown(() -> x.at(-1)), OUT_OF_BOUNDS);
        x.erase(1);
        due("at(1) throws", thrown(() -> x.at(1)), OUT_OF_BOUNDS);
    }

    // ---- faults

    private static void faultNoToken() {
        about = "promise 8, no token";
        dueFault("A", 1, 0);
        dueFault("1;\t", 1, 2);
        dueFault("\r", 1, 0);
        dueFault("_", 1, 0);
        dueFault("\"", 1, 0);
        dueFault("1+[", 1, 2);
        dueFault(String.valueOf((char) 353), 1, 0);
        dueFault("let abcdef=1;abcdef", 0, -1);
        dueFault("let abcdefg=1", 1, 4);
        dueFault("1;999999999", 0, -1);
        dueFault("1;1234567890", 1, 2);
        dueFault("000000001", 0, -1);
        dueFault("0000000001", 1, 0);
        dueFault("x;A", 2, 0);
    }

    private static void faultCannotStand() {
        about = "promise 8, what cannot stand";
        dueFault(";;;", 0, -1);
        dueFault("{};{;}", 0, -1);
        dueFault(" ", 0, -1);
        dueFault("1 2", 1, 2);
        dueFault("1a", 1, 1);
        dueFault("1+", 1, 2);
        dueFault("1+ ", 1, 3);
        dueFault("+1", 1, 0);
        dueFault("1++1", 1, 2);
        dueFault("1!1", 1, 1);
        dueFault("()", 1, 1);
        dueFault("(1", 1, 2);
        dueFault("(1;2)", 1, 2);
        dueFault("1)", 1, 1);
        dueFault("}", 1, 0);
        dueFault("1}", 1, 1);
        dueFault("{1", 1, 2);
        dueFault("{(1}", 1, 3);
        dueFault("1,2", 1, 1);
        dueFault("=", 1, 0);
        dueFault("1=1", 1, 1);
        dueFault("^a", 1, 0);
        dueFault("let a=1;^a", 1, 8);
        dueFault("let a=^a", 1, 6);
        dueFault("let a=1;mac f()=^1", 1, 17);
        dueFault("let a=1;mac f()=^", 1, 17);
        dueFault("let a=1;mac f()=^let", 1, 17);
        dueFault("let a=1;mac f()=^a(1)", 1, 18);
        dueFault("let a=1;mac f()=1;^a", 1, 18);
        dueFault("1+let", 1, 2);
        dueFault("{let a=1}", 0, -1);
        dueFault("(let a=1)", 1, 1);
        dueFault(repeated("(", 120), 1, 120);
        dueFault(repeated("(", 119) + "a", 2, 119);
        dueFault(repeated("{", 60) + repeated("}", 60), 0, -1);
        dueFault(repeated("1+", 59) + "12", 0, -1);
    }

    private static void faultHeads() {
        about = "promise 8, heads of statements";
        dueFault("let", 1, 3);
        dueFault("let 1=1", 1, 4);
        dueFault("let op=1", 1, 4);
        dueFault("let a 1", 1, 6);
        dueFault("let a=", 1, 6);
        dueFault("let a=1 2", 1, 8);
        dueFault("op", 1, 2);
        dueFault("op a 5 l(a,b)=1", 1, 3);
        dueFault("op = 5 l(a,b)=1", 1, 3);
        dueFault("op ! 0 l(a,b)=1", 1, 5);
        dueFault("op ! 10 l(a,b)=1", 1, 5);
        dueFault("op ! 05 l(a,b)=1", 0, -1);
        dueFault("op ! a l(a,b)=1", 1, 5);
        dueFault("op ! 9 r(a,b)=1", 0, -1);
        dueFault("op ! 1 n(a,b)=1", 0, -1);
        dueFault("op ! 5 m(a,b)=1", 1, 7);
        dueFault("op ! 5 ll(a,b)=1", 1, 7);
        dueFault("op ! 5 (a,b)=1", 1, 7);
        dueFault("op ! 5 12(a,b)=1", 1, 7);
        dueFault("op ! 5 l a", 1, 9);
        dueFault("op ! 5 l()=1", 1, 9);
        dueFault("op ! 5 l(a)=1", 1, 10);
        dueFault("op ! 5 l(a,)=1", 1, 11);
        dueFault("op ! 5 l(a,b,c)=1", 1, 12);
        dueFault("op ! 5 l(a,b)1", 1, 13);
        dueFault("op ! 5 l(a,b)=", 1, 14);
        dueFault("op ! A", 1, 5);
        dueFault("op ! 5 A", 1, 7);
        dueFault("op ! 5", 1, 6);
        dueFault("pre ! 5 l(a)=1", 1, 8);
        dueFault("pre ! 5(a)=1", 0, -1);
        dueFault("pre ! 5()=1", 1, 8);
        dueFault("pre ! 5(a,b)=1", 1, 9);
        dueFault("pre ! 0(a)=1", 1, 6);
        dueFault("mac f=1", 1, 5);
        dueFault("mac ! ()=1", 1, 4);
        dueFault("mac f(,)=1", 1, 6);
        dueFault("mac f(a,)=1", 1, 8);
        dueFault("mac f(a b)=1", 1, 8);
        dueFault("mac f(a,b,c)=1", 0, -1);
        dueFault("mac f(a,b,c,d)=1", 1, 11);
        dueFault("mac f(1)=1", 1, 6);
        dueFault("mac f()=", 1, 8);
        dueFault("mac f()=;", 1, 8);
    }

    private static void faultMeansNothing() {
        about = "promise 8, what means nothing";
        dueFault("a", 2, 0);
        dueFault("1+a", 2, 2);
        dueFault("let a=a", 2, 6);
        dueFault("{let a=1};a", 2, 10);
        dueFault("mac f(a)=a;a", 2, 11);
        dueFault("mac f()=1;f", 2, 10);
        dueFault("mac f(a)=b;1", 2, 9);
        dueFault("a (1)", 4, 0);
        dueFault("a 1", 2, 0);
        dueFault("mac f()=^a;1", 0, -1);
        dueFault("mac f()=^a;f()", 2, 11);
        dueFault("mac f()=^a; f ( ) 1", 2, 12);
        dueFault("mac f(a)=^b+a;f(c)", 2, 16);
        dueFault("mac f(a)=^b+a;f(1 2)", 1, 18);
        dueFault("mac f()=^a;let a=1;f()", 0, -1);
        dueFault("mac f()=^a;let a=f()", 2, 17);
        dueFault("mac f()=^a;{let a=1;f()}+f()", 2, 25);
        dueFault("mac f()=^a;mac g(a)=f();1", 2, 20);
        dueFault("op ! 5 n(a,b)=a+^c;1!2", 2, 20);
        dueFault("op ! 5 n(a,b)=a+^c;1!2!3", 2, 20);
        dueFault("op ! 5 n(a,b)=a+^c;1!2+", 2, 20);
        dueFault("op ! 5 n(a,b)=a+^c;1!", 1, 21);
        dueFault("pre ! 5(a)=a+^c;!2", 2, 16);
        dueFault("mac f()={mac g()=^a;let a=1;g()};f()", 0, -1);
        dueFault("mac f()={mac g()=^a;g()};let a=1;f()", 2, 20);
    }

    private static void faultMayNotFollow() {
        about = "promise 8, what may not follow";
        String op = "op ! 5 n(a,b)=a-b;";
        dueFault(op + "1!2", 0, -1);
        dueFault(op + "1!2!3", 3, 21);
        dueFault(op + "1!2+3", 3, 21);
        dueFault(op + "1!2-3", 3, 21);
        dueFault(op + "1!2*3", 0, -1);
        dueFault(op + "1!2*3+4", 3, 23);
        dueFault(op + "1+2!3", 0, -1);
        dueFault(op + "1+2!3!4", 3, 23);
        dueFault(op + "(1!2)!3", 0, -1);
        dueFault(op + "1!(2!3)", 0, -1);
        dueFault(op + "{1!2}!3", 0, -1);
        dueFault(op + "1!2 3", 1, 22);
        dueFault("op ! 5 n(a,b)=a-b;op # 5 r(a,b)=a;1#2!3#4", 3, 39);
        dueFault("op ! 5 n(a,b)=a-b;op # 4 l(a,b)=a;1!2#3!4", 0, -1);
        dueFault("op ! 5 n(a,b)=a;pre # 4(a)=a;1!#2+3", 0, -1);
        dueFault("op ! 5 n(a,b)=a;pre # 6(a)=a;#1!#2+3", 3, 34);
    }

    private static void faultWrongUse() {
        about = "promise 8, wrong uses of macros";
        dueFault("f(1)", 4, 0);
        dueFault("f(A", 4, 0);
        dueFault("let f=1;f(1)", 4, 8);
        dueFault("1+f()", 4, 2);
        dueFault("mac f()=1;f(1)", 4, 10);
        dueFault("mac f()=1;f(1,2)", 4, 10);
        dueFault("mac f()=1;f(1", 1, 13);
        dueFault("mac f()=1;f(,", 1, 12);
        dueFault("mac f()=1;f(a)", 2, 12);
        dueFault("mac f()=1;f(1;", 1, 13);
        dueFault("mac f(a)=1;f()", 4, 11);
        dueFault("mac f(a)=1;f(1,A", 4, 11);
        dueFault("mac f(a)=1;f(1,2)", 4, 11);
        dueFault("mac f(a,b)=1;f(1)", 4, 13);
        dueFault("mac f(a,b)=1;f(1,)", 1, 17);
        dueFault("mac f(a,b)=1;f(,1)", 1, 15);
        dueFault("mac f(a,b)=1;f(1,2)", 0, -1);
        dueFault("mac f(a,b,c)=1;f(1,2)", 4, 15);
        dueFault("mac f(a,b,c)=1;f(1,2,3,", 4, 15);
        dueFault("mac f(a)=f(a)", 4, 9);
        dueFault("{mac f()=1};f()", 4, 12);
        dueFault("mac f(a)=a;f(f(1,2))", 4, 13);
        dueFault("mac f(f)=f+f(1);1", 4, 11);
    }

    private static void faultMadeTwice() {
        about = "promise 8, what is made twice";
        dueFault("let a=1;let a=2", 6, 12);
        dueFault("let a=1;let a", 6, 12);
        dueFault("let a=1;{let a=2}", 0, -1);
        dueFault("{let a=1;let a=2}", 6, 13);
        dueFault("{let a=1};let a=2", 0, -1);
        dueFault("let a=1;mac a()=2", 0, -1);
        dueFault("mac a()=1;mac a(b)=2", 6, 14);
        dueFault("op + 5 l(a,b)=a", 0, -1);
        dueFault("op ! 5 l(a,b)=a;op ! 6 r(a,b)=b", 6, 19);
        dueFault("op ! 5 l(a,b)=a;pre ! 6 (a)=a", 0, -1);
        dueFault("pre ! 5(a)=a;pre ! 6 (a)=a", 6, 17);
        dueFault("mac f(a,a)=1", 6, 8);
        dueFault("mac f(a,b,a)=1", 6, 10);
        dueFault("op ! 5 l(a,a)=a", 6, 11);
        dueFault("let a=1;mac f(a)=a", 0, -1);
        dueFault("mac f(f)=f", 0, -1);
        dueFault("mac f(a)={let a=1;a}", 0, -1);
        dueFault("mac f(a)={let a=1;let a=2}", 6, 22);
        dueFault("let a={let a=1;a}", 0, -1);
    }

    private static void faultTooGreat() {
        about = "promise 8, what is too great";
        String thirds = "mac f(a)={a;a;a};";
        // Blocks of a power of three: f(f(f(f(1)))) has 81 numbers and 40 blocks, one more f 243 and 121.
        dueFault(thirds + "f(f(f(f(1))))", 0, -1);
        due("parts()", of(thirds + "f(f(f(f(1))))").parts(), 121);
        dueFault(thirds + "f(f(f(f(f(1)))))", 5, 0);
        String rest = "mac g()=f(f(f(1)));";
        due("parts()", of(thirds + rest + "g();g();g();g();g();g();g();" + repeated("1;", 20)).parts(), 300);
        dueFault(thirds + rest + "g();g();g();g();g();g();g();" + repeated("1;", 21), 5, 0);
        dueFault(thirds + "f(f(f(f(f(1)))));a", 2, 34);
        // Many makings that come again and again are no parts.
        String makings = "mac b()=1;mac c()=1;mac d()=1;mac e()=1;mac g()=1;mac h()=1";
        String many = "mac f(a)={" + repeated("a;", 15) + "a};f(f({" + makings + "}))";
        dueFault(many, 0, -1);
        due("parts() with many makings", of(many).parts(), 273);
        dueFault(thirds + "mac x(a)=2;x(f(f(f(f(f(1))))))", 0, -1);
        dueFault(thirds + "mac x(a)=f(f(f(f(f(1)))));2", 0, -1);
    }

    private static void usesUpToTwoHundred() {
        // A use of g is seven uses, and one of h is 1 + 7 * 7 = 50.
        String uses = "mac f(a)=a;mac g(a)=f(f(f(f(f(f(a))))));mac h(a)=g(g(g(g(g(g(g(a)))))));";
        dueFault(uses + "h(h(h(h(1))))", 0, -1);
        dueFault(uses + "h(h(h(h(f(1)))))", 5, 0);
        dueFault(uses + "h(h(h(g(g(g(g(g(g(g(f(1)))))))))))", 0, -1);
        dueFault(uses + "h(h(h(g(g(g(g(g(g(g(f(f(1))))))))))))", 5, 0);
        String tail = "mac f(a)=a;mac g(a)=f(f(f(f(a))));mac h(a)=g(g(g(a)));mac i(a)=h(h(h(h(a))));";
        // h is 16 uses, i is 65: three of i have 195; five of f make it 200, and six 201.
        dueFault(tail + "i(i(i(f(f(f(f(f(1))))))))", 0, -1);
        dueFault(tail + "i(i(i(f(f(f(f(f(f(1)))))))))", 5, 0);
        // An operator's use counts as well.
        String signs = "pre !9(a)=a;mac g(a)=!!!!!!!!!a;mac h(a)=g(g(g(g(a))));";
        dueFault(signs + "h(h(h(h(g(g(g(!!!!!!1)))))))", 0, -1);
        dueFault(signs + "h(h(h(h(g(g(g(!!!!!!!1)))))))", 5, 0);
    }

    private static void faultPlace() {
        about = "promise 9";
        dueFault("", 0, -1);
        dueFault("1 + ", 1, 4);
        dueFault("  a", 2, 2);
        dueFault("1+\n  abc", 2, 5);
        Macrocosm x = of("1+");
        due("faultPlace()", x.faultPlace(), 2);
        x.type('1');
        due("faultPlace()", x.faultPlace(), -1);
        x.insert(0, ' ');
        x.insert(0, '*');
        due("faultPlace()", x.faultPlace(), 0);
        x.clear();
        due("faultPlace()", x.faultPlace(), -1);
    }

    // ---- values

    private static void value() {
        about = "promise 10";
        dueValue("1+2*3", 7, "(1+(2*3))");
        dueValue("1-2-3", -4, "((1-2)-3)");
        dueValue("(1-(2-3))", 2, "(1-(2-3))");
        dueValue("007 ; 000", 0, "7;0");
        dueValue("1;2;", 2, "1;2");
        dueValue(";1;;2;;", 2, "1;2");
        dueValue("5;let a=3", 0, "5;let va=3");
        dueValue("5;let a=3;;", 0, "5;let va=3");
        dueValue("let a=3;a*a", 9, "let va=3;(va*va)");
        dueValue("5;mac f()=1", 5, "5");
        dueValue("5;mac f()=1;", 5, "5");
        due("value() of 120 tokens", of(repeated(";", 119) + "7").value(), 7);
        dueValue("{1;{2}}+{}", 2, "({1;{2}}+{})");
        dueValue("let a=1;{let a=a+1;a}+a", 3, "let va=1;({let vb=(va+1);vb}+va)");
        long big = 999999999L;
        String power = "999999999*999999999*999999999";
        dueValue(power, big * big * big, "((999999999*999999999)*999999999)");
        dueValue("0-" + power, -(big * big * big), "(0-((999999999*999999999)*999999999))");
        due("value() with a fault throws", thrown(() -> of("1+").value()), ILLEGAL_STATE);
    }

    private static void valueOfMakings() {
        about = "promise 10, makings";
        dueValue("op ! 4 r(a,b)=a-b;9!5!1", 5, "(9-(5-1))");
        dueValue("op ! 4 l(a,b)=a-b;9!5!1", 3, "((9-5)-1)");
        dueValue("op ! 5 r(a,b)=a-b;9-5!1", 3, "((9-5)-1)");
        dueValue("op ! 5 r(a,b)=a-b;9!5-1", 5, "(9-(5-1))");
        dueValue("op ! 7 l(a,b)=a+b;2*3!4", 14, "(2*(3+4))");
        dueValue("op ! 1 l(a,b)=a*b;1+2!3+4", 21, "((1+2)*(3+4))");
        dueValue("pre - 7(a)=0-a;--3-2", 1, "((0-(0-3))-2)");
        dueValue("pre - 5(a)=0-a;-3+2", -5, "(0-(3+2))");
        dueValue("pre - 6(a)=0-a;-3+2;-3*2", -6, "((0-3)+2);(0-(3*2))");
        dueValue("op + 6 l(a,b)=a*b;2+3*4", 24, "((2*3)*4)");
        dueValue("op + 7 l(a,b)=a+b+1;2*3+4", 16, "(2*((3+4)+1))");
        dueValue("{op + 5 l(a,b)=a*b;2+3};2+3", 5, "{(2*3)};(2+3)");
        dueValue("mac f(a,b,c)=c-a*b;f(1,2,3)", 1, "(3-(1*2))");
        dueValue("mac f(a)=a*a;f(1+2)", 9, "((1+2)*(1+2))");
        dueValue("mac f(a)=2;f({1})", 2, "2");
        dueValue("mac f(a)={let t=a;t*t};let t=3;f(t+1)", 16, "let va=3;{let vb=(va+1);(vb*vb)}");
        dueValue("let t=3;mac f(a)=a+t;{let t=5;f(t)}", 8, "let va=3;{let vb=5;(vb+va)}");
        dueValue("mac f()=1;{mac f()=2;f()}+f()", 3, "({2}+1)");
        dueValue("mac f(a)={mac g(b)=a-b;g(1)};f(5)", 4, "{(5-1)}");
        dueValue("mac f()=1;mac g()=f()+1;{mac f()=9;g()}", 2, "{(1+1)}");
        dueValue("op ! 5 l(a,b)=b;let a=4;let b=7;b!a", 4, "let va=4;let vb=7;va");
        dueValue("mac f(a)={let x=a;x}+{let x=a;x};f(2)", 4, "({let va=2;va}+{let vb=2;vb})");
    }

    private static void valueOfCarets() {
        about = "promise 10, names behind ^";
        dueValue("mac f()=^a*2;let a=4;f()", 8, "let va=4;(va*2)");
        dueValue("let a=1;mac f()=^a+a;{let a=4;f()}", 5, "let va=1;{let vb=4;(vb+va)}");
        dueValue("mac f(a)=^a+a;let a=4;f(1)", 5, "let va=4;(va+1)");
        dueValue("let b=7;mac f()=^b;mac g(b)=f()+b;g(1)", 8, "let va=7;(va+1)");
        dueValue("let b=7;mac f()=^b;mac g(a)={let b=2;f()};g(1)", 2, "let va=7;{let vb=2;vb}");
        dueValue("mac f(a)={let x=9;a};mac g()=f(^x);let x=2;g()", 2, "let va=2;{let vb=9;va}");
        dueValue("mac f()={let a=5;{^a}};let a=1;f()", 1, "let va=1;{let vb=5;{va}}");
        dueValue("mac f()={mac g()=^a;let a=5;g()};let a=1;f()", 5, "let va=1;{let vb=5;vb}");
        dueValue("op ! 5 l(a,b)=a*^x+b;let x=3;2!4", 10, "let va=3;((2*va)+4)");
        dueValue("pre ! 5(x)=x+^x;let x=3;!4", 7, "let va=3;(4+va)");
    }

    private static void valueByText() {
        about = "promise 11";
        due("valueByText() with a fault throws", thrown(() -> of("a").valueByText()), ILLEGAL_STATE);
        Macrocosm x = of("mac f(a)={let t=a;t-1};f(f(5))*f(3)");
        due("valueByText()", x.valueByText(), 6);
        due("value() after it", x.value(), 6);
        due("parts() after it", x.parts(), of("{let a={let a=5;a-1};a-1}*{let a=3;a-1}").parts());
        due("made() after it", x.made(23), 4);
        Macrocosm great = of("mac f(a)={let t=a;{let t=a;t}};f(f(f(f(1))))");
        due("fault()", great.fault(), 0);
        due("valueByText()", great.valueByText(), 1);
        due("valueByText() with the same twice", great.valueByText(), great.value());
    }

    private static void parts() {
        about = "promise 12";
        due("parts() of numbers", of("1;2;3").parts(), 3);
        due("parts() of an operator", of("1+2").parts(), 3);
        due("parts() of brackets", of("((1))").parts(), 1);
        due("parts() of blocks", of("{};{1}").parts(), 3);
        due("parts() of a let", of("let a=1").parts(), 2);
        due("parts() of a name", of("let a=1;a").parts(), 3);
        due("parts() of what is not used", of("mac f(a)=1+2+3;4").parts(), 1);
        due("parts() of a use", of("mac f(a)=a+a;f(1+2)").parts(), 7);
        due("parts() with a fault throws", thrown(() -> of("a").parts()), ILLEGAL_STATE);
    }

    private static void expanded() {
        about = "promise 13";
        due("expanded()", of("1").expanded(), 1);
        due("expanded()", of(" 01 + 2 ").expanded(), 5);
        due("expanded()", of("let abc=10;abc").expanded(), 12);
        due("expanded()", of("mac f()=1;;").expanded(), 0);
        due("expanded() with a fault throws", thrown(() -> of("1+").expanded()), ILLEGAL_STATE);
    }

    private static void expandedNames() {
        about = "promise 13, names";
        String text = "mac f(a)={let x=a;let xy=x;{let z=x;xy}};mac g(a)=f(f(f(a)));g(g(1))";
        String expansion = expansionOf(text);
        due("fault()", of(text).fault(), 0);
        due("the first let is va", expansion.indexOf("{let va={let vb={let vc="), 0);
        dueText("the outer let begins first", expansionOf("let a={let b=1;b};let c=a"),
                "let va={let vb=1;vb};let vc=va");
        String many = "mac f(a)={let x=1;a};mac g(a)=f(f(f(f(f(f(f(f(f(f(f(f(f(f(a))))))))))))));g(g(1))";
        due("28 lets, the last one is vbb", expansionOf(many).indexOf("{let vz=1;{let vba=1;{let vbb=1;1}") > 0 ? 1 : 0, 1);
    }

    private static void expandedAt() {
        about = "promise 14";
        Macrocosm x = of("let a=12;a");
        String want = "let va=12;va";
        for (int i = 0; i < want.length(); i++) {
            due("expandedAt(" + i + ")", x.expandedAt(i), want.charAt(i));
        }
        due("expandedAt(12) throws", thrown(() -> x.expandedAt(12)), OUT_OF_BOUNDS);
        due("expandedAt(-1) throws", thrown(() -> x.expandedAt(-1)), OUT_OF_BOUNDS);
        due("expandedAt(0) with a fault throws", thrown(() -> of("a").expandedAt(0)), ILLEGAL_STATE);
        due("expandedAt(-1) with a fault throws", thrown(() -> of("a").expandedAt(-1)), ILLEGAL_STATE);
        due("expandedAt(0) of nothing throws", thrown(() -> of("").expandedAt(0)), OUT_OF_BOUNDS);
    }

    // ---- names

    private static void tokens() {
        about = "promise 15";
        due("tokens()", of("").tokens(), 0);
        due("tokens()", of(" \n").tokens(), 0);
        due("tokens()", of("let abc=12;abc+3").tokens(), 8);
        due("tokens()", of("a1b2").tokens(), 4);
        due("tokens()", of("++--").tokens(), 4);
        due("tokens()", of("+-*!#$%&?@~|:<>./=;,(){}^").tokens(), 25);
        due("tokens()", of("1+A+1").tokens(), 2);
        due("tokens()", of("1 abcdefg 1").tokens(), 1);
        due("tokens()", of("1 1234567890 1").tokens(), 1);
        due("tokens()", of("abcdef 123456789").tokens(), 2);
        due("tokens()", of("1\t2").tokens(), 1);
        due("tokens()", of("letop op let").tokens(), 3);
        due("tokens()", of(repeated("+", 120)).tokens(), 120);
    }

    private static void made() {
        about = "promise 16";
        Macrocosm x = of("let a=1;mac a(b)=b+a;a(a)+a");
        due("made(0), a word", x.made(0), -1);
        due("made(4), a let's name", x.made(4), 4);
        due("made(5), a mark", x.made(5), -1);
        due("made(6), a number", x.made(6), -1);
        due("made(12), a macro's name", x.made(12), 12);
        due("made(14), a parameter", x.made(14), 14);
        due("made(17), a parameter's use", x.made(17), 14);
        due("made(18), + as at first", x.made(18), -1);
        due("made(19)", x.made(19), 4);
        due("made(21), a macro's use", x.made(21), 12);
        due("made(22), a bracket", x.made(22), -1);
        due("made(23)", x.made(23), 4);
        due("made(-1)", x.made(-1), -1);
        due("made(27), behind the text", x.made(27), -1);
        due("made(1), in a token", x.made(1), -1);
        Macrocosm signs = of("let l=1;op + 5 l(a,b)=a+b+l;pre + 6(a)=^l;1++2");
        due("made(11), a sign", signs.made(11), 11);
        due("made(13), a precedence", signs.made(13), -1);
        due("made(15), a side", signs.made(15), -1);
        due("made(23), the sign in its own expression", signs.made(23), -1);
        due("made(26), a name", signs.made(26), 4);
        due("made(32), a sign ahead", signs.made(32), 32);
        due("made(40), a name behind ^", signs.made(40), -1);
        due("made(43), a sign's use", signs.made(43), 11);
        due("made(44), a sign's use ahead", signs.made(44), 32);
        due("made(0) with a fault throws", thrown(() -> of("a").made(0)), ILLEGAL_STATE);
    }

    private static void uses() {
        about = "promise 17";
        Macrocosm x = of("let a=1;mac f(b)=b+a+^a;f(a)+{let a=2;a};a");
        due("uses(4)", x.uses(4), 4);
        due("uses(19)", x.uses(19), 4);
        due("uses(22), behind ^", x.uses(22), 0);
        due("uses(12)", x.uses(12), 2);
        due("uses(14)", x.uses(14), 2);
        due("uses(34)", x.uses(34), 2);
        due("uses(18), + as at first", x.uses(18), 0);
        due("uses(0)", x.uses(0), 0);
        due("uses(-5)", x.uses(-5), 0);
        due("uses(1000)", x.uses(1000), 0);
        due("uses(0) with a fault throws", thrown(() -> of("a").uses(0)), ILLEGAL_STATE);
    }

    private static void rename() {
        about = "promise 18";
        dueRename("let abc=1;abc+abc", 4, 'x', "let x=1;x+x");
        dueRename("let abc=1;abc+abc", 14, 'x', "let x=1;x+x");
        dueRename("let a=1;{let a=2;a}+a", 4, 'b', "let b=1;{let a=2;a}+b");
        dueRename("let a=1;{let a=2;a}+a", 13, 'b', "let a=1;{let b=2;b}+a");
        dueRename("mac f(a)=a;let f=1;f(f)", 4, 'g', "mac g(a)=a;let f=1;g(f)");
        dueRename("mac f(a)=a;let f=1;f(f)", 15, 'a', "mac f(a)=a;let a=1;f(a)");
        dueRename("mac foo(arg)=arg+1;foo(1)", 8, 'f', "mac foo(f)=f+1;foo(1)");
        dueRename("op ! 5 l(l,r)=l+r;1!2", 9, 'n', "op ! 5 l(n,r)=n+r;1!2");
        dueRename("let a=1;let b=2;1", 4, 'c', "let c=1;let b=2;1");
        Macrocosm x = of("let abc=1;abc");
        x.rename(4, 25);
        due("made() after it", x.made(8), 4);
        due("value() after it", x.value(), 1);
        due("length() after it", x.length(), 9);
    }

    private static void renameRefused() {
        about = "promise 18, what is not done";
        dueRename("let a=1;a", 4, 'a', "let a=1;a");
        dueRename("let a=1;a", 0, 'b', "let a=1;a");
        dueRename("let a=1;a", 6, 'b', "let a=1;a");
        dueRename("let a=1;a", -1, 'b', "let a=1;a");
        dueRename("let a=1;a", 9, 'b', "let a=1;a");
        dueRename("op ! 5 l(a,b)=a;1!2", 3, 'b', "op ! 5 l(a,b)=a;1!2");
        dueRename("op ! 5 l(a,b)=a;1!2", 5, 'b', "op ! 5 l(a,b)=a;1!2");
        dueRename("op ! 5 l(a,b)=a;1!2", 7, 'c', "op ! 5 l(a,b)=a;1!2");
        dueRename("1+2", 1, 'b', "1+2");
        dueRename("let a=1;let b=2;1", 4, 'b', "let a=1;let b=2;1");
        dueRename("mac f(a,b)=1", 6, 'b', "mac f(a,b)=1");
        dueRename("let a=1;{let b=2;a}", 4, 'b', "let a=1;{let b=2;a}");
        dueRename("let a=1;{let b=2;a}", 13, 'a', "let a=1;{let b=2;a}");
        dueRename("let a=1;{let b=2;b}", 4, 'b', "let b=1;{let b=2;b}");
        dueRename("let a=1;{let b=2;b}", 13, 'a', "let a=1;{let a=2;a}");
        dueRename("let a=1;{let b=a;b+a}", 13, 'a', "let a=1;{let b=a;b+a}");
        dueRename("let a=1;mac f()=^a;f()", 4, 'b', "let a=1;mac f()=^a;f()");
        dueRename("let b=1;let a=2;mac f()=^a;f()", 4, 'c', "let c=1;let a=2;mac f()=^a;f()");
        dueRename("let a=2;mac f()=^a;{let b=1;b}", 24, 'a', "let a=2;mac f()=^a;{let b=1;b}");
        dueRename("let a=2;mac f()=^a;f()", 12, 'a', "let a=2;mac f()=^a;f()");
        dueRename("let b=2;mac a()=^b;a()", 12, 'b', "let b=2;mac a()=^b;a()");
        dueRename("let a=2;mac f()=^a;f()", 12, 'g', "let a=2;mac g()=^a;g()");
        due("rename(4, 26) throws", thrown(() -> of("let a=1").rename(4, 26)), ILLEGAL_ARGUMENT);
        due("rename(4, -1) throws", thrown(() -> of("let a=1").rename(4, -1)), ILLEGAL_ARGUMENT);
        due("rename(0, 26) with a fault throws", thrown(() -> of("a").rename(0, 26)), ILLEGAL_ARGUMENT);
        due("rename(0, 25) with a fault throws", thrown(() -> of("a").rename(0, 25)), ILLEGAL_STATE);
    }

    private static void holds() {
        about = "promise 19";
        String text = " let a=1;{let a=2;let b=3};a ";
        dueHolds(text, 0, 0, 0, 3, 0);
        dueHolds(text, 1, 0, 0, 3, 0);
        dueHolds(text, 5, 0, 0, 3, 0);
        dueHolds(text, 7, 0, 0, 3, 0);
        dueHolds(text, 8, 1, 0, 3, 0);
        dueHolds(text, 9, 1, 0, 3, 0);
        dueHolds(text, 16, 1, 0, 3, 0);
        dueHolds(text, 17, 1, 0, 3, 0);
        dueHolds(text, 18, 1, 0, 3, 0);
        dueHolds(text, 24, 1, 0, 3, 0);
        dueHolds(text, 25, 2, 0, 3, 0);
        dueHolds(text, 26, 1, 0, 3, 0);
        dueHolds(text, 27, 1, 0, 3, 0);
        dueHolds(text, 28, 1, 0, 3, 0);
        dueHolds(text, 29, 1, 0, 3, 0);
        dueHolds("let a=1", 7, 0, 0, 3, 0);
        dueHolds("let a=1;", 7, 1, 0, 3, 0);
        dueHolds("let a=1;", 8, 1, 0, 3, 0);
        dueHolds("", 0, 0, 0, 3, 0);
        dueHolds("  ", 2, 0, 0, 3, 0);
        Macrocosm full = of(repeated(";", 109) + "let a=1;{a}");
        due("holds(119, 0) of a full text", full.holds(119, 0), 1);
        due("holds(120, 0) of a full text", full.holds(120, 0), 1);
        due("made(118) of a full text", full.made(118), 113);
        due("holds(-1, 0) throws", thrown(() -> of("1").holds(-1, 0)), OUT_OF_BOUNDS);
        due("holds(2, 0) throws", thrown(() -> of("1").holds(2, 0)), OUT_OF_BOUNDS);
        due("holds(2, 4) throws", thrown(() -> of("1").holds(2, 4)), OUT_OF_BOUNDS);
        due("holds(1, 4) throws", thrown(() -> of("1").holds(1, 4)), ILLEGAL_ARGUMENT);
        due("holds(1, -1) throws", thrown(() -> of("1").holds(1, -1)), ILLEGAL_ARGUMENT);
        due("holds(1, 4) with a fault throws", thrown(() -> of("a").holds(1, 4)), ILLEGAL_ARGUMENT);
        due("holds(2, 0) with a fault throws", thrown(() -> of("a").holds(2, 0)), OUT_OF_BOUNDS);
        due("holds(1, 0) with a fault throws", thrown(() -> of("a").holds(1, 0)), ILLEGAL_STATE);
    }

    private static void holdsInBodies() {
        about = "promise 19, makings";
        String mac = "let a=1;mac f(a,b)=a+b;f(1,2)";
        dueHolds(mac, 14, 1, 0, 3, 0);
        dueHolds(mac, 16, 1, 0, 3, 0);
        dueHolds(mac, 18, 1, 0, 3, 0);
        dueHolds(mac, 19, 2, 0, 3, 0);
        dueHolds(mac, 21, 2, 0, 3, 0);
        dueHolds(mac, 22, 1, 1, 3, 0);
        dueHolds(mac, 28, 1, 1, 3, 0);
        String op = "op + 5 l(a,b)=a+b;op ! 5 l(a,b)=a+b;pre + 6(a)=a;1";
        dueHolds(op, 14, 2, 0, 3, 0);
        dueHolds(op, 17, 0, 0, 3, 0);
        dueHolds(op, 35, 0, 0, 4, 0);
        dueHolds(op, 47, 1, 0, 4, 0);
        dueHolds(op, 48, 0, 0, 4, 1);
        dueHolds(op, 50, 0, 0, 4, 1);
        String block = "mac f()={mac g()=1;pre !5(x)=x;!2};f()";
        dueHolds(block, 8, 0, 0, 3, 0);
        dueHolds(block, 18, 0, 1, 3, 0);
        dueHolds(block, 33, 0, 1, 3, 1);
        dueHolds(block, 34, 0, 1, 3, 0);
        dueHolds("{let a=1;let b=2;}", 17, 2, 0, 3, 0);
        dueHolds("{let a=1;let b=2;}", 18, 2, 0, 3, 0);
    }

    private static void throwsChangeNothing() {
        about = "calls that throw";
        Macrocosm x = of("let a=1;a");
        thrown(() -> x.insert(99, '1'));
        thrown(() -> x.erase(99));
        thrown(() -> x.at(99));
        thrown(() -> x.rename(4, 26));
        thrown(() -> x.holds(0, 9));
        thrown(() -> x.expandedAt(99));
        dueText("text", textOf(x), "let a=1;a");
        due("value()", x.value(), 1);
        due("made(8)", x.made(8), 4);
    }
}
