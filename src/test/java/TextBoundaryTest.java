/** The boundary cases of the document's "Texts", each sentence with a test of its own. */
public final class TextBoundaryTest extends Checks {
    private static final String MARKS = "+-*!#$%&?@~|:<>./=;,(){}^";

    public static void main(String[] args) {
        atMostCharacters();
        blanksAndEndsOfLines();
        otherCharacters();
        asLongAsCanBe();
        words();
        longestName();
        longestNumber();
        emptyStatements();
        emptyBlocks();
        precedences();
        sides();
        twoAndOneParameters();
        noneToThreeParameters();
        unlikeParameters();
        fromBehindTheStatement();
        toTheEndOfTheBlock();
        hides();
        madeApart();
        notTwiceInABlock();
        leastPrecedence();
        oneMoreForLeft();
        sameForRight();
        oneMoreForNone();
        precedencesAtFirst();
        aheadOfAnExpression();
        firstParts();
        caretsInExpressionsOfMakings();
        lastStatement();
        overflow();
        tellAndExit();
    }

    // ---- tokens

    private static void atMostCharacters() {
        about = "A text has at most 120 characters";
        Macrocosm x = of(repeated(";", 119));
        due("length()", x.length(), 119);
        due("type() as the last one", x.type('7'), 120);
        due("type() of one more throws", thrown(() -> x.type(';')), ILLEGAL_STATE);
        due("insert() of one more throws", thrown(() -> x.insert(60, ';')), ILLEGAL_STATE);
        due("tokens()", x.tokens(), 120);
        due("value()", x.value(), 7);
        due("tokens() of one of 120 characters", of(repeated(" ", 114) + "abcdef").tokens(), 1);
        dueFault(repeated(" ", 114) + "abcdef", 2, 114);
        dueFault(repeated("{", 60) + repeated("}", 60), 0, -1);
        dueFault(repeated("{", 61) + repeated("}", 59), 1, 120);
        dueFault(repeated("(", 59) + "77" + repeated(")", 59), 0, -1);
        due("value() behind 59 brackets", of(repeated("(", 59) + "77" + repeated(")", 59)).value(), 77);
    }

    private static void blanksAndEndsOfLines() {
        about = "blanks (32) and ends of lines (10) between where one likes";
        dueValue(" \nlet \n a\n=\n1 ;\n a ", 1, "let va=1;va");
        dueValue("let a=1;op!5l(a,b)=a-b;pre-9(a)=0-a;a!-2", 3, "let va=1;(va-(0-2))");
        dueValue("\n\n  \n", 0, "");
        dueFault("le t a=1", 2, 0);
        dueFault("1 2", 1, 2);
        dueFault("1\n2", 1, 2);
        dueFault("mac f ( ) = 1 ; f ( )", 0, -1);
    }

    private static void otherCharacters() {
        about = "nor is any other character";
        for (int c = 0; c <= 700; c++) {
            dueAlone((char) c);
        }
        dueAlone((char) 32768);
        dueAlone((char) 65535);
    }

    private static void dueAlone(char c) {
        boolean isBetween = c == 32 || c == 10;
        boolean isToken = c >= 'a' && c <= 'z' || c >= '0' && c <= '9' || MARKS.indexOf(c) >= 0;
        Macrocosm x = of(";" + c + ";");
        due("tokens() with character " + (int) c, x.tokens(), isToken ? 3 : isBetween ? 2 : 1);
        if (!isToken) {
            due("fault() with character " + (int) c, x.fault(), isBetween ? 0 : 1);
            due("faultPlace() with character " + (int) c, x.faultPlace(), isBetween ? -1 : 1);
        }
    }

    private static void asLongAsCanBe() {
        about = "tokens, each as long as can be";
        due("tokens() of 123", of("123").tokens(), 1);
        due("tokens() of abc", of("abc").tokens(), 1);
        due("tokens() of a1", of("a1").tokens(), 2);
        due("tokens() of 1a", of("1a").tokens(), 2);
        due("tokens() of --", of("--").tokens(), 2);
        due("tokens() of let1", of("let1").tokens(), 2);
        dueValue("let leta=3;leta", 3, "let va=3;va");
        dueFault("leta=1", 2, 0);
        dueFault("op!5lr(a,b)=1", 1, 4);
        dueFault("op!55l(a,b)=1", 1, 3);
    }

    private static void words() {
        about = "names, but not the words let, op, pre, mac";
        String[] notNames = {"let", "op", "pre", "mac"};
        for (String word : notNames) {
            dueFault("let " + word + "=1", 1, 4);
            dueFault("mac " + word + "()=1", 1, 4);
            dueFault("mac f(" + word + ")=1", 1, 6);
            dueFault("mac f()=^" + word, 1, 9);
            dueFault("1+" + word, 1, 2);
        }
        String[] names = {"le", "lets", "o", "opp", "pr", "prem", "ma", "macs", "tel", "ma"};
        for (String name : names) {
            dueFault("let " + name + "=1;" + name, 0, -1);
        }
    }

    private static void longestName() {
        about = "A name has at most 6 letters; a longer row is no token";
        dueValue("let abcdef=2;abcdef", 2, "let va=2;va");
        dueFault("let abcdefg=2;1", 1, 4);
        dueFault("mac zzzzzz()=2;zzzzzz()", 0, -1);
        dueFault("mac zzzzzzz()=2", 1, 4);
        dueFault("mac f(abcdef)=abcdef;f(1)", 0, -1);
        dueFault("mac f(abcdefg)=1", 1, 6);
        dueFault("let abcdef=1;abcdeg", 2, 13);
        dueFault("let zbcdef=1;abcdef", 2, 13);
        due("tokens() up to seven letters", of("1;abcdefg;1").tokens(), 2);
        due("tokens() up to 118 letters", of("1;" + repeated("a", 118)).tokens(), 2);
        dueFault("1;" + repeated("a", 118), 1, 2);
    }

    private static void longestNumber() {
        about = "A number has at most 9 digits; a longer row is no token";
        dueValue("999999999", 999999999, "999999999");
        dueValue("100000000", 100000000, "100000000");
        dueValue("000000000", 0, "0");
        dueValue("000000010", 10, "10");
        dueFault("1000000000", 1, 0);
        dueFault("0000000001", 1, 0);
        dueFault("1+0000000000", 1, 2);
        due("tokens() up to ten digits", of("1+1234567890+1").tokens(), 2);
        due("tokens() up to 118 digits", of("1;" + repeated("0", 118)).tokens(), 2);
        dueFault("1;" + repeated("0", 118), 1, 2);
    }

    // ---- statements

    private static void emptyStatements() {
        about = "A text is a row of statements with ; between, of which any may be empty";
        dueValue("", 0, "");
        dueValue(";", 0, "");
        dueValue(repeated(";", 120), 0, "");
        dueValue(";1", 1, "1");
        dueValue("1;", 1, "1");
        dueValue("1;;2", 2, "1;2");
        dueFault("1 let a=1", 1, 2);
        dueFault("{}{}", 1, 2);
    }

    private static void emptyBlocks() {
        about = "so is a block between its { and }";
        dueValue("{}", 0, "{}");
        dueValue("{;}", 0, "{}");
        dueValue("{;;3;;}", 3, "{3}");
        dueValue("{{}}", 0, "{{}}");
        dueValue("{}+{}", 0, "({}+{})");
        dueFault("{", 1, 1);
        dueFault("{;", 1, 2);
        dueFault("}", 1, 0);
        dueFault("{}}", 1, 2);
        dueFault("{1)", 1, 2);
        dueFault("(1}", 1, 2);
    }

    private static void precedences() {
        about = "with the precedence P, a number 1 to 9";
        for (int precedence = 1; precedence <= 9; precedence++) {
            dueFault("op ! " + precedence + " l(a,b)=1", 0, -1);
            dueFault("pre ! " + precedence + " (a)=1", 0, -1);
        }
        String[] none = {"0", "00", "10", "11", "19", "90", "999999999", "000000000", "l", "+", "(", ""};
        for (String number : none) {
            dueFault("op ! " + number, 1, 5);
            dueFault("pre ! " + number, 1, 6);
        }
    }

    private static void sides() {
        about = "the side D, one of the names l, r, n";
        for (char side = 'a'; side <= 'z'; side++) {
            boolean isSide = side == 'l' || side == 'r' || side == 'n';
            dueFault("op ! 5 " + side + "(a,b)=1", isSide ? 0 : 1, isSide ? -1 : 7);
        }
        dueFault("op ! 5 left(a,b)=1", 1, 7);
        dueFault("op ! 5 ll(a,b)=1", 1, 7);
        dueFault("op ! 5 let(a,b)=1", 1, 7);
        dueFault("op ! 5 +(a,b)=1", 1, 7);
        dueFault("op ! 5 12(a,b)=1", 1, 7);
        dueFault("op ! 5 14(a,b)=1", 1, 7);
        dueFault("op ! 5 18(a,b)=1", 1, 7);
        dueFault("op ! 5", 1, 6);
        dueFault("op ! 5 (", 1, 7);
        dueFault("op ! 5 (a,a", 1, 7);
        dueFault("pre ! 5 l(a)=1", 1, 8);
    }

    private static void twoAndOneParameters() {
        about = "op S P D (A, B) = E, and pre S P (A) = E";
        dueFault("op ! 5 l()=1", 1, 9);
        dueFault("op ! 5 l(a)=1", 1, 10);
        dueFault("op ! 5 l(a,b)=1", 0, -1);
        dueFault("op ! 5 l(a,b,c)=1", 1, 12);
        dueFault("op ! 5 l((a,b))=1", 1, 9);
        dueFault("op ! 5 l(a,(b))=1", 1, 11);
        dueFault("pre ! 5 ()=1", 1, 9);
        dueFault("pre ! 5 (a)=1", 0, -1);
        dueFault("pre ! 5 (a,b)=1", 1, 10);
    }

    private static void noneToThreeParameters() {
        about = "mac N (A, B, ..) = E, with 0 to 3 parameters, perhaps none in the brackets";
        dueValue("mac f()=7;f()", 7, "7");
        dueValue("mac f(a)=a;f(1)", 1, "1");
        dueValue("mac f(a,b)=a-b;f(1,2)", -1, "(1-2)");
        dueValue("mac f(a,b,c)=a-b*c;f(1,2,3)", -5, "(1-(2*3))");
        dueFault("mac f(a,b,c,d)=1", 1, 11);
        dueFault("mac f(a,b,c,", 1, 11);
        dueFault("mac f(,)=1", 1, 6);
        dueFault("mac f(a,)=1", 1, 8);
        dueFault("mac f(a,b,)=1", 1, 10);
        dueFault("mac f=1", 1, 5);
        dueFault("mac f(", 1, 6);
        dueFault("mac f((a))=1", 1, 6);
    }

    private static void unlikeParameters() {
        about = "A and B are unlike names, the parameters";
        dueFault("op ! 5 l(a,a)=1", 6, 11);
        dueFault("op ! 5 l(a,aa)=1", 0, -1);
        dueFault("mac f(a,a)=1", 6, 8);
        dueFault("mac f(a,b,a)=1", 6, 10);
        dueFault("mac f(a,b,b)=1", 6, 10);
        dueFault("mac f(a,b,f)=1", 0, -1);
        dueFault("mac f(a,1)=1", 1, 8);
        dueFault("mac f(a,+)=1", 1, 8);
    }

    // ---- what holds

    private static void fromBehindTheStatement() {
        about = "What is made holds from behind the statement";
        dueFault("let a=a", 2, 6);
        dueFault("let a={a}", 2, 7);
        dueFault("a;let a=1", 2, 0);
        dueValue("let a=1;a", 1, "let va=1;va");
        dueValue("let a=1;{let a=a+1;a}", 2, "let va=1;{let vb=(va+1);vb}");
        dueFault("mac f()=f()", 4, 8);
        dueFault("f();mac f()=1", 4, 0);
        dueValue("mac f()=1;{mac f()=f()+1;f()}", 2, "{(1+1)}");
        dueFault("op ! 5 l(a,b)=a!b", 1, 15);
        dueFault("1!2;op ! 5 l(a,b)=a", 1, 1);
        dueValue("op + 5 l(a,b)=a+b+1;1+2", 4, "((1+2)+1)");
        dueFault("pre ! 5(a)=!a", 1, 11);
        dueFault("!1;pre ! 5(a)=a", 1, 0);
    }

    private static void toTheEndOfTheBlock() {
        about = "to the end of the block, or text";
        dueFault("{let a=1};a", 2, 10);
        dueFault("{let a=1;{a};a}", 0, -1);
        dueFault("{let a=1}+a", 2, 10);
        dueFault("let b={let a=1;a};a", 2, 18);
        dueFault("{mac f()=1};f()", 4, 12);
        dueFault("{op ! 5 l(a,b)=a};1!2", 1, 19);
        dueFault("{op ! 5 l(a,b)=a}!2", 1, 17);
        dueFault("{pre ! 5(a)=a};!2", 1, 15);
        dueFault("{pre ! 5(a)=a;!2};{!2}", 1, 19);
        dueFault("mac f(a)=a;a", 2, 11);
        dueFault("mac f(a)={a};{a}", 2, 14);
        dueValue("{op + 5 l(a,b)=a*b;3+3}+3", 12, "({(3*3)}+3)");
        dueFault("let a=1;" + repeated(";", 111) + "a", 0, -1);
    }

    private static void hides() {
        about = "it hides what held for the same name, macro, or sign";
        dueValue("let a=1;{let a=2;a}+a", 3, "let va=1;({let vb=2;vb}+va)");
        dueValue("mac f()=1;{mac f()=2;f()}+f()", 3, "({2}+1)");
        dueFault("mac f()=1;{mac f(a)=2;f()}", 4, 22);
        dueValue("op ! 5 l(a,b)=a;{op ! 5 l(a,b)=b;1!2}+(1!2)", 3, "({2}+1)");
        dueValue("pre ! 5(a)=1;{pre ! 5(a)=2;!9}+!9", 3, "({2}+1)");
        dueValue("let a=1;mac f(a)=a;f(2)+a", 3, "let va=1;(2+va)");
        dueValue("mac f(a)={let a=3;a}+a;f(2)", 5, "({let va=3;va}+2)");
        dueValue("op * 4 l(a,b)=a*b;1+2*3", 9, "((1+2)*3)");
    }

    private static void madeApart() {
        about = "between two and ahead of one apart, as macros and names are";
        dueValue("op ! 5 l(a,b)=a-b;pre ! 9(a)=0-a;1!!2", 3, "(1-(0-2))");
        dueValue("op ! 5 l(a,b)=a-b;{pre ! 9(a)=0-a;1!2}", -1, "{(1-2)}");
        dueFault("op ! 5 l(a,b)=a-b;!2", 1, 18);
        dueFault("pre ! 5(a)=0-a;1!2", 1, 16);
        dueValue("let f=1;mac f()=2;f+f()", 3, "let va=1;(va+2)");
        dueFault("let f=1;f()", 4, 8);
        dueFault("mac f()=1;f", 2, 10);
        dueValue("mac f(f)=f+1;f(1)", 2, "(1+1)");
    }

    private static void notTwiceInABlock() {
        about = "A block, or the text, by itself must not make the same twice";
        dueFault("let a=1;let a=2", 6, 12);
        dueFault("{let a=1;let a=2}", 6, 13);
        dueFault("let a=1;{let a=2};a", 0, -1);
        dueFault("let a=1;{};let a=2", 6, 15);
        dueFault("{let a=1};{let a=2}", 0, -1);
        dueFault("let a={let a=1;a}", 0, -1);
        dueFault("mac f()=1;mac f(a)=2", 6, 14);
        dueFault("let a=1;mac a()=1", 0, -1);
        dueFault("op ! 5 l(a,b)=a;op ! 5 l(a,b)=a", 6, 19);
        dueFault("pre ! 5(a)=a;pre ! 5(a)=a", 6, 17);
        dueFault("op ! 5 l(a,b)=a;pre ! 5(a)=a", 0, -1);
        dueFault("op + 5 l(a,b)=a", 0, -1);
        dueFault("op + 5 l(a,b)=a;op + 5 l(a,b)=a", 6, 19);
        dueFault("mac f(a)={let a=1;a};f(1)", 0, -1);
        dueFault("mac f(a)={let b=1;let b=1}", 6, 22);
    }

    // ---- expressions

    private static void leastPrecedence() {
        about = "An expression of at least some precedence, 1 if none is told";
        String op = "op ! 1 l(a,b)=a-b;";
        dueValue(op + "9!1", 8, "(9-1)");
        dueValue(op + "(9!1)", 8, "(9-1)");
        dueValue(op + "{9!1}", 8, "{(9-1)}");
        dueValue(op + "let c=9!1;c", 8, "let va=(9-1);va");
        dueValue(op + "mac f(a)=a!1;f(9!2)", 6, "((9-2)-1)");
        dueValue(op + "op # 9 l(a,b)=a!b;9#2", 7, "(9-2)");
        dueValue(op + "pre # 9(a)=a!1;#3", 2, "(3-1)");
    }

    private static void oneMoreForLeft() {
        about = "1 more for the side l";
        dueValue("op ! 9 l(a,b)=a-b;9!5!3", 1, "((9-5)-3)");
        dueValue("op ! 1 l(a,b)=a-b;9!5!3", 1, "((9-5)-3)");
        dueValue("op ! 4 l(a,b)=a-b;op # 5 l(a,b)=a-b;9!5#3", 7, "(9-(5-3))");
        dueValue("op ! 4 l(a,b)=a-b;op # 5 l(a,b)=a-b;9#5!3", 1, "((9-5)-3)");
        dueValue("op ! 5 l(a,b)=a-b;op # 5 r(a,b)=a-b;9!5#3", 1, "((9-5)-3)");
    }

    private static void sameForRight() {
        about = "an expression of at least its precedence, for the side r";
        dueValue("op ! 9 r(a,b)=a-b;9!5!3", 7, "(9-(5-3))");
        dueValue("op ! 1 r(a,b)=a-b;9!5!3", 7, "(9-(5-3))");
        dueValue("op ! 5 r(a,b)=a-b;9!5-3", 7, "(9-(5-3))");
        dueValue("op ! 5 r(a,b)=a-b;9-5!3", 1, "((9-5)-3)");
        dueValue("op ! 6 r(a,b)=a-b;9!5-3", 1, "((9-5)-3)");
        dueValue("op ! 4 r(a,b)=a-b;9!5-3", 7, "(9-(5-3))");
    }

    private static void oneMoreForNone() {
        about = "Behind what stands behind an operator of the side n, no operator of the same precedence may follow";
        dueValue("op ! 9 n(a,b)=a-b;9!5", 4, "(9-5)");
        dueFault("op ! 9 n(a,b)=a-b;9!5!3", 3, 21);
        dueFault("op ! 1 n(a,b)=a-b;9!5!3", 3, 21);
        String op = "op ! 5 n(a,b)=a-b;";
        dueFault(op + "9!5+3", 3, 21);
        dueValue(op + "9!5*3", -6, "(9-(5*3))");
        dueFault(op + "9!5*3-1", 3, 23);
        dueValue(op + "9+5!3", 11, "((9+5)-3)");
        dueValue(op + "9!(5!3)", 7, "(9-(5-3))");
        dueValue(op + "(9!5)!3", 1, "((9-5)-3)");
        dueValue(op + "9!5;9!5", 4, "(9-5);(9-5)");
        dueValue(op + "op # 4 l(a,b)=a-b;9!5#9!5", 0, "((9-5)-(9-5))");
        dueFault(op + "op # 5 r(a,b)=a-b;9!5#3", 3, 39);
        dueValue(op + "op # 6 l(a,b)=a-b;9!5#3", 7, "(9-(5-3))");
        dueFault(op + "op # 5 r(a,b)=a-b;9#5!3#1", 3, 41);
    }

    private static void precedencesAtFirst() {
        about = "At first there are + and - with the precedence 5, and * with 6, of the side l";
        dueValue("9-5-3", 1, "((9-5)-3)");
        dueValue("9-5+3", 7, "((9-5)+3)");
        dueValue("2+3*4", 14, "(2+(3*4))");
        dueValue("2*3+4", 10, "((2*3)+4)");
        dueValue("2*3*4", 24, "((2*3)*4)");
        dueFault("op ! 5 n(a,b)=a;1!2*3", 0, -1);
        dueFault("op ! 6 n(a,b)=a;1!2*3", 3, 19);
        dueFault("op ! 6 n(a,b)=a;1!2+3", 0, -1);
        dueFault("op ! 7 n(a,b)=a;1!2*3", 0, -1);
        dueFault("op ! 4 n(a,b)=a;1!2-3", 0, -1);
        dueFault("1/2", 1, 1);
        dueFault("-1", 1, 0);
        dueFault("+1", 1, 0);
        dueFault("*1", 1, 0);
    }

    private static void aheadOfAnExpression() {
        about = "an operator ahead of one, and an expression of at least its precedence";
        dueValue("pre ! 5(a)=0-a;!3+2", -5, "(0-(3+2))");
        dueValue("pre ! 6(a)=0-a;!3+2", -1, "((0-3)+2)");
        dueValue("pre ! 6(a)=0-a;!3*2", -6, "(0-(3*2))");
        dueValue("pre ! 7(a)=0-a;!3*2", -6, "((0-3)*2)");
        dueValue("pre ! 9(a)=0-a;op # 9 l(a,b)=a-b;!3#2", -1, "(0-(3-2))");
        dueValue("pre ! 1(a)=0-a;op # 1 l(a,b)=a-b;2*!3#2", -2, "(2*(0-(3-2)))");
        dueValue("pre ! 9(a)=0-a;!!!3", -3, "(0-(0-(0-3)))");
        dueFault("pre ! 9(a)=0-a;!", 1, 16);
    }

    private static void firstParts() {
        about = "A first part is a number; a name; a use of a macro; an expression in ( and ); a block";
        dueFault("()", 1, 1);
        dueFault("(;)", 1, 1);
        dueFault("(1;)", 1, 2);
        dueFault("(let a=1)", 1, 1);
        dueFault("((1)", 1, 4);
        dueFault("(1))", 1, 3);
        dueFault("1+", 1, 2);
        dueFault("1+;", 1, 2);
        dueFault("1+}", 1, 2);
        dueFault("let a=;", 1, 6);
        dueFault("let a=", 1, 6);
        dueFault("=", 1, 0);
        dueFault(",", 1, 0);
        dueValue("((((1))))", 1, "1");
    }

    private static void caretsInExpressionsOfMakings() {
        about = "in the E of op, pre and mac also ^ and a name";
        dueFault("^a", 1, 0);
        dueFault("let a=1;^a", 1, 8);
        dueFault("let a=1;let b=^a", 1, 14);
        dueFault("let a=1;mac f(b)=b;f(^a)", 1, 21);
        dueFault("let a=1;mac f(b)=b;^a", 1, 19);
        dueFault("let a=1;{^a}", 1, 9);
        dueFault("op ! 5 l(a,b)=^c", 0, -1);
        dueFault("pre ! 5(a)=^c", 0, -1);
        dueFault("mac f()=^c", 0, -1);
        dueFault("mac f()={let d=^c;(1+{^c})}", 0, -1);
        dueFault("mac f()={mac g()=1;^c}", 0, -1);
        dueFault("mac f()=^", 1, 9);
        dueFault("mac f()=^^a", 1, 9);
        dueFault("mac f()=^1", 1, 9);
        dueFault("mac f()=^(a)", 1, 9);
        dueFault("mac f()=a^c", 2, 8);
        dueFault("mac f()=1^c", 1, 9);
    }

    // ---- the value

    private static void lastStatement() {
        about = "The value is that of its last statement that is not empty, and makes no operator or macro, otherwise 0";
        dueValue("5", 5, "5");
        dueValue("5;;;", 5, "5");
        dueValue("5;6", 6, "5;6");
        dueValue("5;op ! 5 l(a,b)=a", 5, "5");
        dueValue("5;pre ! 5(a)=a;", 5, "5");
        dueValue("5;mac f()=1;;", 5, "5");
        dueValue("5;let a=1", 0, "5;let va=1");
        dueValue("5;let a=1;mac f()=1;", 0, "5;let va=1");
        dueValue("5;let a=1;a", 1, "5;let va=1;va");
        dueValue("mac f()=1", 0, "");
        dueValue("{5;}+{let a=1}+{mac f()=1}", 5, "(({5}+{let va=1})+{})");
        dueValue("{5;op ! 5 l(a,b)=a}", 5, "{5}");
    }

    private static void overflow() {
        about = "Values are longs, with overflow";
        // 536870912 is the 29th power of 2.
        String power = "536870912*536870912*";
        String text = "((536870912*536870912)*";
        dueValue(power + "31", 31L << 58, text + "31)");
        dueValue(power + "32", Long.MIN_VALUE, text + "32)");
        dueValue(power + "64", 0, text + "64)");
        dueValue(power + "32-1", Long.MAX_VALUE, "(" + text + "32)-1)");
        dueValue(power + "32-1+1", Long.MIN_VALUE, "((" + text + "32)-1)+1)");
        dueValue("0-" + power + "32", Long.MIN_VALUE, "(0-" + text + "32))");
        String most = "let a=" + power + "32-1;";
        String mostText = "let va=(" + text + "32)-1);";
        dueValue(most + "a+a", -2, mostText + "(va+va)");
        dueValue(most + "a*a", 1, mostText + "(va*va)");
        dueValue(most + "0-a-2", Long.MAX_VALUE, mostText + "((0-va)-2)");
        dueValue(most + "mac f(b)=b+1;f(a)", Long.MIN_VALUE, mostText + "(va+1)");
    }
}
