/** The boundary cases of the document's "Expansion", each sentence with a test of its own. */
public final class ExpansionBoundaryTest extends Checks {
    // d doubles: seven of them round a number have 128 numbers and 127 operators. 14 sums make it 297 parts.
    private static final String DOUBLE = "mac d(a)=a+a;";
    private static final String ALMOST = DOUBLE + "d(d(d(d(d(d(d(1)))))));" + repeated("1+1;", 14);

    // 127 uses, 63, 7 and 3, which are 200 together.
    private static final String MOST_USED = "mac i(a)=a;mac d(a)={a;a};"
            + "d(d(d(d(d(d(i(1)))))));d(d(d(d(d(i(1))))));d(d(i(1)));";

    public static void main(String[] args) {
        partsInPlaceOfParameters();
        namesWhereItIsMade();
        signsWhereItIsMade();
        letsOfItsOwn();
        partsWhereTheyStand();
        caretsWhereItIsUsed();
        caretsPassParameters();
        eachPartAsOftenAsItComes();
        moreThanParts();
        eachKindAtTheMost();
        moreThanUses();
        usesOfSigns();
        usesInParts();
        usesInPartsNotUsed();
        textOfLets();
        textOfNumbers();
        textOfOperators();
        textOfBlocks();
        leftOut();
        namesInTheirOrder();
        namesOfOneAndTwoLetters();
        mostNames();
        longestText();
        tellAndExit();
    }

    // ---- what it stands for

    private static void partsInPlaceOfParameters() {
        about = "stands for its E with its parts in place of the parameters";
        dueValue("mac f()={};f()", 0, "{}");
        dueValue("mac f(a)=1;f(2)", 1, "1");
        dueValue("mac f(a)=a;f({})", 0, "{}");
        dueValue("mac f(a,b,c)=c;f(1,2,3)", 3, "3");
        dueValue("mac f(a,b,c)=b-a-c;f(1,2,3)", -2, "((2-1)-3)");
        dueValue("mac f(a)=a*a;f(1+2)", 9, "((1+2)*(1+2))");
        dueValue("op ! 5 l(a,b)=b-a;1!2!3", 2, "(3-(2-1))");
        dueValue("pre ! 5(a)=a-1;!!3", 1, "((3-1)-1)");
        dueValue("mac f(a)=a;f(f(f(4)))", 4, "4");
    }

    private static void namesWhereItIsMade() {
        about = "its names mean what they mean there";
        dueValue("let a=1;mac f()=a;{let a=2;f()}", 1, "let va=1;{let vb=2;va}");
        dueValue("let a=1;mac f()={mac g()=a;let a=2;g()+a};f()", 3, "let va=1;{let vb=2;(va+vb)}");
        dueValue("mac f(a)={mac g()=a;let a=2;g()+a};f(7)", 9, "{let va=2;(7+va)}");
        dueValue("mac f()=1;mac g()=f();{mac f()=2;g()}", 1, "{1}");
        dueFault("mac f()=a;let a=1;f()", 2, 8);
    }

    private static void signsWhereItIsMade() {
        about = "E is read as all is where it is made";
        dueValue("mac f(a,b)=a+b;{op + 5 l(a,b)=a*b;f(3,3)+3}", 18, "{((3+3)*3)}");
        dueValue("op ! 4 l(a,b)=a-b;mac f(a)=9-1!a;{op ! 6 l(a,b)=a;f(2)}", 6, "{((9-1)-2)}");
        dueValue("op + 5 l(a,b)=a+b+1;{op + 5 l(a,b)=a+b+1;1+2}", 6, "{((((1+2)+1)+1)+1)}");
    }

    private static void letsOfItsOwn() {
        about = "what it makes by let is its own, each time anew";
        dueValue("mac f(a)={let t=a;t};f(1)+f(2)", 3, "({let va=1;va}+{let vb=2;vb})");
        dueValue("let t=5;mac f(a)={let t=1;a};f(t)", 5, "let va=5;{let vb=1;va}");
        dueValue("mac f(a)={let t=1;a+t};f(f(3))", 5, "{let va=1;({let vb=1;(3+vb)}+va)}");
        dueValue("mac f(a)={let t=a;a+t};{let t=2;f(t)}", 4, "{let va=2;{let vb=va;(va+vb)}}");
    }

    private static void partsWhereTheyStand() {
        about = "the parts mean what they mean where they stand";
        dueValue("let a=1;mac f(b)={let a=2;b+a};f(a)", 3, "let va=1;{let vb=2;(va+vb)}");
        dueValue("mac f(b)={mac g()=2;b+g()};mac g()=1;f(g())", 3, "{(1+2)}");
        dueValue("mac f(b)={op + 5 l(a,b)=a*b;b};f(3+3)", 6, "{(3+3)}");
        dueValue("mac f(a,b)=a-b;mac g(a,b)=f(b,a);g(1,2)", 1, "(2-1)");
        dueValue("mac f(a)={let t=a;a};f({let t=3;t})", 3, "{let va={let vb=3;vb};{let vc=3;vc}}");
    }

    private static void caretsWhereItIsUsed() {
        about = "^ and a name means what the name means where the operator or macro is used";
        dueValue("mac f()=^a;let a=1;f()+{let a=2;f()}", 3, "let va=1;(va+{let vb=2;vb})");
        dueValue("mac f()={let a=9;^a};let a=1;f()", 1, "let va=1;{let vb=9;va}");
        dueValue("op ! 5 l(a,b)=^x*b;let x=3;1!2", 6, "let va=3;(va*2)");
        dueValue("pre ! 5(a)=^x*a;let x=3;!2", 6, "let va=3;(va*2)");
        dueValue("mac f()=^a;mac g()={let a=2;f()};let a=1;g()", 2, "let va=1;{let vb=2;vb}");
        dueValue("mac i(b)={let a=9;b};mac f()=i(^a);let a=1;f()", 1, "let va=1;{let vb=9;va}");
        dueValue("mac f()={mac g()=^a;let a=2;g()};let a=1;f()", 2, "let va=1;{let vb=2;vb}");
        dueValue("let x=9;let a=1;mac f()=^a;{let y=3;f()}", 1, "let va=9;let vb=1;{let vc=3;vb}");
        dueValue("mac f(b)=^a+b;let a=1;f({let a=2;f(3)})", 6, "let va=1;(va+{let vb=2;(vb+3)})");
    }

    private static void caretsPassParameters() {
        about = "parameters being passed over";
        dueValue("mac f(a)=^a+a;let a=1;f(5)", 6, "let va=1;(va+5)");
        dueValue("let a=1;mac f()=^a;mac g(a)=f()+a;g(5)", 6, "let va=1;(va+5)");
        dueValue("let a=1;mac f()=^a;mac g(a)={let a=2;f()};g(5)", 2, "let va=1;{let vb=2;vb}");
        dueFault("mac f()=^a;mac g(a)=f();1", 2, 20);
        dueFault("mac f(a)=^a;f(5)", 2, 12);
        dueValue("let a=1;mac f()=^a;op ! 5 l(a,b)=f()+a+b;2!3", 6, "let va=1;((va+2)+3)");
    }

    // ---- parts and uses

    private static void eachPartAsOftenAsItComes() {
        about = "The parts of an expansion are its numbers, names, operators, blocks, and lets, each as often as it comes";
        dueParts("", 0);
        dueParts("1", 1);
        dueParts("1;1", 2);
        dueParts("1+1", 3);
        dueParts("{}", 1);
        dueParts("{1}", 2);
        dueParts("let a=1", 2);
        dueParts("let a=1;a", 3);
        dueParts("let a=1;a;a*a", 6);
        dueParts("(((1)))", 1);
        dueParts("mac f(a)=a+a+a", 0);
        dueParts("mac f(a)=a+a+a;f({2})", 8);
        dueParts("mac f(a)=1;f(2+2+2)", 1);
        dueParts("mac f()=^a;let a=1;f()", 3);
        dueParts("op ! 5 l(a,b)=a;1!2", 1);
    }

    private static void dueParts(String text, int parts) {
        due("parts() of " + text, of(text).parts(), parts);
    }

    private static void moreThanParts() {
        about = "With more than 300 parts it is too great";
        dueParts(ALMOST, 297);
        dueParts(ALMOST + "1;1", 299);
        dueParts(ALMOST + "1;1;1", 300);
        dueFault(ALMOST + "1;1;1", 0, -1);
        dueFault(ALMOST + "1;1;1;1", 5, 0);
        dueFault("  " + ALMOST + "1;1;1;1", 5, 0);
        dueFault(DOUBLE + "d(d(d(d(d(d(d(d(1))))))))", 5, 0);
        dueFault(DOUBLE + repeated("d(", 35) + "1" + repeated(")", 35), 5, 0);
    }

    private static void eachKindAtTheMost() {
        about = "With more than 300 parts it is too great, each kind of part";
        dueParts(ALMOST + "1+1", 300);
        dueFault(ALMOST + "1+1+1", 5, 0);
        dueParts(ALMOST + "{1};1", 300);
        dueParts(ALMOST + "{{{}}}", 300);
        dueFault(ALMOST + "{{{{}}}}", 5, 0);
        dueFault(ALMOST + "{1;1};{}", 5, 0);
        dueParts(ALMOST + "let a=1;a", 300);
        dueFault(ALMOST + "let a=1;a;a", 5, 0);
        dueFault(ALMOST + "1;1;let a=1", 5, 0);
        due("value() of 300 parts", of(ALMOST + "let a=7;a").value(), 7);
        due("valueByText() of 300 parts", of(ALMOST + "let a=7;a").valueByText(), 7);
    }

    private static void moreThanUses() {
        about = "if operators and macros that were made are used more than 200 times in it, it is too great";
        dueFault(MOST_USED + "i(i(1))", 0, -1);
        dueFault(MOST_USED + "i(i(i(1)))", 0, -1);
        dueFault(MOST_USED + "i(i(i(i(1))))", 5, 0);
        dueFault(MOST_USED + "1;1+i(i(i(1)))", 0, -1);
        dueParts(MOST_USED + "i(i(i(1)))", 198);
        due("value() of 200 uses", of(MOST_USED + "i(i(i(8)))").value(), 8);
        due("valueByText() of 200 uses", of(MOST_USED + "i(i(i(8)))").valueByText(), 8);
    }

    private static void usesOfSigns() {
        about = "operators that were made are used, + - * as at first not";
        // Ten signs in h, which g uses nine times: 1 + 9 * 11 = 100 uses.
        String ahead = "pre ! 9(a)=a;mac h(a)=!!!!!!!!!!a;mac g(a)=h(h(h(h(h(h(h(h(h(a)))))))));";
        dueFault(ahead + "g(g(1))", 0, -1);
        dueFault(ahead + "g(g(!1))", 5, 0);
        // Nine signs in h, which g uses nine times: 1 + 9 * 10 = 91 uses.
        String between = "op ! 1 r(a,b)=b;mac h(a)=1!1!1!1!1!1!1!1!1!a;mac g(a)=h(h(h(h(h(h(h(h(h(a)))))))));";
        dueFault(between + "g(g(h(1!1!1!1!1!1!1!1!1)))", 0, -1);
        dueFault(between + "g(g(h(1!1!1!1!1!1!1!1!1!1)))", 5, 0);
        dueFault(DOUBLE + "d(d(d(d(d(d(d(1)))))))", 0, -1);
    }

    private static void usesInParts() {
        about = "in a part that a parameter stands for as often as that comes";
        // n is used once, and i as often as it stands in n's part, nine times: 1 + 9 * 22 = 199 uses.
        String text = "mac i(a)=a;mac n(a)={a;a;a;a;a;a;a;a;a};n(" + repeated("i(", 22) + "1" + repeated(")", 23);
        dueFault(text + ";i(1)", 0, -1);
        dueFault(text + ";i(i(1))", 5, 0);
        // With a part in two parts, x is used once, n twice, and i eighteen times for each that stands there.
        String twice = "mac i(a)=a;mac n(a)={a;a;a;a;a;a;a;a;a};mac x(a)={a;a};x(n(";
        dueFault(twice + repeated("i(", 10) + "1" + repeated(")", 12), 0, -1);
        dueFault(twice + repeated("i(", 11) + "1" + repeated(")", 13), 5, 0);
    }

    private static void usesInPartsNotUsed() {
        about = "in one that is not used not at all";
        String text = "mac i(a)=a;mac d(a)={a;a};mac z(a)=5;";
        dueFault(text + "d(d(d(d(d(d(d(d(i(1)))))))))", 5, 0);
        dueValue(text + "z(d(d(d(d(d(d(d(d(i(1))))))))))", 5, "5");
        dueParts(text + "z(d(d(d(d(d(d(d(d(i(1))))))))))", 1);
        dueValue(text + "mac y(a)=d(d(d(d(d(d(d(d(i(1)))))))));6", 6, "6");
        dueFault(MOST_USED + "i(i(i(1)));mac j()=i(i(i(1)))", 0, -1);
        dueFault(text + "z(a)", 2, 39);
    }

    // ---- its text

    private static void textOfLets() {
        about = "a let as let, a blank, its name, =, and its value";
        dueValue("let  abc = 12", 0, "let va=12");
        dueValue("let a={let b=1;b};a", 1, "let va={let vb=1;vb};va");
        dueValue("let a=1+2;a", 3, "let va=(1+2);va");
        dueValue("let a={};a", 0, "let va={};va");
    }

    private static void textOfNumbers() {
        about = "a number by its value";
        dueValue("0", 0, "0");
        dueValue("000000000", 0, "0");
        dueValue("007", 7, "7");
        dueValue("10", 10, "10");
        dueValue("090", 90, "90");
        dueValue("100000000", 100000000, "100000000");
        dueValue("99999999", 99999999, "99999999");
        dueValue("999999999", 999999999, "999999999");
        dueValue("000000001", 1, "1");
    }

    private static void textOfOperators() {
        about = "an operator as (, the first part, it, the second one, and )";
        dueValue("1 + 2", 3, "(1+2)");
        dueValue("1-2", -1, "(1-2)");
        dueValue("1*2", 2, "(1*2)");
        dueValue("((1+2))*3", 9, "((1+2)*3)");
        dueValue("1+2*3-4", 3, "((1+(2*3))-4)");
    }

    private static void textOfBlocks() {
        about = "a block as {, its statements, and }; statements with ; between";
        dueValue("{}", 0, "{}");
        dueValue("{ 1 ; 2 }", 2, "{1;2}");
        dueValue("{{};{}}", 0, "{{};{}}");
    }

    private static void leftOut() {
        about = "Statements that make operators and macros, and empty ones, are left out";
        dueValue(";;", 0, "");
        dueValue("{;;}", 0, "{}");
        dueValue("mac f()=1", 0, "");
        dueValue("{mac f()=1}", 0, "{}");
        dueValue("1;mac f()=1;2", 2, "1;2");
        dueValue("mac f()=1;2", 2, "2");
        dueValue("1;op ! 5 l(a,b)=a", 1, "1");
        dueValue(";1;;pre ! 5(a)=a;;2;", 2, "1;2");
    }

    private static void namesInTheirOrder() {
        about = "in the order in which its lets begin";
        dueValue("let b=1;let a=2;b", 1, "let va=1;let vb=2;va");
        dueValue("let a={let b=1;b};let c=a;c", 1, "let va={let vb=1;vb};let vc=va;vc");
        dueValue("mac f()={let a=1;a};let b=f();b+f()", 2, "let va={let vb=1;vb};(va+{let vc=1;vc})");
        dueValue("mac f(a,b)=b-a;f({let x=1;x},{let y=2;y})", 1, "({let va=2;va}-{let vb=1;vb})");
        dueValue("mac f(a)=1;f({let x=1;x});let y=2;y", 2, "1;let va=2;va");
    }

    private static void namesOfOneAndTwoLetters() {
        about = "Its names are va, vb, .. vz, vba, vbb, ..";
        String expansion = expansionOf("mac f(a)={let x=1;a};mac g(a)=f(f(f(f(f(f(f(a)))))));g(g(g(g(9))))");
        StringBuilder want = new StringBuilder();
        for (char c = 'a'; c <= 'z'; c++) {
            want.append("{let v").append(c).append("=1;");
        }
        dueText("the text of 28 lets", expansion, want + "{let vba=1;{let vbb=1;9" + repeated("}", 28));
    }

    private static void mostNames() {
        about = "Its names are va, vb, .. vz, vba, vbb, .. up to the most that 300 parts leave room for";
        // A use of q makes six lets with their numbers, and a block: 13 parts. 23 of them and a number are 300.
        String lets = "mac q(a)={let b=1;let c=1;let d=1;let e=1;let g=1;let h=1;a};mac s(a)=q(q(q(q(q(a)))));";
        String text = lets + "s(s(s(s(q(q(q(5)))))))";
        String expansion = expansionOf(text);
        dueParts(text, 300);
        due("the 138th let", expansion.indexOf("let vfh=1;5}"), expansion.length() - 11 - 23);
        due("none behind it", expansion.indexOf("vfi"), -1);
        due("value()", of(text).value(), 5);
        due("valueByText()", of(text).valueByText(), 5);
        dueFault(lets + "s(s(s(s(q(q(q(5)))))));6", 5, 0);
    }

    private static void longestText() {
        about = "Its text, with 300 parts";
        String text = DOUBLE + "d(d(d(d(d(d(d(123456789)))))));" + repeated("{};", 15);
        due("expanded()", of(text).expanded(), 128 * 9 + 127 * 3 + 15 * 3);
        due("valueByText()", of(text + "1;2;3;4").valueByText(), 4);
        String sum = DOUBLE + "let a=d(d(d(d(d(d(d(999999999)))))));a+d(d(d(d(1))));2*a";
        due("parts()", of(sum).parts(), 1 + 255 + 1 + 1 + 31 + 3);
        due("expanded()", of(sum).expanded(), 7 + 128 * 9 + 127 * 3 + 1 + 2 + 3 + 16 + 15 * 3 + 1 + 6);
        due("valueByText()", of(sum).valueByText(), 2L * 128 * 999999999);
    }
}
