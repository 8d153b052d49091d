/** The example of README.md: its calls, in their order, have the answers that stand behind them there. */
final class ReadmeTest extends Checks {
    public static void main(String[] args) {
        about = "the example of README.md";
        Macrocosm text = of("mac f(a)={let t=a;t*t};let t=3;f(t+1)");
        due("fault()", text.fault(), 0);
        due("value()", text.value(), 16);
        due("valueByText()", text.valueByText(), 16);
        due("parts()", text.parts(), 10);
        due("expanded()", text.expanded(), 32);
        due("expandedAt(0)", text.expandedAt(0), 'l');
        dueText("the expansion", expansionOf(textOf(text)), "let va=3;{let vb=(va+1);(vb*vb)}");
        due("tokens()", text.tokens(), 28);
        due("made(33)", text.made(33), 27);
        due("uses(33)", text.uses(33), 2);
        due("holds(33, 1)", text.holds(33, 1), 1);
        due("rename(27, 0)", text.rename(27, 0) ? 1 : 0, 1);
        dueText("the text", textOf(text), "mac f(a)={let t=a;t*t};let a=3;f(a+1)");
        due("erase(35)", text.erase(35), '1');
        due("fault()", text.fault(), 1);
        due("faultPlace()", text.faultPlace(), 35);
        tellAndExit();
    }
}
