/** The boundary cases of "The desk" and of promises 17 to 22: the text's length, faults, brackets, the million, shares. */
public final class BoundaryDesk extends Checks {
    private static final int SOPRANO = 0;
    private static final int ALTO = 1;
    private static final int BASS = 3;

    public static void main(String[] args) {
        typeRanges();
        typeLength();
        clearEmptyAndFull();
        faultRanges();
        things();
        terms();
        starsAndDigits();
        brackets();
        sixOpen();
        seventhOpen();
        tooEarly();
        cannotBeThere();
        noSpaces();
        firstFaultCounts();
        fullTexts();
        adoptFaults();
        adoptCountsParts();
        adoptKeepsTheText();
        firstFormula();
        mixOrder();
        mixNesting();
        mixReachesTheMillion();
        mixPassesTheMillion();
        mixCapsEachResult();
        mixOfWhatIsHeard();
        aloneRanges();
        aloneOfNothing();
        aloneAboveNothing();
        aloneTies();
        aloneAtTheMillion();
        aloneShares();
        finish("BoundaryDesk");
    }

    private static void fault(String text, int position, int reason) {
        ChoirBox x = new ChoirBox();
        write(x, text);
        due("position in '" + text + "'", x.fault(0), position);
        due("reason in '" + text + "'", x.fault(1), reason);
        due("adopt of '" + text + "'", x.adopt(), -2);
    }

    private static void good(String text, int parts) {
        ChoirBox x = new ChoirBox();
        write(x, text);
        due("position in '" + text + "'", x.fault(0), -4);
        due("reason in '" + text + "'", x.fault(1), -4);
        due("adopt of '" + text + "'", x.adopt(), parts);
    }

    private static void mixes(ChoirBox x, String text, int want) {
        write(x, text);
        holds("'" + text + "' has no fault", x.adopt() > 0);
        due("mix of '" + text + "'", x.mix(), want);
    }

    private static void typeRanges() {
        says("character: 32 to 126");
        ChoirBox x = new ChoirBox();
        int[] odd = {31, 127, 0, -1, 10, 255, 256 + 's', 65536 + 's', Integer.MIN_VALUE, Integer.MAX_VALUE};
        for (int character : odd) {
            due("type(" + character + ")", x.type(character), -1);
        }
        due("nothing is appended", x.count(12), 0);
        due("least", x.type(32), 1);
        due("most", x.type(126), 2);
        due("any between", x.type('s'), 3);
    }

    private static void typeLength() {
        says("a text of at most 60 characters; LIMIT_REACHED if it has 60 characters");
        ChoirBox x = new ChoirBox();
        for (int i = 1; i <= 60; i++) {
            due("character " + i, x.type('('), i);
        }
        due("no more", x.type('('), -3);
        due("out of range rather than the limit", x.type(127), -1);
        due("the length", x.count(12), 60);
        x.clearText();
        due("again from the first", x.type('s'), 1);
    }

    private static void clearEmptyAndFull() {
        says("Returns the length it had");
        ChoirBox x = new ChoirBox();
        due("empty", x.clearText(), 0);
        x.type('s');
        due("one", x.clearText(), 1);
        due("empty again", x.clearText(), 0);
        for (int i = 0; i < 60; i++) {
            x.type('s');
        }
        due("full", x.clearText(), 60);
        due("empty again", x.count(12), 0);
        due("its fault", x.fault(0), 0);
        due("its reason", x.fault(1), 3);
    }

    private static void faultRanges() {
        says("INVALID_ARGUMENT if what is out of range; NOT_FOUND if the text has no fault");
        int[] odd = {-1, 2, Integer.MIN_VALUE, Integer.MAX_VALUE};
        ChoirBox x = new ChoirBox();
        for (int what : odd) {
            due("of a fault, " + what, x.fault(what), -1);
        }
        x.type('s');
        for (int what : odd) {
            due("of none, " + what, x.fault(what), -1);
        }
        due("no position", x.fault(0), -4);
        due("no reason", x.fault(1), -4);
    }

    private static void things() {
        says("a thing is \"s\", \"a\", \"t\" or \"b\", or a formula in \"(\" and \")\"");
        for (int character = 32; character <= 126; character++) {
            ChoirBox x = new ChoirBox();
            x.type(character);
            boolean part = character == 's' || character == 'a' || character == 't' || character == 'b';
            int reason = part ? -4 : character == '(' ? 3 : 1;
            due("reason of " + character, x.fault(1), reason);
            due("position of " + character, x.fault(0), part ? -4 : character == '(' ? 1 : 0);
        }
        good("(s)", 1);
        fault("()", 1, 1);
    }

    private static void terms() {
        says("A formula is a term, or several terms with \"+\" or \"^\" between two");
        good("s", 1);
        good("s+a", 2);
        good("s^a", 2);
        good("s+a^t+b", 4);
        fault("sa", 1, 1);
        fault("s-a", 1, 1);
        fault("s/a", 1, 1);
        fault("+s", 0, 1);
        fault("^s", 0, 1);
        fault("s++a", 2, 1);
        fault("s^^a", 2, 1);
        fault("s+^a", 2, 1);
        fault("s+a+", 4, 3);
    }

    private static void starsAndDigits() {
        says("a term is a thing, perhaps with \"*\" and a digit (0 to 9) behind it");
        for (int digit = 0; digit <= 9; digit++) {
            good("s*" + digit, 1);
        }
        fault("s*/", 2, 1);
        fault("s*:", 2, 1);
        fault("s**", 2, 1);
        fault("s*s", 2, 1);
        fault("s*(", 2, 1);
        fault("s*)", 2, 1);
        fault("s*+", 2, 1);
        fault("*2", 0, 1);
        fault("2", 0, 1);
        fault("2*s", 0, 1);
        fault("s2", 1, 1);
        fault("s*22", 3, 1);
        fault("s*2*2", 3, 1);
        fault("s*2s", 3, 1);
        fault("s*2(", 3, 1);
        good("(s)*2", 1);
        good("(s*2)*2", 1);
        fault("(s)*2*2", 5, 1);
        fault("(s)2", 3, 1);
        good("s*2+a*2", 2);
        good("s*2^a", 2);
    }

    private static void brackets() {
        says("or a formula in \"(\" and \")\"");
        good("(s+a)", 2);
        good("((s))", 1);
        good("(s)+(a)", 2);
        good("(s*2)", 1);
        fault(")", 0, 1);
        fault("s)", 1, 1);
        fault("s*2)", 3, 1);
        fault("(s))", 3, 1);
        fault("(s)+a)", 5, 1);
        fault("(s+)", 3, 1);
        fault("(s*)", 3, 1);
        fault("s(", 1, 1);
        fault("(s)(", 3, 1);
        fault("(s)a", 3, 1);
        fault("(+", 1, 1);
    }

    private static void sixOpen() {
        says("at most 6 brackets are open at a time");
        good("((((((s))))))", 1);
        good("((((((s))))))+((((((a))))))", 2);
        good("((((((s)+a)+t)+b)+s)+a)", 6);
        good("((((((s)+(a))))))", 2);
        good("(s)+(a)+(t)+(b)+(s)+(a)+(t)+(b)", 8);
        good("((((((s)*2)*2)*2)*2)*2)*2", 1);
    }

    private static void seventhOpen() {
        says("its reason is 2 if it is the seventh open bracket");
        fault("(((((((", 6, 2);
        fault("(((((((s)))))))", 6, 2);
        fault("((((((s+(", 8, 2);
        fault("((((((s)+((", 10, 2);
        fault("(s)+(((((((", 10, 2);
        fault("((((((s))))))+(((((((", 20, 2);
        says("1 if it cannot be there, also if six are open");
        fault("((((((s(", 7, 1);
        fault("((((((s*(", 8, 1);
        fault("((((((s*2(", 9, 1);
        fault("((((((s)(", 8, 1);
        fault("((((((+", 6, 1);
    }

    private static void tooEarly() {
        says("the length of the text if it ends too early; 3");
        fault("", 0, 3);
        fault("(", 1, 3);
        fault("((((((", 6, 3);
        fault("s+", 2, 3);
        fault("s^", 2, 3);
        fault("s*", 2, 3);
        fault("(s", 2, 3);
        fault("(s*", 3, 3);
        fault("(s*2", 4, 3);
        fault("(s+", 3, 3);
        fault("((s)", 4, 3);
        fault("((s)*2", 6, 3);
        fault("s+(", 3, 3);
        fault("((((((s)))))", 12, 3);
    }

    private static void cannotBeThere() {
        says("the position, from 0, of the first character that cannot be there; behind a thing, a digit and a bracket");
        for (int character = 32; character <= 126; character++) {
            boolean joins = character == '+' || character == '^';
            ChoirBox x = new ChoirBox();
            write(x, "s");
            x.type(character);
            due("behind a part, " + character, x.fault(1), joins || character == '*' ? 3 : 1);
            due("its position, " + character, x.fault(0), joins || character == '*' ? 2 : 1);
            write(x, "s*2");
            x.type(character);
            due("behind a digit, " + character, x.fault(1), joins ? 3 : 1);
            due("its position, " + character, x.fault(0), joins ? 4 : 3);
            write(x, "(s)");
            x.type(character);
            due("behind a bracket, " + character, x.fault(1), joins || character == '*' ? 3 : 1);
            write(x, "s*");
            x.type(character);
            due("behind a star, " + character, x.fault(1), character >= '0' && character <= '9' ? -4 : 1);
            write(x, "s+");
            x.type(character);
            due("behind a plus, " + character, x.fault(1), "satb".indexOf(character) >= 0 ? -4 : character == '(' ? 3 : 1);
        }
    }

    private static void noSpaces() {
        says("There are no spaces");
        fault(" ", 0, 1);
        fault(" s", 0, 1);
        fault("s ", 1, 1);
        fault("s +a", 1, 1);
        fault("s+ a", 2, 1);
        fault("s* 2", 2, 1);
        fault("( s)", 1, 1);
        fault("S", 0, 1);
    }

    private static void firstFaultCounts() {
        says("of the first character that cannot be there");
        fault("s+x+(((((((", 2, 1);
        fault("(((((((x", 6, 2);
        fault("sx", 1, 1);
        fault("xs", 0, 1);
        fault("s)+", 1, 1);
        fault("((x", 2, 1);
    }

    private static String repeated(String text, int times) {
        StringBuilder all = new StringBuilder();
        for (int i = 0; i < times; i++) {
            all.append(text);
        }
        return all.toString();
    }

    private static void fullTexts() {
        says("a text of at most 60 characters; the longest ones without a fault have 59");
        good(repeated("s+", 29) + "b", 30);
        good(repeated("s^", 28) + "b*9", 29);
        good(repeated("(", 6) + repeated("s+", 23) + "b" + repeated(")", 6), 24);
        says("the length of the text if it ends too early; 60");
        fault(repeated("s+", 30), 60, 3);
        fault(repeated("s+", 29) + "b*", 60, 3);
        fault(repeated("s+", 28) + "(b*2", 60, 3);
        says("the first character that cannot be there is the last of 60");
        fault(repeated("s+", 29) + "bs", 59, 1);
        fault(repeated("s+", 28) + "b*22", 59, 1);
        fault(repeated("s+", 29) + "s)", 59, 1);
        says("six brackets are open at the end of 60");
        fault(repeated("s+", 27) + repeated("(", 6), 60, 3);
        says("the seventh open bracket, at the first and at the last place where it can be in 60");
        fault(repeated("(", 60), 6, 2);
        fault(repeated("s+", 26) + repeated("(", 8), 58, 2);
    }

    private static void adoptFaults() {
        says("NOT_POSSIBLE if the text has a fault");
        ChoirBox x = new ChoirBox();
        x.knock(SOPRANO, 60, 100);
        x.tick(1);
        String[] faulty = {"", "(", "x", "s+", "(((((((", "s)"};
        for (String text : faulty) {
            write(x, text);
            due("adopt of '" + text + "'", x.adopt(), -2);
            due("the formula stays", x.mix(), 400);
            due("nothing is recorded", x.count(11), 2);
        }
    }

    private static void adoptCountsParts() {
        says("how many things that are parts the formula has, each as often as it stands there");
        good("t", 1);
        good("t+t", 2);
        good("t*0", 1);
        good("(t)^(t)", 2);
        good("s+a+t+b+b+t+a+s", 8);
        good("((((((b*9)*8)*7)*6)*5)*4)*3", 1);
    }

    private static void adoptKeepsTheText() {
        says("Makes the text, which stays, the formula of the desk");
        ChoirBox x = new ChoirBox();
        x.knock(SOPRANO, 60, 100);
        x.knock(ALTO, 60, 100);
        x.tick(1);
        write(x, "a");
        due("before", x.mix(), 600);
        due("one part", x.adopt(), 1);
        due("after", x.mix(), 200);
        due("the text stays", x.count(12), 1);
        x.type('*');
        x.type('2');
        due("the formula is that of before", x.mix(), 200);
        due("adopted once more", x.adopt(), 1);
        due("now the longer one", x.mix(), 400);
        due("three changes here", x.count(11), 4);
        x.clearText();
        due("without the text", x.mix(), 400);
        due("an empty text is no formula", x.adopt(), -2);
        write(x, "s");
        due("a shorter one", x.adopt(), 1);
        due("nothing of the longer one", x.mix(), 400);
        due("nor for one part", x.alone(0), 1);
        due("the soprano", x.alone(1), SOPRANO);
    }

    /** Soprano 608, alto 200, tenor 0, bass 800. */
    private static ChoirBox singing() {
        ChoirBox x = new ChoirBox();
        x.knock(SOPRANO, 60, 100);
        x.knock(BASS, 40, 100);
        x.tick(7);
        x.knock(ALTO, 50, 100);
        x.tick(1);
        return x;
    }

    private static void firstFormula() {
        says("at first it is s+a+t+b");
        ChoirBox x = singing();
        due("text, initially empty", x.count(12), 0);
        due("all together", x.mix(), 1608);
        due("three parts make something", x.alone(0), 3);
        due("the bass makes most", x.alone(1), BASS);
        ChoirBox y = new ChoirBox();
        due("of nothing", y.mix(), 0);
        y.knock(2, 60, 5);
        y.tick(1);
        due("the tenor too", y.mix(), 8);
    }

    private static void mixOrder() {
        says("\"+\" (their sum) or \"^\" (the greater one), both from the left to the right");
        ChoirBox x = singing();
        mixes(x, "s^b+a", 1000);
        mixes(x, "a+s^b", 808);
        mixes(x, "s+a^b", 808);
        mixes(x, "s+a^b+a", 1008);
        mixes(x, "a^s^b", 800);
        mixes(x, "a^a", 200);
        mixes(x, "t^t", 0);
        mixes(x, "t^a", 200);
        mixes(x, "a^t", 200);
        mixes(x, "s^a*4", 800);
        mixes(x, "s^a*3", 608);
        mixes(x, "s*0", 0);
        mixes(x, "s*1", 608);
        mixes(x, "s*9", 5472);
        mixes(x, "t*9+a", 200);
        mixes(x, "s*0^a", 200);
    }

    private static void mixNesting() {
        says("a formula in \"(\" and \")\" is a thing; six deep");
        ChoirBox x = singing();
        mixes(x, "((((((a))))))", 200);
        mixes(x, "((((((a+s))))))", 808);
        mixes(x, "((((((a)*2)*2)*2)*2)*2)*2", 12800);
        mixes(x, "(a+(a+(a+(a+(a+(a+s))))))", 200 * 6 + 608);
        mixes(x, "(a+(a+(a+(a+(a+(a^s))))))", 200 * 5 + 608);
        mixes(x, "(a^(a+(a^(a+(a^(a+b*2)*2)*2)*2)*2)*2)*2", mixedByHand());
        mixes(x, "(s^a)+(a^b)", 1408);
        mixes(x, "(a)^(a+a)+(s^(b))", 1200);
        mixes(x, "s+(a^b)", 1408);
        mixes(x, "(s+a)*2+(t)*9", 1616);
    }

    private static int mixedByHand() {
        int sixth = 200 + 800 * 2;
        int fifth = Math.max(200, sixth * 2);
        int fourth = 200 + fifth * 2;
        int third = Math.max(200, fourth * 2);
        int second = 200 + third * 2;
        int first = Math.max(200, second * 2);
        return first * 2;
    }

    /** A soprano that holds, of 64 by strength 8: 64 * 5 * 5 * 5 * 5 * 5 * 5 is a million. */
    private static ChoirBox withSixtyFour() {
        ChoirBox x = new ChoirBox();
        x.knock(SOPRANO, 60, 8);
        x.tick(2);
        return x;
    }

    private static void mixReachesTheMillion() {
        says("the result of each \"+\", \"^\" and \"*\" is at most 1000000; it is just this");
        ChoirBox x = withSixtyFour();
        due("the share", x.mix(), 64);
        mixes(x, "((((s*5)*5)*5)*5)*5", 200000);
        mixes(x, "(((((s*5)*5)*5)*5)*5)*4", 800000);
        mixes(x, "(((((s*5)*5)*5)*5)*5)*5", 1000000);
        mixes(x, "(((((s*5)*5)*5)*5)*5)*5^s", 1000000);
        mixes(x, "s^(((((s*5)*5)*5)*5)*5)*5", 1000000);
        mixes(x, "(((((s*5)*5)*5)*5)*5)*4+((((s*5)*5)*5)*5)*5", 1000000);
    }

    /** An alto that holds at 481 (688 * 700 / 1000), of which 2079 are 999999; and a soprano that has faded to 1. */
    private static void mixPassesTheMillion() {
        says("the result of each \"+\", \"^\" and \"*\" is at most 1000000; 1 less and 1 more");
        ChoirBox x = new ChoirBox();
        x.knock(ALTO, 60, 86);
        x.tick(20);
        x.knock(SOPRANO, 60, 1);
        x.tick(1);
        x.release(SOPRANO, 60);
        due("481 and 1", x.tick(3), 482);
        String less = "(((a*9)*7)*3)*9+(((a*9)*7)*3)*2";
        mixes(x, less, 999999);
        mixes(x, less + "+s", 1000000);
        mixes(x, less + "+s+s", 1000000);
        mixes(x, less + "+s*2", 1000000);
        mixes(x, "s*2+" + less, 1000000);
        mixes(x, less + "^s*2", 999999);
        mixes(x, "(" + less + ")*1", 999999);
        mixes(x, "(" + less + ")*2", 1000000);
        mixes(x, "(" + less + ")*0+s", 1);
    }

    private static void mixCapsEachResult() {
        says("the result of each \"+\", \"^\" and \"*\", not only the last one");
        ChoirBox x = new ChoirBox();
        for (int i = 0; i < 2; i++) {
            x.knock(SOPRANO, i, 127);
        }
        due("2032", x.tick(2), 2032);
        mixes(x, "(((((s*9)*9)*9)*9)*9)*9", 1000000);
        mixes(x, "((((((s*9)*9)*9)*9)*9)*9)*0", 0);
        mixes(x, "((((((s*9)*9)*9)*9)*9)*9)*1", 1000000);
        mixes(x, "(((s*9)*9)*9)*9+(((s*9)*9)*9)*9+(((s*9)*9)*9)*9", 1000000);
        mixes(x, "((((s*9)*9)*9)*9^s)*9+s", 1000000);
    }

    private static void mixOfWhatIsHeard() {
        says("what is heard of this part");
        ChoirBox x = singing();
        x.set(2, 804);
        mixes(x, "s", 304);
        mixes(x, "a", 100);
        mixes(x, "b", 400);
        mixes(x, "t", 0);
        mixes(x, "(s+a+t+b)*2", 1608);
        x.set(2, 1608);
        due("at the bound", x.mix(), 3216);
    }

    private static void aloneRanges() {
        says("alone; INVALID_ARGUMENT if what is out of range");
        ChoirBox x = new ChoirBox();
        int[] odd = {-1, 2, Integer.MIN_VALUE, Integer.MAX_VALUE};
        for (int what : odd) {
            due("of nothing, " + what, x.alone(what), -1);
        }
        x = singing();
        for (int what : odd) {
            due("of something, " + what, x.alone(what), -1);
        }
    }

    private static void aloneOfNothing() {
        says("NOT_FOUND for 1 if none makes something");
        ChoirBox x = new ChoirBox();
        due("no voice, how many", x.alone(0), 0);
        due("no voice, which", x.alone(1), -4);
        x.knock(SOPRANO, 60, 100);
        due("a silent voice, how many", x.alone(0), 0);
        due("a silent voice, which", x.alone(1), -4);
        x = singing();
        mixes(x, "s*0", 0);
        due("times 0, how many", x.alone(0), 0);
        due("times 0, which", x.alone(1), -4);
        mixes(x, "t", 0);
        due("a part without voices, how many", x.alone(0), 0);
        due("a part without voices, which", x.alone(1), -4);
    }

    private static void aloneAboveNothing() {
        says("how many of the four parts make something greater than 0 alone");
        ChoirBox x = new ChoirBox();
        x.knock(BASS, 60, 1);
        due("1", x.tick(1), 1);
        due("is greater than 0", x.alone(0), 1);
        due("the bass", x.alone(1), BASS);
        x.knock(SOPRANO, 60, 1);
        x.knock(ALTO, 60, 1);
        x.knock(2, 60, 1);
        x.tick(1);
        due("all four", x.alone(0), 4);
        due("the soprano's 4", x.alone(1), SOPRANO);
        write(x, "a+b");
        x.adopt();
        due("two", x.alone(0), 2);
        due("alto and bass are at 2: the lowest", x.alone(1), ALTO);
    }

    private static void aloneTies() {
        says("of several the lowest");
        ChoirBox x = new ChoirBox();
        x.knock(BASS, 60, 40);
        x.knock(2, 60, 25);
        x.knock(ALTO, 60, 20);
        x.knock(SOPRANO, 60, 10);
        due("each 40", x.tick(1), 160);
        due("all four", x.alone(0), 4);
        due("the soprano", x.alone(1), SOPRANO);
        mixes(x, "a+t+b", 120);
        due("the alto", x.alone(1), ALTO);
        mixes(x, "b^t", 40);
        due("the tenor", x.alone(1), 2);
        mixes(x, "t+b*2", 120);
        due("the bass, which makes more", x.alone(1), BASS);
        due("two", x.alone(0), 2);
    }

    private static void aloneAtTheMillion() {
        says("of several the lowest, each at 1000000");
        ChoirBox x = new ChoirBox();
        x.knock(BASS, 60, 127);
        x.knock(ALTO, 60, 100);
        x.tick(8);
        mixes(x, "(((((a+b)*9)*9)*9)*9)*9", 1000000);
        due("two", x.alone(0), 2);
        due("the alto, though the bass is louder", x.alone(1), ALTO);
    }

    private static void aloneShares() {
        says("if of each part its share were heard alone: what is heard of it now");
        ChoirBox x = new ChoirBox();
        x.set(2, 100);
        x.knock(SOPRANO, 60, 127);
        x.knock(BASS, 60, 1);
        x.tick(8);
        due("the bass is at 8", x.noteOf(1, 4), 8);
        due("it is heard as 1", x.noteOf(1, 5), 1);
        due("two make something", x.alone(0), 2);
        x.knock(SOPRANO, 61, 127);
        x.tick(1);
        due("the bass is heard as 0", x.noteOf(1, 5), 0);
        due("one makes something", x.alone(0), 1);
        mixes(x, "b*9", 0);
        due("none makes something", x.alone(0), 0);
        due("none makes something", x.alone(1), -4);
        due("nothing changed", x.count(7), x.partOf(SOPRANO, 3));
    }
}
