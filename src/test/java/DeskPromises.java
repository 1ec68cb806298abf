/** Promises 17 to 22, by answers worked out by hand from the document. */
public final class DeskPromises extends Checks {
    public static void main(String[] args) {
        type();
        clearText();
        goodTexts();
        faults();
        faultOfAnySign();
        adopt();
        mix();
        mixCaps();
        alone();
        finish("DeskPromises");
    }

    /** Soprano 608, bass 800, as alto 200 and tenor 0. */
    private static ChoirBox singing() {
        ChoirBox x = new ChoirBox();
        x.knock(0, 60, 100);
        x.knock(3, 40, 100);
        x.tick(7);
        x.knock(1, 50, 100);
        x.tick(1);
        return x;
    }

    private static int mixOf(ChoirBox x, String text) {
        write(x, text);
        x.adopt();
        return x.mix();
    }

    private static void type() {
        ChoirBox x = new ChoirBox();
        due("17: 31", x.type(31), -1);
        due("17: 127", x.type(127), -1);
        due("17: -1", x.type(-1), -1);
        due("17: 65536 + 115", x.type(65536 + 115), -1);
        due("17: 32", x.type(32), 1);
        due("17: 126", x.type(126), 2);
        for (int i = 3; i <= 60; i++) {
            due("17: s", x.type('s'), i);
        }
        due("17: 60 are there", x.type('s'), -3);
        due("17: wrong rather than the limit", x.type(31), -1);
        due("17: the length", x.count(12), 60);
        due("17: no change", x.count(11), 0);
    }

    private static void clearText() {
        ChoirBox x = new ChoirBox();
        due("18: empty", x.clearText(), 0);
        write(x, "s+a");
        due("18: three", x.clearText(), 3);
        due("18: empty now", x.count(12), 0);
        due("18: no change", x.count(11), 0);
        due("18: typed anew", x.type('t'), 1);
        due("18: nothing of the old text", x.fault(0), -4);
    }

    private static void goodTexts() {
        String[] good = {"s", "a", "t", "b", "s+a", "s^a", "s*0", "s*9", "(s)", "(s)*2", "((((((s))))))", "s*2+a*3^t",
            "(s+a)*2^(t)", "(s)+(a)+(t)+(b)+(s)+(a)+(t)", "((s*1)*2)*3"};
        for (String text : good) {
            ChoirBox x = new ChoirBox();
            write(x, text);
            due("19: " + text, x.fault(0), -4);
            due("19: " + text, x.fault(1), -4);
            due("19: what -1", x.fault(-1), -1);
            due("19: what 2", x.fault(2), -1);
        }
    }

    private static void faults() {
        fault("", 0, 3);
        fault("s+", 2, 3);
        fault("s^", 2, 3);
        fault("s*", 2, 3);
        fault("(", 1, 3);
        fault("(s", 2, 3);
        fault("(s*2", 4, 3);
        fault("((s)", 4, 3);
        fault("+", 0, 1);
        fault("*2", 0, 1);
        fault("2", 0, 1);
        fault(")", 0, 1);
        fault("()", 1, 1);
        fault("s)", 1, 1);
        fault("(s))", 3, 1);
        fault("s*2)", 3, 1);
        fault("ss", 1, 1);
        fault("s(", 1, 1);
        fault("s2", 1, 1);
        fault("s*s", 2, 1);
        fault("s*(", 2, 1);
        fault("s*12", 3, 1);
        fault("s*1*2", 3, 1);
        fault("s*2a", 3, 1);
        fault("s++", 2, 1);
        fault("s+*", 2, 1);
        fault("(s+)", 3, 1);
        fault("(s)(", 3, 1);
        fault("(s)a", 3, 1);
        fault(" s", 0, 1);
        fault("s ", 1, 1);
        fault("s -", 1, 1);
        fault("S", 0, 1);
        fault("(((((((", 6, 2);
        fault("((((((s)+((", 10, 2);
        fault("((((((s(", 7, 1);
        fault("((((((+", 6, 1);
        fault("((((((", 6, 3);
    }

    private static void fault(String text, int position, int reason) {
        ChoirBox x = new ChoirBox();
        write(x, text);
        due("19: position of " + text, x.fault(0), position);
        due("19: reason of " + text, x.fault(1), reason);
        due("19: what 2 of " + text, x.fault(2), -1);
        due("20: adopt of " + text, x.adopt(), -2);
        due("20: no change of " + text, x.count(11), 0);
    }

    private static void faultOfAnySign() {
        for (int sign = 32; sign <= 126; sign++) {
            ChoirBox x = new ChoirBox();
            x.type(sign);
            boolean part = "satb".indexOf(sign) >= 0;
            due("19: first sign " + sign, x.fault(1), part ? -4 : sign == '(' ? 3 : 1);
            write(x, "(s");
            x.type(sign);
            boolean behind = "+^*".indexOf(sign) >= 0;
            due("19: behind a thing " + sign, x.fault(1), sign == ')' ? -4 : behind ? 3 : 1);
            write(x, "s*");
            x.type(sign);
            due("19: behind a star " + sign, x.fault(1), sign >= '0' && sign <= '9' ? -4 : 1);
        }
    }

    private static void adopt() {
        ChoirBox x = singing();
        due("20: empty", x.adopt(), -2);
        write(x, "s+s^(a+b)*2");
        due("20: things", x.adopt(), 4);
        due("20: the text stays", x.count(12), 11);
        due("20: a change", x.count(11), 4);
        int mixed = x.mix();
        x.clearText();
        due("20: the formula stays without the text", x.mix(), mixed);
        x.type('t');
        due("20: until it is adopted", x.mix(), mixed);
        due("20: one", x.adopt(), 1);
        due("20: then it mixes", x.mix(), 0);
        due("20: again", x.adopt(), 1);
        StringBuilder most = new StringBuilder("s");
        while (most.length() < 59) {
            most.append("+s");
        }
        write(x, most.toString());
        due("20: most things", x.adopt(), 30);
    }

    private static void mix() {
        ChoirBox x = singing();
        due("21: first formula", x.mix(), 1608);
        due("21: s", mixOf(x, "s"), 608);
        due("21: a", mixOf(x, "a"), 200);
        due("21: t", mixOf(x, "t"), 0);
        due("21: b", mixOf(x, "b"), 800);
        due("21: +", mixOf(x, "s+a"), 808);
        due("21: ^", mixOf(x, "s^b"), 800);
        due("21: ^ the other way", mixOf(x, "b^s"), 800);
        due("21: *", mixOf(x, "a*3"), 600);
        due("21: *0", mixOf(x, "a*0"), 0);
        due("21: left to right", mixOf(x, "s+a^b"), 808);
        due("21: left to right", mixOf(x, "s^b+a"), 1000);
        due("21: brackets", mixOf(x, "s+(a^b)"), 1408);
        due("21: * binds its thing", mixOf(x, "s+a*2"), 1008);
        due("21: * of a bracket", mixOf(x, "(s+a)*2"), 1616);
        due("21: brackets in brackets", mixOf(x, "((s^b)*2+(a)*3)*2^t"), 4400);
        due("21: brackets behind", mixOf(x, "a+(a+(a+(a+(a+(a)))))"), 1200);
        x.set(2, 804);
        due("21: by what is heard", mixOf(x, "s"), 304);
    }

    private static void mixCaps() {
        ChoirBox x = singing();
        due("21: 9*9*9*9", mixOf(x, "(((a)*9)*9)*5"), 81000);
        due("21: * is at most a million", mixOf(x, "((((a)*9)*9)*9)*9"), 1000000);
        due("21: and on", mixOf(x, "(((((a)*9)*9)*9)*9)*9"), 1000000);
        due("21: + is at most a million", mixOf(x, "(((a*9)*9)*9)*5+((a*9)*9)*9+((a*9)*9)*9"), 1000000);
        due("21: a capped thing is capped for what follows", mixOf(x, "(((((a*9)*9)*9)*9)*9)*1"), 1000000);
        due("21: ^ of a million", mixOf(x, "((((a)*9)*9)*9)*9^s"), 1000000);
    }

    private static void alone() {
        ChoirBox x = new ChoirBox();
        due("22: what -1", x.alone(-1), -1);
        due("22: what 2", x.alone(2), -1);
        due("22: none", x.alone(0), 0);
        due("22: none", x.alone(1), -4);
        x.knock(3, 40, 1);
        x.tick(1);
        due("22: 1 is greater than 0", x.alone(0), 1);
        due("22: 1 is most", x.alone(1), 3);
        x = singing();
        due("22: three", x.alone(0), 3);
        due("22: the bass", x.alone(1), 3);
        mixOf(x, "s*2^b");
        due("22: two", x.alone(0), 2);
        due("22: the soprano", x.alone(1), 0);
        mixOf(x, "a*4+b");
        due("22: of two as loud the lowest", x.alone(1), 1);
        mixOf(x, "t*9+s*0");
        due("22: none makes something", x.alone(0), 0);
        due("22: none makes something", x.alone(1), -4);
        mixOf(x, "((((a*9)*9)*9)*9)^((((s*9)*9)*9)*9)");
        due("22: both at a million, the lowest", x.alone(1), 0);
        mixOf(x, "s+a+t+b");
        x.set(2, 201);
        due("22: its share, not its level", x.alone(0), 3);
        x.set(2, 100);
        x.tick(1);
        due("22: nothing is changed", x.count(7), x.mix());
    }
}
