/** What the tests share: an answer is compared with the one that is due, and a wrong one ends the test with exit code 1. */
class Checks {
    private static int wrong = 0;
    private static String sentence = "";

    /** The sentence of the document that the next comparisons are about. */
    static void says(String words) {
        sentence = words + ": ";
    }

    static void due(String call, int got, int want) {
        if (got != want) {
            wrong++;
            System.out.println(sentence + call + " answered " + got + ", due is " + want);
        }
    }

    static void holds(String what, boolean so) {
        if (!so) {
            wrong++;
            System.out.println(sentence + what + " is not so");
        }
    }

    static void finish(String name) {
        System.out.println(wrong == 0 ? name + ": all answers are as due" : name + ": " + wrong + " answers are not as due");
        if (wrong != 0) {
            System.exit(1);
        }
    }

    /** Puts a text where the old one was. */
    static void write(ChoirBox x, String text) {
        x.clearText();
        for (int i = 0; i < text.length(); i++) {
            x.type(text.charAt(i));
        }
    }

    /** A box with so many places, and the rule. */
    static ChoirBox box(int places, int rule) {
        ChoirBox x = new ChoirBox();
        x.set(0, places);
        x.set(1, rule);
        return x;
    }

    /** All that can be seen of a box by calls that change nothing; of the 512 calls it takes some 60, and ten a note. */
    static String seen(ChoirBox x) {
        StringBuilder all = new StringBuilder();
        for (int what = 0; what <= 22; what = what == 12 ? 20 : what + 1) {
            all.append(x.count(what)).append(' ');
        }
        for (int note = 0; note < x.count(0); note++) {
            all.append('|');
            for (int what = 0; what <= 7; what++) {
                all.append(x.noteOf(note, what)).append(' ');
            }
        }
        for (int part = 0; part <= 3; part++) {
            all.append('/');
            for (int what = 0; what <= 4; what++) {
                all.append(x.partOf(part, what)).append(' ');
            }
        }
        for (int index = 0; index < x.count(1); index++) {
            all.append('#').append(x.voiceAt(index));
        }
        int[] others = {x.next(), x.peak(1), x.peak(200), x.silence(), x.freeIn(), x.mix(), x.alone(0), x.alone(1),
            x.fault(0), x.fault(1)};
        for (int other : others) {
            all.append('=').append(other);
        }
        return all.toString();
    }
}
