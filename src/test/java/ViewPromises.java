/** Promises 7 to 16, by answers worked out by hand from the document. */
public final class ViewPromises extends Checks {
    public static void main(String[] args) {
        noteOf();
        noteOfAtTheDoor();
        noteOfLeaving();
        heard();
        voiceAt();
        find();
        partOf();
        count();
        next();
        peak();
        peakWithDoor();
        silence();
        freeIn();
        undo();
        undoRestoresAll();
        undoFreesNumbers();
        errorsChangeNothing();
        viewsChangeNothing();
        finish("ViewPromises");
    }

    private static void noteOf() {
        ChoirBox x = new ChoirBox();
        due("7: no note", x.noteOf(0, 0), -1);
        x.knock(2, 50, 30);
        due("7: note -1", x.noteOf(-1, 0), -1);
        due("7: note 1", x.noteOf(1, 0), -1);
        due("7: what -1", x.noteOf(0, -1), -1);
        due("7: what 8", x.noteOf(0, 8), -1);
        due("7: part", x.noteOf(0, 0), 2);
        due("7: pitch", x.noteOf(0, 1), 50);
        due("7: strength", x.noteOf(0, 2), 30);
        due("7: rising", x.noteOf(0, 3), 1);
        x.tick(1);
        due("7: level", x.noteOf(0, 4), 48);
        due("7: heard", x.noteOf(0, 5), 48);
        due("7: not let go", x.noteOf(0, 6), 0);
        due("7: does not wait", x.noteOf(0, 7), -4);
        x.release(2, 50);
        due("7: fades, so it is no mark", x.noteOf(0, 6), 0);
        x.tick(10);
        due("7: gone", x.noteOf(0, 3), 6);
        due("7: no level", x.noteOf(0, 4), -4);
        due("7: not heard", x.noteOf(0, 5), -4);
        due("7: no mark", x.noteOf(0, 6), 0);
        due("7: its strength still", x.noteOf(0, 2), 30);
    }

    private static void noteOfAtTheDoor() {
        ChoirBox x = new ChoirBox();
        x.set(0, 1);
        x.set(1, 2);
        x.knock(0, 1, 10);
        x.knock(0, 2, 10);
        x.knock(0, 3, 10);
        due("7: waits", x.noteOf(2, 3), 0);
        due("7: no level", x.noteOf(2, 4), -4);
        due("7: not heard", x.noteOf(2, 5), -4);
        due("7: no mark", x.noteOf(2, 6), 0);
        due("7: the first", x.noteOf(1, 7), 0);
        due("7: one ahead", x.noteOf(2, 7), 1);
    }

    private static void noteOfLeaving() {
        ChoirBox x = new ChoirBox();
        x.set(0, 1);
        x.knock(0, 1, 100);
        x.tick(1);
        x.knock(0, 2, 100);
        due("7: leaving", x.noteOf(0, 3), 5);
        due("7: has a level", x.noteOf(0, 4), 400);
        due("7: is heard", x.noteOf(0, 5), 400);
        due("7: waits not", x.noteOf(0, 7), -4);
        x.tick(1);
        due("7: less", x.noteOf(0, 4), 266);
    }

    private static void heard() {
        ChoirBox x = new ChoirBox();
        x.set(2, 1000);
        x.knock(0, 1, 50);
        x.knock(0, 2, 50);
        x.knock(1, 3, 50);
        x.tick(2);
        due("7: the sum is the bound", x.count(6), 1000);
        due("7: all is heard", x.noteOf(0, 5), 400);
        x.set(2, 999);
        due("7: less is heard", x.noteOf(0, 5), 399);
        due("7: less is heard", x.noteOf(2, 5), 199);
        due("7: the level stays", x.noteOf(0, 4), 400);
        due("10: rounded for each voice", x.partOf(0, 3), 798);
        due("10: not all rounded", x.partOf(0, 2), 800);
        due("11: heard of all", x.count(7), 997);
        due("21: mix is by what is heard", x.mix(), 997);
    }

    private static void voiceAt() {
        ChoirBox x = new ChoirBox();
        due("8: -1", x.voiceAt(-1), -1);
        due("8: least int", x.voiceAt(Integer.MIN_VALUE), -1);
        due("8: none", x.voiceAt(0), -4);
        due("8: greatest int", x.voiceAt(Integer.MAX_VALUE), -4);
        for (int i = 0; i < 4; i++) {
            x.knock(1, i, 10);
        }
        x.knock(1, 1, 10);
        int[] order = {0, 2, 3, 1};
        for (int i = 0; i < 4; i++) {
            due("8: " + i, x.voiceAt(i), order[i]);
        }
        due("8: 4", x.voiceAt(4), -4);
        x.release(1, 2);
        x.tick(1);
        due("8: one is gone", x.voiceAt(1), 3);
    }

    private static void find() {
        ChoirBox x = new ChoirBox();
        due("9: part -1", x.find(-1, 0), -1);
        due("9: part 4", x.find(4, 0), -1);
        due("9: pitch -1", x.find(0, -1), -1);
        due("9: pitch 128", x.find(0, 128), -1);
        x.set(0, 1);
        x.knock(0, 60, 10);
        due("9: found", x.find(0, 60), 0);
        due("9: other part", x.find(1, 60), -4);
        due("9: other pitch", x.find(0, 61), -4);
        x.release(0, 60);
        due("9: a fading one is found", x.find(0, 60), 0);
        x.knock(0, 61, 10);
        due("9: a leaving one is not", x.find(0, 60), -4);
        x.set(1, 2);
        x.knock(0, 62, 10);
        due("9: nor one at the door", x.find(0, 62), -4);
    }

    private static void partOf() {
        ChoirBox x = new ChoirBox();
        due("10: part -1", x.partOf(-1, 0), -1);
        due("10: part 4", x.partOf(4, 0), -1);
        due("10: what -1", x.partOf(0, -1), -1);
        due("10: what 5", x.partOf(0, 5), -1);
        x.set(0, 2);
        x.knock(0, 60, 100);
        x.knock(1, 60, 100);
        x.tick(2);
        x.knock(0, 61, 50);
        x.tick(1);
        x.set(1, 2);
        x.knock(0, 63, 1);
        x.knock(0, 64, 1);
        x.knock(2, 64, 1);
        due("10: the alto was the quietest", x.noteOf(1, 3), 5);
        due("10: sopranos", x.partOf(0, 0), 2);
        due("10: altos", x.partOf(1, 0), 0);
        due("10: sopranos leaving", x.partOf(0, 1), 0);
        due("10: altos leaving", x.partOf(1, 1), 1);
        due("10: sopranos' levels", x.partOf(0, 2), 768 + 200);
        due("10: altos' levels, leaving", x.partOf(1, 2), 400 - 134);
        due("10: sopranos heard", x.partOf(0, 3), 968);
        due("10: altos heard, leaving", x.partOf(1, 3), 266);
        due("10: sopranos at the door", x.partOf(0, 4), 2);
        due("10: altos at the door", x.partOf(1, 4), 0);
        due("10: tenors at the door", x.partOf(2, 4), 1);
        x.set(2, 100);
        due("10: bound", x.partOf(0, 3), 768 * 100 / 1234 + 200 * 100 / 1234);
        due("10: bound, leaving", x.partOf(1, 3), 266 * 100 / 1234);
    }

    private static void count() {
        ChoirBox x = new ChoirBox();
        int[] none = {-1, 13, 19, 23, Integer.MIN_VALUE, Integer.MAX_VALUE};
        for (int what : none) {
            due("11: " + what, x.count(what), -1);
        }
        x.set(0, 2);
        x.knock(0, 60, 100);
        x.knock(1, 60, 100);
        x.tick(2);
        x.knock(0, 61, 50);
        x.knock(0, 60, 100);
        x.set(1, 2);
        x.knock(3, 0, 1);
        x.pedal(1);
        x.type('s');
        int[] want = {4, 2, 0, 1, 1, 2, 1200, 1200, 1, 1, 1, 4, 1};
        for (int what = 0; what < want.length; what++) {
            due("11: " + what, x.count(what), want[what]);
        }
        due("11: 20", x.count(20), 2);
        due("11: 21", x.count(21), 2);
        due("11: 22", x.count(22), 2500);
        x.set(0, 1);
        due("11: free places are 0 at least", x.count(2), 0);
        x.set(0, 8);
        due("11: free places", x.count(2), 6);
    }

    private static void next() {
        ChoirBox x = new ChoirBox();
        due("12: no voice", x.next(), -4);
        x.knock(0, 60, 100);
        due("12: though places are free", x.next(), 0);
        x.knock(1, 61, 100);
        due("12: of two as quiet the older", x.next(), 0);
        x.tick(1);
        due("12: the quietest", x.next(), 1);
        x.set(1, 1);
        due("12: the oldest", x.next(), 0);
        x.release(1, 61);
        due("12: who fades goes first", x.next(), 1);
        x.set(1, 0);
        x.knock(2, 62, 1);
        due("12: who fades goes first, though louder", x.next(), 1);
        x.set(1, 2);
        due("12: nobody", x.next(), -4);
        x.set(1, 0);
        x.set(0, 1);
        for (int i = 0; i < 4; i++) {
            x.knock(3, i, 5);
        }
        due("12: four are leaving", x.count(3), 4);
        due("12: however many are leaving", x.next() >= 0 ? 1 : 0, 1);
        due("12: nothing changed", x.count(9), 4);
    }

    private static void peak() {
        ChoirBox x = new ChoirBox();
        due("13: 0", x.peak(0), -1);
        due("13: 201", x.peak(201), -1);
        due("13: least int", x.peak(Integer.MIN_VALUE), -1);
        due("13: silent", x.peak(200), 0);
        x.knock(0, 60, 100);
        due("13: one", x.peak(1), 400);
        due("13: two", x.peak(2), 800);
        due("13: more", x.peak(200), 800);
        x.tick(2);
        due("13: now does not count", x.peak(1), 768);
        due("13: nothing changed", x.count(5) * 1000 + x.count(6), 2800);
        x.set(2, 100);
        due("13: the sum, not what is heard", x.peak(1), 768);
    }

    private static void peakWithDoor() {
        ChoirBox x = new ChoirBox();
        x.set(0, 1);
        x.set(1, 2);
        x.knock(0, 60, 10);
        x.tick(2);
        x.knock(0, 61, 100);
        x.release(0, 60);
        due("13: the waiting one stays outside", x.peak(6), 80 - 14);
        due("13: it comes in after 6 ticks", x.peak(8), 800);
        due("13: it waits still", x.noteOf(1, 3), 0);
    }

    private static void silence() {
        ChoirBox x = new ChoirBox();
        due("14: none", x.silence(), 0);
        x.knock(0, 60, 100);
        due("14: a silent voice needs a tick", x.silence(), 1);
        x.tick(2);
        due("14: soprano", x.silence(), 6);
        x.release(0, 60);
        due("14: it fades already", x.silence(), 6);
        x.tick(2);
        due("14: it fades on", x.silence(), 4);
        x.knock(3, 40, 100);
        x.tick(1);
        due("14: bass, 100 by 7", x.silence(), 15);
        x.pedal(1);
        x.release(3, 40);
        due("14: the pedal does not matter", x.silence(), 15);
        due("14: nor is it moved", x.count(8), 1);
        x.set(0, 1);
        x.set(1, 2);
        x.knock(1, 50, 100);
        due("14: nor the door", x.silence(), 15);
        due("14: who waits", x.count(4), 1);
        ChoirBox y = new ChoirBox();
        y.set(0, 1);
        y.knock(0, 60, 100);
        y.tick(2);
        y.knock(0, 61, 1);
        due("14: who leaves must be gone too", y.silence(), 3);
    }

    private static void freeIn() {
        ChoirBox x = new ChoirBox();
        due("15: now", x.freeIn(), 0);
        x.set(0, 1);
        x.knock(3, 60, 100);
        due("15: never", x.freeIn(), -4);
        x.tick(8);
        x.release(3, 60);
        due("15: when it has faded", x.freeIn(), 16);
        x.tick(3);
        due("15: when it has faded", x.freeIn(), 13);
        x.set(1, 2);
        x.knock(3, 61, 100);
        due("15: who waits takes the place", x.freeIn(), -4);
        x.set(0, 2);
        due("15: free now, though one waits", x.freeIn(), 0);
        ChoirBox y = new ChoirBox();
        y.knock(0, 60, 100);
        y.knock(3, 60, 100);
        y.tick(8);
        y.release(0, 60);
        y.release(3, 60);
        y.set(0, 1);
        due("15: both must be gone", y.freeIn(), 16);
    }

    private static void undo() {
        ChoirBox x = new ChoirBox();
        due("16: empty", x.undo(), -2);
        for (int i = 1; i <= 6; i++) {
            x.tick(i);
        }
        due("16: four states", x.count(11), 4);
        for (int i = 3; i >= 0; i--) {
            due("16: left", x.undo(), i);
        }
        due("16: the oldest of the four", x.count(5), 3);
        due("16: none is left", x.undo(), -2);
        due("16: it goes on from there", x.tick(1), 0);
        due("16: one again", x.count(11), 1);
    }

    private static void undoRestoresAll() {
        ChoirBox x = new ChoirBox();
        x.set(0, 1);
        x.knock(0, 60, 100);
        x.tick(1);
        x.type('s');
        x.knock(1, 61, 50);
        x.undo();
        due("16: the note is no more", x.count(0), 1);
        due("16: sent home", x.count(9), 0);
        due("16: none leaves", x.count(3), 0);
        due("16: it rises", x.noteOf(0, 3), 1);
        due("16: the text stays", x.count(12), 1);
        x.knock(0, 60, 10);
        x.undo();
        due("16: anew", x.count(10), 0);
        due("16: strength", x.noteOf(0, 2), 100);
        x.pedal(1);
        x.release(0, 60);
        x.undo();
        due("16: mark", x.noteOf(0, 6), 0);
        x.undo();
        due("16: pedal", x.count(8), 0);
        x.set(1, 2);
        x.knock(2, 62, 10);
        x.release(2, 62);
        x.undo();
        due("16: it waits again", x.noteOf(1, 7), 0);
        x.undo();
        due("16: nobody waits", x.count(4), 0);
        x.undo();
        due("16: setting", x.count(21), 0);
        x.release(0, 60);
        x.tick(2);
        x.undo();
        x.tick(1);
        due("16: the level at which it began to fade", x.noteOf(0, 4), 400 - 67);
        x.clearText();
        x.type('a');
        x.adopt();
        due("16: adopted", x.mix(), 0);
        x.undo();
        due("16: the formula before", x.mix(), 333);
        due("16: the text stays", x.count(12), 1);
    }

    private static void undoFreesNumbers() {
        ChoirBox x = new ChoirBox();
        x.pedal(1);
        x.knock(0, 60, 100);
        x.tick(2);
        x.release(0, 60);
        x.undo();
        x.undo();
        x.undo();
        due("16: the number again", x.knock(1, 61, 10), 0);
        due("16: a new level", x.noteOf(0, 4), 0);
        due("16: no mark of the note that was undone", x.noteOf(0, 6), 0);
        due("16: it can be let go", x.release(1, 61), 0);
        x = new ChoirBox();
        x.set(0, 1);
        x.set(1, 2);
        x.knock(2, 62, 50);
        x.set(0, 2);
        due("16: one comes in", x.knock(2, 63, 50), 1);
        x.undo();
        x.undo();
        due("16: the number again", x.knock(2, 64, 50), 1);
        due("16: the new one waits, though its number sang", x.noteOf(1, 3), 0);
    }

    private static void errorsChangeNothing() {
        ChoirBox x = new ChoirBox();
        x.knock(0, 60, 100);
        x.type('+');
        x.knock(0, 60, 0);
        x.release(1, 1);
        x.pedal(0);
        x.tick(0);
        x.set(0, 0);
        x.adopt();
        x.undo();
        due("16: errors are no changes", x.count(11), 0);
        due("16: but the knock was", x.count(0), 0);
    }

    private static void viewsChangeNothing() {
        ChoirBox x = new ChoirBox();
        x.set(0, 1);
        x.knock(0, 60, 100);
        x.tick(1);
        x.pedal(1);
        x.release(0, 60);
        x.set(1, 2);
        x.knock(3, 10, 10);
        x.next();
        x.peak(200);
        x.silence();
        x.freeIn();
        x.mix();
        x.alone(0);
        x.alone(1);
        due("12-15: the time", x.count(5), 1);
        due("12-15: the level", x.noteOf(0, 4), 400);
        due("12-15: the mark", x.noteOf(0, 6), 1);
        due("12-15: the door", x.noteOf(1, 7), 0);
        due("12-15: the history", x.count(11), 4);
        due("12-15: it goes on", x.tick(1), 800);
    }
}
