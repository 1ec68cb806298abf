/** Promises 1 to 6, by answers worked out by hand from the document. */
public final class NotePromises extends Checks {
    public static void main(String[] args) {
        newObject();
        knockRanges();
        knockNew();
        knockAnew();
        knockSendsQuietest();
        knockSendsFadingFirst();
        knockSendsOldest();
        knockSendsNobody();
        knockWhenFourLeave();
        knockLimits();
        knockWithFewerPlaces();
        release();
        releaseAtTheDoor();
        pedal();
        tickShapes();
        tickSinkAboveNewPeak();
        tickFadesAndLeaves();
        tickOpensDoor();
        tickLimits();
        set();
        finish("NotePromises");
    }

    private static void newObject() {
        ChoirBox x = new ChoirBox();
        for (int what = 0; what <= 12; what++) {
            due("1: count(" + what + ")", x.count(what), what == 2 ? 4 : 0);
        }
        due("1: count(20)", x.count(20), 4);
        due("1: count(21)", x.count(21), 0);
        due("1: count(22)", x.count(22), 2500);
        due("1: undo", x.undo(), -2);
        due("1: mix", x.mix(), 0);
        due("1: pedal(0)", x.pedal(0), -2);
        due("1: silence", x.silence(), 0);
    }

    private static void knockRanges() {
        ChoirBox x = new ChoirBox();
        due("2: part -1", x.knock(-1, 60, 60), -1);
        due("2: part 4", x.knock(4, 60, 60), -1);
        due("2: pitch -1", x.knock(0, -1, 60), -1);
        due("2: pitch 128", x.knock(0, 128, 60), -1);
        due("2: strength 0", x.knock(0, 60, 0), -1);
        due("2: strength 128", x.knock(0, 60, 128), -1);
        due("2: extreme", x.knock(Integer.MIN_VALUE, Integer.MAX_VALUE, Integer.MIN_VALUE), -1);
        due("2: nothing changed", x.count(0) + x.count(11), 0);
        due("2: least", x.knock(0, 0, 1), 0);
        due("2: most", x.knock(3, 127, 127), 1);
        due("2: history", x.count(11), 2);
    }

    private static void knockNew() {
        ChoirBox x = new ChoirBox();
        due("2: first", x.knock(2, 50, 30), 0);
        due("2: phase", x.noteOf(0, 3), 1);
        due("2: level", x.noteOf(0, 4), 0);
        due("2: other part, same pitch", x.knock(1, 50, 30), 1);
        due("2: same part, other pitch", x.knock(2, 51, 30), 2);
        due("2: voices", x.count(1), 3);
        due("2: free", x.count(2), 1);
    }

    private static void knockAnew() {
        ChoirBox x = new ChoirBox();
        x.knock(0, 60, 100);
        x.knock(1, 61, 10);
        due("2: tick", x.tick(1), 400 + 20);
        due("2: anew", x.knock(0, 60, 50), 0);
        due("2: notes", x.count(0), 2);
        due("2: how often", x.count(10), 1);
        due("2: strength", x.noteOf(0, 2), 50);
        due("2: level stays", x.noteOf(0, 4), 400);
        due("2: level 400 is the new peak, so it sinks", x.noteOf(0, 3), 2);
        due("2: it is the youngest", x.voiceAt(1), 0);
        due("2: the other is the oldest", x.voiceAt(0), 1);
        due("2: anew, stronger", x.knock(0, 60, 51), 0);
        due("2: level 400 is below 408, so it rises", x.noteOf(0, 3), 1);
        x.pedal(1);
        x.release(0, 60);
        due("2: marked", x.noteOf(0, 6), 1);
        x.knock(0, 60, 51);
        due("2: no longer let go", x.noteOf(0, 6), 0);
        due("2: nobody fades by the pedal", x.pedal(0), 0);
        x.release(0, 60);
        due("2: fading", x.noteOf(0, 3), 4);
        x.knock(0, 60, 51);
        due("2: rising again", x.noteOf(0, 3), 1);
    }

    private static void knockSendsQuietest() {
        ChoirBox x = new ChoirBox();
        x.set(0, 3);
        x.knock(0, 60, 100);
        x.knock(3, 40, 50);
        x.knock(3, 41, 50);
        x.tick(1);
        due("2: quietest of two that are as quiet is the older", x.knock(1, 70, 5), 3);
        due("2: it leaves", x.noteOf(1, 3), 5);
        due("2: the new one rises", x.noteOf(3, 3), 1);
        due("2: leaving", x.count(3), 1);
        due("2: voices", x.count(1), 3);
        due("2: sent home", x.count(9), 1);
        due("2: order", x.voiceAt(0) * 100 + x.voiceAt(1) * 10 + x.voiceAt(2), 23);
        due("2: leaving voice is not begun anew", x.knock(3, 40, 50), 4);
        due("2: the silent one was sent home", x.noteOf(3, 3), 5);
    }

    private static void knockSendsFadingFirst() {
        ChoirBox x = new ChoirBox();
        x.set(0, 3);
        x.knock(3, 40, 10);
        x.knock(0, 60, 100);
        x.knock(0, 61, 90);
        x.tick(2);
        x.release(0, 60);
        x.release(0, 61);
        due("2: the quietest of the fading, not of all", x.knock(1, 1, 1), 3);
        due("2: it leaves", x.noteOf(2, 3), 5);
        due("2: the other fades on", x.noteOf(1, 3), 4);
        due("2: the quietest of all sings on", x.noteOf(0, 3), 1);
    }

    private static void knockSendsOldest() {
        ChoirBox x = new ChoirBox();
        x.set(0, 2);
        x.set(1, 1);
        x.knock(0, 60, 100);
        x.knock(0, 61, 10);
        x.tick(2);
        due("2: the oldest goes, loud as it is", x.knock(1, 1, 1), 2);
        due("2: it leaves", x.noteOf(0, 3), 5);
        x.release(1, 1);
        due("2: the oldest of the fading", x.knock(1, 2, 1), 3);
        due("2: it leaves too", x.noteOf(2, 3), 5);
        due("2: the older one that does not fade stays", x.noteOf(1, 3), 2);
    }

    private static void knockSendsNobody() {
        ChoirBox x = new ChoirBox();
        x.set(0, 1);
        x.set(1, 2);
        x.knock(0, 60, 100);
        for (int i = 0; i < 6; i++) {
            due("2: waits", x.knock(1, i, 10), i + 1);
            due("2: ahead of it", x.noteOf(i + 1, 7), i);
        }
        due("2: six wait", x.knock(1, 7, 10), -3);
        due("2: nothing came", x.count(0), 7);
        due("2: begins anew all the same", x.knock(0, 60, 99), 0);
        x.set(0, 2);
        due("2: a free place is taken at once", x.knock(1, 7, 10), 7);
        due("2: the others wait on", x.count(4), 6);
    }

    private static void knockWhenFourLeave() {
        ChoirBox x = new ChoirBox();
        x.set(0, 1);
        for (int i = 0; i < 5; i++) {
            due("2: sends home", x.knock(0, i, 10), i);
        }
        due("2: four leave", x.count(3), 4);
        due("2: waits", x.knock(0, 5, 10), 5);
        due("2: state", x.noteOf(5, 3), 0);
        due("2: sent home", x.count(9), 4);
        due("2: the same pitch comes a second time", x.knock(0, 5, 20), 6);
        due("2: silent ones are gone after a tick", x.tick(1), 40);
        due("2: leaving", x.count(3), 0);
        due("2: a level of 0 is gone", x.noteOf(0, 3), 6);
    }

    private static void knockLimits() {
        ChoirBox x = new ChoirBox();
        x.set(0, 1);
        for (int i = 0; i < 200; i++) {
            x.knock(i % 4, i / 2, 10);
            if (i % 4 == 3) {
                x.tick(3);
            }
        }
        due("2: 200 notes", x.count(0), 200);
        x.tick(3);
        int last = x.voiceAt(0);
        due("2: no 201st note", x.knock(0, 127, 10), -3);
        due("2: wrong argument rather than the limit", x.knock(0, 128, 10), -1);
        due("2: anew all the same", x.knock(x.noteOf(last, 0), x.noteOf(last, 1), 10), last);
    }

    private static void knockWithFewerPlaces() {
        ChoirBox x = new ChoirBox();
        for (int i = 0; i < 4; i++) {
            x.knock(0, i, 10 + i);
        }
        x.tick(2);
        x.set(0, 2);
        due("2: all keep theirs", x.count(1), 4);
        due("2: free", x.count(2), 0);
        due("2: one is sent home for the new one", x.knock(0, 9, 1), 4);
        due("2: four have a place still", x.count(1), 4);
        due("2: the quietest left", x.noteOf(0, 3), 5);
    }

    private static void release() {
        ChoirBox x = new ChoirBox();
        due("3: part -1", x.release(-1, 0), -1);
        due("3: part 4", x.release(4, 0), -1);
        due("3: pitch -1", x.release(0, -1), -1);
        due("3: pitch 128", x.release(0, 128), -1);
        due("3: nobody", x.release(0, 127), -2);
        x.knock(0, 60, 100);
        x.tick(2);
        due("3: other part", x.release(1, 60), -2);
        due("3: let go", x.release(0, 60), 0);
        due("3: it fades", x.noteOf(0, 3), 4);
        due("3: not twice", x.release(0, 60), -2);
        due("3: changes", x.count(11), 3);
        x.knock(1, 5, 10);
        x.pedal(1);
        due("3: marked", x.release(1, 5), 1);
        due("3: it rises on", x.noteOf(1, 3), 1);
        due("3: mark", x.noteOf(1, 6), 1);
        due("3: not twice with the pedal down", x.release(1, 5), -2);
    }

    private static void releaseAtTheDoor() {
        ChoirBox x = new ChoirBox();
        x.set(0, 1);
        x.set(1, 2);
        x.knock(1, 50, 10);
        x.knock(0, 60, 10);
        x.knock(0, 61, 10);
        x.knock(0, 60, 10);
        x.pedal(1);
        due("3: the first one at the door", x.release(0, 60), 1);
        due("3: it went away, pedal or not", x.noteOf(1, 3), 6);
        due("3: it has no mark", x.noteOf(1, 6), 0);
        due("3: the others move up", x.noteOf(2, 7), 0);
        due("3: the others move up", x.noteOf(3, 7), 1);
        due("3: the second one", x.release(0, 60), 3);
        due("3: no third one", x.release(0, 60), -2);
        x.knock(1, 51, 10);
        x.set(0, 2);
        x.knock(1, 51, 20);
        due("3: the voice goes before the door", x.release(1, 51), 5);
        due("3: then the one at the door", x.release(1, 51), 4);
        due("3: then none", x.release(1, 51), -2);
    }

    private static void pedal() {
        ChoirBox x = new ChoirBox();
        due("4: 2", x.pedal(2), -1);
        due("4: -1", x.pedal(-1), -1);
        due("4: up already", x.pedal(0), -2);
        for (int i = 0; i < 3; i++) {
            x.knock(0, i, 100);
        }
        x.tick(2);
        x.release(0, 2);
        due("4: down", x.pedal(1), 0);
        due("4: down", x.count(8), 1);
        due("4: down already", x.pedal(1), -2);
        x.release(0, 0);
        x.tick(3);
        due("4: a marked one sinks on", x.noteOf(0, 4), 704);
        due("4: one begins to fade", x.pedal(0), 1);
        due("4: it fades", x.noteOf(0, 3), 4);
        due("4: no mark now", x.noteOf(0, 6), 0);
        due("4: the other sinks on", x.noteOf(1, 3), 2);
        x.tick(1);
        due("4: by a sixth of 704, rounded up", x.noteOf(0, 4), 704 - 118);
        x.set(0, 1);
        x.set(1, 1);
        x.pedal(1);
        x.release(0, 1);
        x.knock(1, 1, 1);
        x.knock(1, 2, 1);
        x.knock(1, 3, 1);
        due("4: the marked one was sent home", x.noteOf(1, 3), 5);
        due("4: who leaves does not begin to fade", x.pedal(0), 0);
        due("4: it leaves on", x.noteOf(1, 3), 5);
    }

    /** Strength 99 has the peak 792, and for no part do all its divisions come out even. */
    private static void tickShapes() {
        int[] rises = {396, 198, 159, 99};
        int[] ticksToTop = {2, 4, 5, 8};
        int[] sinks = {32, 30, 14, 14};
        int[] rests = {475, 554, 633, 712};
        for (int part = 0; part < 4; part++) {
            ChoirBox x = new ChoirBox();
            x.knock(part, 60, 99);
            for (int i = 1; i < ticksToTop[part]; i++) {
                due("5: rises, part " + part, x.tick(1), rises[part] * i);
                due("5: is rising", x.noteOf(0, 3), 1);
            }
            due("5: at the peak, part " + part, x.tick(1), 792);
            due("5: is sinking", x.noteOf(0, 3), 2);
            int level = 792;
            while (level - sinks[part] > rests[part]) {
                level -= sinks[part];
                due("5: sinks, part " + part, x.tick(1), level);
                due("5: is sinking still", x.noteOf(0, 3), 2);
            }
            due("5: at the rest, part " + part, x.tick(1), rests[part]);
            due("5: is holding", x.noteOf(0, 3), 3);
            due("5: holds, part " + part, x.tick(100), rests[part]);
        }
        int[] loudest = {609, 711, 812, 914};
        for (int part = 0; part < 4; part++) {
            ChoirBox x = new ChoirBox();
            x.knock(part, 60, 127);
            due("5: the rest of 1016, rounded down, part " + part, x.tick(100), loudest[part]);
        }
    }

    private static void tickSinkAboveNewPeak() {
        ChoirBox x = new ChoirBox();
        x.knock(0, 60, 100);
        x.tick(2);
        x.knock(0, 60, 1);
        due("5: sinks from above by (8 - 4) / 10, rounded up", x.tick(1), 799);
        due("5: on", x.tick(100), 699);
        x.release(0, 60);
        due("5: fades by a sixth of 699, rounded up", x.tick(1), 699 - 117);
    }

    private static void tickFadesAndLeaves() {
        int[] fades = {6, 8, 10, 16};
        for (int part = 0; part < 4; part++) {
            ChoirBox x = new ChoirBox();
            x.knock(part, 60, 127);
            int level = x.tick(1);
            x.release(part, 60);
            int step = (level + fades[part] - 1) / fades[part];
            for (int left = level - step; left > 0; left -= step) {
                due("5: fades, part " + part, x.tick(1), left);
                due("5: is fading", x.noteOf(0, 3), 4);
            }
            due("5: to nothing, part " + part, x.tick(1), 0);
            due("5: is gone", x.noteOf(0, 3), 6);
            due("5: its place is free", x.count(2), 4);
        }
        ChoirBox y = new ChoirBox();
        y.set(0, 1);
        y.knock(0, 60, 100);
        y.tick(1);
        y.knock(1, 61, 1);
        y.release(1, 61);
        due("5: leaves by a third of 400, and the silent fading one is gone", y.tick(1), 400 - 134);
        due("5: gone", y.noteOf(1, 3), 6);
        due("5: leaves on", y.tick(1), 400 - 268);
        due("5: leaving", y.noteOf(0, 3), 5);
        due("5: left", y.tick(1), 0);
        due("5: gone", y.noteOf(0, 3), 6);
        due("5: none leaves", y.count(3), 0);
    }

    private static void tickOpensDoor() {
        ChoirBox x = new ChoirBox();
        x.set(0, 1);
        x.set(1, 2);
        x.knock(0, 60, 10);
        x.knock(0, 60 + 1, 10);
        x.knock(0, 60 + 1, 20);
        x.knock(0, 60, 30);
        due("5: the first at the door holds up all behind it", x.count(4), 2);
        due("5: anew, as it has a place", x.noteOf(0, 2), 30);
        x.knock(0, 60 + 2, 40);
        x.release(0, 60);
        due("5: 1 comes in and 2 begins it anew", x.tick(1), 0);
        due("5: 1 rises", x.noteOf(1, 3), 1);
        due("5: 1 is as strong as 2", x.noteOf(1, 2), 20);
        due("5: 2 went away", x.noteOf(2, 3), 6);
        due("5: 3 waits", x.noteOf(3, 3), 0);
        due("5: anew", x.count(10), 2);
        due("5: it rises then", x.tick(1), 80);
        x.set(0, 2);
        x.knock(0, 10, 1);
        x.set(0, 3);
        due("5: a free place with one at the door", x.count(2) * 10 + x.count(4), 11);
        x.tick(1);
        due("5: 3 came in and is the youngest", x.voiceAt(2), 3);
        due("5: with the level 0", x.noteOf(3, 4), 0);
    }

    private static void tickLimits() {
        ChoirBox x = new ChoirBox();
        due("5: 0", x.tick(0), -1);
        due("5: 101", x.tick(101), -1);
        due("5: -1", x.tick(-1), -1);
        due("5: greatest int", x.tick(Integer.MAX_VALUE), -1);
        for (int i = 0; i < 499; i++) {
            x.tick(100);
        }
        due("5: 99", x.tick(99), 0);
        due("5: above 50000", x.tick(2), -3);
        due("5: wrong rather than the limit", x.tick(101), -1);
        due("5: the time stays", x.count(5), 49999);
        due("5: to 50000", x.tick(1), 0);
        due("5: no further", x.tick(1), -3);
        due("5: the time", x.count(5), 50000);
    }

    private static void set() {
        int[] least = {1, 0, 100};
        int[] most = {8, 2, 8000};
        int[] first = {4, 0, 2500};
        ChoirBox x = new ChoirBox();
        due("6: what -1", x.set(-1, 1), -1);
        due("6: what 3", x.set(3, 1), -1);
        due("6: what -1 to 0", x.set(-1, 0), -1);
        due("6: what 3 to 0", x.set(3, 0), -1);
        for (int what = 0; what < 3; what++) {
            due("6: too little", x.set(what, least[what] - 1), -1);
            due("6: too much", x.set(what, most[what] + 1), -1);
            due("6: the value stays", x.count(20 + what), first[what]);
            due("6: least", x.set(what, least[what]), first[what]);
            due("6: most", x.set(what, most[what]), least[what]);
            due("6: the same", x.set(what, most[what]), most[what]);
            due("6: the value", x.count(20 + what), most[what]);
        }
        ChoirBox y = new ChoirBox();
        y.set(0, 4);
        due("6: the same value is a change too", y.count(11), 1);
    }
}
