/** The boundary cases of promises 7 to 15: what there is, and what would be. */
public final class BoundaryViews extends Checks {
    private static final int SOPRANO = 0;
    private static final int ALTO = 1;
    private static final int TENOR = 2;
    private static final int BASS = 3;
    private static final int[] EXTREMES = {-1, Integer.MIN_VALUE, Integer.MAX_VALUE};

    public static void main(String[] args) {
        noteRanges();
        noteNumbersAfterUndo();
        noteStates();
        noteThatIsNoVoice();
        noteLetGo();
        noteLetGoAndSentHome();
        noteAheadAtTheDoor();
        voiceRanges();
        voiceOrder();
        findRanges();
        findOnlyWithAPlace();
        partRanges();
        partCounts();
        countRanges();
        countFreePlaces();
        countSentHomeAndAnew();
        nextWithoutVoice();
        nextWhetherOrNot();
        peakRanges();
        peakAtTheEnds();
        peakLastTick();
        peakWithLeaving();
        peakWithDoor();
        peakBeyondTheTime();
        silenceOfNone();
        silenceOfSilent();
        silenceByParts();
        silenceIsTheLongest();
        silenceOfMarked();
        silenceOfHalfFaded();
        silenceOfTheDoor();
        freeNow();
        freeNever();
        freeByFading();
        freeByTwo();
        freeAndTheDoor();
        finish("BoundaryViews");
    }

    private static void noteRanges() {
        says("INVALID_ARGUMENT if an argument is out of range; note");
        ChoirBox x = box(8, 0);
        for (int what = 0; what <= 7; what++) {
            due("no note yet, " + what, x.noteOf(0, what), -1);
        }
        x.knock(TENOR, 33, 44);
        x.knock(TENOR, 34, 44);
        due("the first", x.noteOf(0, 1), 33);
        due("the last", x.noteOf(1, 1), 34);
        for (int what = 0; what <= 7; what++) {
            due("note 2, " + what, x.noteOf(2, what), -1);
            for (int note : EXTREMES) {
                due("note " + note + ", " + what, x.noteOf(note, what), -1);
            }
        }
        due("note 199", x.noteOf(199, 0), -1);
        due("note 200", x.noteOf(200, 0), -1);
        due("no note rather than not found", x.noteOf(2, 7), -1);
        says("INVALID_ARGUMENT if an argument is out of range; what");
        due("8", x.noteOf(0, 8), -1);
        for (int what : EXTREMES) {
            due("what " + what, x.noteOf(0, what), -1);
        }
    }

    private static void noteNumbersAfterUndo() {
        says("If there is no note with a certain number, this is INVALID_ARGUMENT; it was undone");
        ChoirBox x = new ChoirBox();
        x.knock(SOPRANO, 60, 10);
        x.knock(ALTO, 61, 20);
        x.undo();
        due("note 1", x.noteOf(1, 0), -1);
        due("note 0", x.noteOf(0, 0), SOPRANO);
        due("its number is free", x.knock(BASS, 62, 30), 1);
        due("another part", x.noteOf(1, 0), BASS);
        due("another pitch", x.noteOf(1, 1), 62);
        due("another strength", x.noteOf(1, 2), 30);
        x.undo();
        x.set(0, 1);
        x.set(1, 2);
        due("its number is free again", x.knock(BASS, 62, 30), 1);
        due("now it waits", x.noteOf(1, 3), 0);
        due("it is no voice", x.noteOf(1, 4), -4);
    }

    private static void noteStates() {
        says("0 if it waits, 1 rising, 2 sinking, 3 holding, 4 fading, 5 leaving, 6 if it is gone, or went away");
        ChoirBox x = box(1, 2);
        x.knock(SOPRANO, 60, 1);
        x.knock(ALTO, 60, 1);
        x.knock(ALTO, 61, 1);
        due("waits", x.noteOf(1, 3), 0);
        due("rising", x.noteOf(0, 3), 1);
        x.tick(1);
        due("rising still", x.noteOf(0, 3), 1);
        x.tick(1);
        due("sinking", x.noteOf(0, 3), 2);
        x.tick(3);
        due("sinking still", x.noteOf(0, 3), 2);
        x.tick(1);
        due("holding", x.noteOf(0, 3), 3);
        x.release(SOPRANO, 60);
        due("fading", x.noteOf(0, 3), 4);
        x.tick(3);
        due("fading still", x.noteOf(0, 3), 4);
        x.tick(1);
        due("gone", x.noteOf(0, 3), 6);
        due("who waited rises", x.noteOf(1, 3), 1);
        x.set(1, 1);
        x.tick(1);
        x.knock(BASS, 60, 1);
        due("leaving", x.noteOf(1, 3), 5);
        x.tick(1);
        due("leaving still", x.noteOf(1, 3), 5);
        x.tick(1);
        due("gone", x.noteOf(1, 3), 6);
        x.release(ALTO, 61);
        due("went away from the door", x.noteOf(2, 3), 6);
    }

    private static void noteThatIsNoVoice() {
        says("NOT_FOUND for 4 and 5 if it is no voice");
        ChoirBox x = box(1, 2);
        x.knock(SOPRANO, 60, 100);
        due("a silent voice is one", x.noteOf(0, 4), 0);
        due("and is heard", x.noteOf(0, 5), 0);
        x.knock(ALTO, 60, 100);
        due("who waits is none", x.noteOf(1, 4), -4);
        due("nor is it heard", x.noteOf(1, 5), -4);
        x.release(ALTO, 60);
        due("who went away is none", x.noteOf(1, 4), -4);
        due("nor is it heard", x.noteOf(1, 5), -4);
        x.tick(2);
        x.set(1, 0);
        x.knock(BASS, 60, 100);
        due("who leaves is one", x.noteOf(0, 4), 800);
        due("and is heard", x.noteOf(0, 5), 800);
        x.tick(2);
        due("the last level", x.noteOf(0, 4), 266);
        x.tick(1);
        due("who is gone is none", x.noteOf(0, 4), -4);
        due("nor is it heard", x.noteOf(0, 5), -4);
        x.release(BASS, 60);
        due("who fades is one", x.noteOf(2, 4), 300);
        x.tick(16);
        due("who is gone is none", x.noteOf(2, 4), -4);
        due("nor is it heard", x.noteOf(2, 5), -4);
    }

    private static void noteLetGo() {
        says("1 if it has been let go, but its voice does not fade yet, otherwise 0");
        ChoirBox x = box(1, 2);
        x.knock(SOPRANO, 60, 1);
        x.knock(ALTO, 60, 1);
        due("a voice", x.noteOf(0, 6), 0);
        due("who waits", x.noteOf(1, 6), 0);
        x.pedal(1);
        due("the pedal alone does not let go", x.noteOf(0, 6), 0);
        x.release(ALTO, 60);
        due("who went away", x.noteOf(1, 6), 0);
        x.release(SOPRANO, 60);
        due("rising", x.noteOf(0, 6), 1);
        x.tick(2);
        due("sinking", x.noteOf(0, 6), 1);
        x.tick(4);
        due("holding", x.noteOf(0, 6), 1);
        x.pedal(0);
        due("it fades now", x.noteOf(0, 6), 0);
        x.pedal(1);
        due("it fades on", x.noteOf(0, 6), 0);
        x.tick(4);
        due("gone", x.noteOf(0, 6), 0);
    }

    private static void noteLetGoAndSentHome() {
        says("otherwise 0: who was let go without the pedal, fades, and is sent home");
        ChoirBox x = box(1, 0);
        x.knock(SOPRANO, 60, 100);
        x.tick(1);
        x.release(SOPRANO, 60);
        x.knock(ALTO, 60, 1);
        due("leaving", x.noteOf(0, 3), 5);
        due("not let go without fading", x.noteOf(0, 6), 0);
    }

    private static void noteAheadAtTheDoor() {
        says("how many are ahead of it at the door; NOT_FOUND for 7 if it does not wait");
        ChoirBox x = box(1, 2);
        for (int i = 0; i <= 6; i++) {
            x.knock(SOPRANO, i, 1);
        }
        due("a voice does not wait", x.noteOf(0, 7), -4);
        for (int i = 1; i <= 6; i++) {
            due("note " + i, x.noteOf(i, 7), i - 1);
        }
        x.release(SOPRANO, 3);
        due("went away", x.noteOf(3, 7), -4);
        due("ahead of it", x.noteOf(2, 7), 1);
        due("behind it", x.noteOf(4, 7), 2);
        x.release(SOPRANO, 0);
        x.tick(1);
        due("gone", x.noteOf(0, 7), -4);
        due("came in", x.noteOf(1, 7), -4);
        due("the first now", x.noteOf(2, 7), 0);
        due("the last now", x.noteOf(6, 7), 3);
        x.set(1, 1);
        x.knock(ALTO, 1, 1);
        due("who leaves does not wait", x.noteOf(1, 7), -4);
    }

    private static void voiceRanges() {
        says("INVALID_ARGUMENT if index is negative; NOT_FOUND if there are not so many");
        ChoirBox x = box(8, 0);
        due("no voice", x.voiceAt(0), -4);
        due("negative rather than none", x.voiceAt(-1), -1);
        for (int i = 0; i < 8; i++) {
            x.knock(SOPRANO, i, 1);
            due("the last", x.voiceAt(i), i);
            due("not so many", x.voiceAt(i + 1), -4);
        }
        due("the first", x.voiceAt(0), 0);
        due("negative", x.voiceAt(-1), -1);
        due("negative", x.voiceAt(Integer.MIN_VALUE), -1);
        due("not so many", x.voiceAt(Integer.MAX_VALUE), -4);
        due("not so many", x.voiceAt(200), -4);
    }

    private static void voiceOrder() {
        says("they are in order by their ages: 0 for the oldest one; without those that leave, wait or are gone");
        ChoirBox x = box(3, 1);
        for (int i = 0; i < 4; i++) {
            x.knock(SOPRANO, i, 10);
        }
        due("note 0 leaves", x.voiceAt(0), 1);
        due("the youngest", x.voiceAt(2), 3);
        due("no fourth", x.voiceAt(3), -4);
        x.release(SOPRANO, 2);
        due("who fades is there", x.voiceAt(1), 2);
        x.tick(1);
        due("who is gone is not", x.voiceAt(1), 3);
        due("no third", x.voiceAt(2), -4);
    }

    private static void findRanges() {
        says("find; part: 0 to 3, pitch: 0 to 127");
        ChoirBox x = new ChoirBox();
        due("least, none", x.find(0, 0), -4);
        due("most, none", x.find(3, 127), -4);
        x.knock(0, 0, 1);
        x.knock(3, 127, 1);
        due("least", x.find(0, 0), 0);
        due("most", x.find(3, 127), 1);
        due("part 4", x.find(4, 0), -1);
        due("pitch 128", x.find(0, 128), -1);
        due("both", x.find(4, 128), -1);
        for (int number : EXTREMES) {
            due("part " + number, x.find(number, 0), -1);
            due("pitch " + number, x.find(0, number), -1);
        }
        due("out of range rather than none", x.find(1, 128), -1);
    }

    private static void findOnlyWithAPlace() {
        says("the voice of a part and pitch that has a place; NOT_FOUND if there is none");
        ChoirBox x = box(1, 2);
        x.knock(SOPRANO, 60, 100);
        x.knock(SOPRANO, 61, 100);
        due("who waits", x.find(SOPRANO, 61), -4);
        due("the next part", x.find(ALTO, 60), -4);
        x.tick(1);
        x.release(SOPRANO, 60);
        due("who fades", x.find(SOPRANO, 60), 0);
        x.tick(5);
        due("who fades still", x.find(SOPRANO, 60), 0);
        x.tick(1);
        due("who is gone", x.find(SOPRANO, 60), -4);
        due("who came in", x.find(SOPRANO, 61), 1);
        x.set(1, 0);
        x.knock(SOPRANO, 62, 100);
        due("who leaves", x.find(SOPRANO, 61), -4);
    }

    private static void partRanges() {
        says("partOf; part: 0 to 3, what: 0 to 4");
        ChoirBox x = new ChoirBox();
        x.knock(0, 60, 1);
        x.knock(3, 60, 1);
        for (int what = 0; what <= 4; what++) {
            due("part 4", x.partOf(4, what), -1);
            due("what 5", x.partOf(0, 5), -1);
            for (int number : EXTREMES) {
                due("part " + number, x.partOf(number, what), -1);
                due("what " + number, x.partOf(what % 4, number), -1);
            }
        }
        due("least", x.partOf(0, 0), 1);
        due("most", x.partOf(3, 0), 1);
        due("a part without voices", x.partOf(1, 0), 0);
    }

    private static void partCounts() {
        says("its voices that have a place; that are leaving; the levels of both; heard; at the door");
        ChoirBox x = box(1, 0);
        for (int i = 0; i < 5; i++) {
            x.knock(BASS, i, 100);
        }
        for (int i = 5; i < 11; i++) {
            x.knock(BASS, i, 100);
        }
        due("a place", x.partOf(BASS, 0), 1);
        due("leaving", x.partOf(BASS, 1), 4);
        due("levels", x.partOf(BASS, 2), 0);
        due("heard", x.partOf(BASS, 3), 0);
        due("at the door", x.partOf(BASS, 4), 6);
        due("the part before", x.partOf(TENOR, 4), 0);
        x.tick(1);
        due("gone", x.partOf(BASS, 1), 0);
        x.set(1, 1);
        x.knock(TENOR, 60, 100);
        due("the leaving one's level", x.partOf(BASS, 2), 100);
        due("no place", x.partOf(BASS, 0), 0);
        due("leaving", x.partOf(BASS, 1), 1);
        x.tick(1);
        due("heard", x.partOf(BASS, 3), 66);
        due("the other part", x.partOf(TENOR, 3), 160);
        x.set(2, 113);
        due("half of it", x.partOf(BASS, 3), 33);
        due("half of the other", x.partOf(TENOR, 3), 80);
        due("the level stays", x.partOf(BASS, 2), 66);
    }

    private static void countRanges() {
        says("count; INVALID_ARGUMENT if what is out of range");
        ChoirBox x = new ChoirBox();
        for (int what = 13; what <= 19; what++) {
            due("between, " + what, x.count(what), -1);
        }
        due("23", x.count(23), -1);
        for (int what : EXTREMES) {
            due("what " + what, x.count(what), -1);
        }
        due("the last before the gap", x.count(12), 0);
        due("the first behind it", x.count(20), 4);
        due("the last", x.count(22), 2500);
    }

    private static void countFreePlaces() {
        says("free places, 0 at least");
        ChoirBox x = new ChoirBox();
        for (int i = 0; i < 4; i++) {
            due("free", x.count(2), 4 - i);
            x.knock(SOPRANO, i, 1);
        }
        due("none", x.count(2), 0);
        for (int places = 3; places >= 1; places--) {
            x.set(0, places);
            due("none, though fewer than none", x.count(2), 0);
        }
        x.set(0, 5);
        due("one", x.count(2), 1);
    }

    private static void countSentHomeAndAnew() {
        says("9: how many were sent home so far; 10: how often a voice began anew so far");
        ChoirBox x = box(1, 0);
        x.knock(SOPRANO, 1, 1);
        due("none", x.count(9), 0);
        due("never", x.count(10), 0);
        x.knock(SOPRANO, 1, 1);
        x.knock(SOPRANO, 1, 1);
        due("twice", x.count(10), 2);
        x.knock(SOPRANO, 2, 1);
        x.knock(SOPRANO, 3, 1);
        due("two", x.count(9), 2);
        x.tick(3);
        due("two so far, though gone", x.count(9), 2);
        x.release(SOPRANO, 3);
        x.tick(5);
        due("who faded was not sent home", x.count(9), 2);
        x.knock(SOPRANO, 3, 1);
        due("a new note begins nothing anew", x.count(10), 2);
    }

    private static void nextWithoutVoice() {
        says("NOT_FOUND if nobody would be, or no voice has a place");
        ChoirBox x = box(1, 0);
        due("none by rule 0", x.next(), -4);
        x.set(1, 1);
        due("none by rule 1", x.next(), -4);
        x.set(1, 2);
        due("none by rule 2", x.next(), -4);
        x.knock(SOPRANO, 60, 100);
        due("nobody by rule 2", x.next(), -4);
        x.set(1, 0);
        due("the only one", x.next(), 0);
        x.tick(1);
        x.knock(ALTO, 60, 100);
        x.release(ALTO, 60);
        due("it fades", x.next(), 1);
        x.tick(1);
        due("only one that leaves is left", x.count(3), 1);
        due("it has no place", x.next(), -4);
        x.set(1, 1);
        due("nor by rule 1", x.next(), -4);
    }

    private static void nextWhetherOrNot() {
        says("(whether one is free, and however many are leaving)");
        ChoirBox x = new ChoirBox();
        x.knock(SOPRANO, 0, 1);
        due("three places are free", x.count(2), 3);
        due("the only one", x.next(), 0);
        x.set(0, 1);
        for (int i = 1; i <= 4; i++) {
            x.knock(SOPRANO, i, 1);
        }
        due("four leave", x.count(3), 4);
        due("the one with the place", x.next(), 4);
        x.knock(SOPRANO, 5, 1);
        due("it was not sent home", x.noteOf(4, 3), 1);
        due("it would be still", x.next(), 4);
    }

    private static void peakRanges() {
        says("peak; ticks: 1 to 200");
        ChoirBox x = new ChoirBox();
        x.knock(SOPRANO, 60, 100);
        due("0", x.peak(0), -1);
        due("201", x.peak(201), -1);
        for (int ticks : EXTREMES) {
            due("ticks " + ticks, x.peak(ticks), -1);
        }
        due("least", x.peak(1), 400);
        due("most", x.peak(200), 800);
        due("the time stays", x.count(5), 0);
        due("the level stays", x.count(6), 0);
    }

    private static void peakAtTheEnds() {
        says("the greatest sum at the ends of the next ticks: the sum now is none of them");
        ChoirBox x = new ChoirBox();
        x.knock(SOPRANO, 60, 100);
        x.tick(2);
        x.release(SOPRANO, 60);
        due("now 800", x.count(6), 800);
        due("a sixth less", x.peak(1), 666);
        due("nor later more", x.peak(200), 666);
        x.tick(5);
        due("now 130", x.count(6), 130);
        due("nothing", x.peak(1), 0);
        due("nothing", x.peak(200), 0);
        says("the greatest sum, also above the bound");
        x.set(2, 100);
        x.knock(BASS, 60, 100);
        due("the bass alone", x.peak(200), 800);
        due("the sum then", x.tick(8), 800);
        due("what is heard then", x.count(7), 100);
    }

    private static void peakLastTick() {
        says("the greatest sum at the ends of the next ticks: the last one of them too, and no later one");
        ChoirBox x = new ChoirBox();
        x.knock(BASS, 60, 100);
        for (int ticks = 1; ticks <= 8; ticks++) {
            due("ticks " + ticks, x.peak(ticks), 100 * ticks);
        }
        due("9 ticks", x.peak(9), 800);
        x.knock(SOPRANO, 60, 100);
        due("when the soprano has sunk: 608 and 800", x.peak(8), 1408);
        due("the soprano's peak and the bass's second tick", x.peak(2), 1000);
        due("in between: 640 and 700", x.peak(7), 1340);
    }

    private static void peakWithLeaving() {
        says("the greatest sum: who leaves is in it");
        ChoirBox x = box(1, 0);
        x.knock(SOPRANO, 60, 100);
        x.tick(2);
        x.knock(BASS, 60, 100);
        due("800 - 267 and 100", x.peak(1), 633);
        due("not later", x.peak(3), 633);
        due("but the bass rises on", x.peak(8), 800);
    }

    private static void peakWithDoor() {
        says("if nothing else happened: who waits comes in");
        ChoirBox x = box(1, 2);
        x.knock(SOPRANO, 60, 1);
        x.tick(1);
        x.knock(ALTO, 60, 100);
        x.release(SOPRANO, 60);
        due("3 are left", x.peak(1), 3);
        due("it comes in with 0 at the fourth", x.peak(4), 3);
        due("it rises", x.peak(5), 200);
        due("to its peak", x.peak(8), 800);
        due("it waits still", x.noteOf(1, 7), 0);
        x.set(1, 0);
        due("the door sends nobody home", x.peak(4), 3);
        says("if nothing else happened: who waits makes its voice begin anew");
        ChoirBox y = box(1, 2);
        y.knock(ALTO, 1, 1);
        y.knock(SOPRANO, 60, 100);
        y.knock(SOPRANO, 61, 127);
        y.set(0, 2);
        y.knock(SOPRANO, 60, 10);
        due("40 of the soprano, 2 of the alto", y.peak(1), 42);
        due("400 more, 4 of the alto", y.peak(2), 444);
        due("800 and the alto's 6", y.peak(3), 806);
        due("the other pitch waits on", y.peak(200), 806);
        due("no place is free", y.freeIn(), -4);
        due("they wait still", y.count(4), 2);
    }

    private static void peakBeyondTheTime() {
        says("if nothing else happened, near the time 50000");
        ChoirBox x = new ChoirBox();
        for (int i = 0; i < 499; i++) {
            x.tick(100);
        }
        x.tick(99);
        x.knock(SOPRANO, 60, 100);
        due("within the time", x.peak(1), 400);
        due("silence", x.silence(), 1);
        due("freeIn", x.freeIn(), 0);
        due("the time stays", x.count(5), 49999);
    }

    private static void silenceOfNone() {
        says("Returns the ticks, 0 if there is none now");
        ChoirBox x = box(1, 2);
        due("empty", x.silence(), 0);
        x.knock(SOPRANO, 60, 100);
        x.release(SOPRANO, 60);
        x.tick(1);
        due("gone", x.silence(), 0);
    }

    private static void silenceOfSilent() {
        says("in how many ticks no voice would be left: a silent one is a voice until the next tick");
        ChoirBox x = new ChoirBox();
        x.knock(BASS, 60, 127);
        due("rising at 0", x.silence(), 1);
        x.release(BASS, 60);
        due("fading at 0", x.silence(), 1);
        ChoirBox y = box(1, 0);
        y.knock(SOPRANO, 60, 100);
        y.knock(ALTO, 60, 100);
        y.release(ALTO, 60);
        due("leaving at 0", y.silence(), 1);
    }

    private static void silenceByParts() {
        int[] fades = {6, 8, 10, 16};
        for (int part = 0; part <= 3; part++) {
            says("all voices were let go; part " + part);
            ChoirBox x = new ChoirBox();
            x.knock(part, 60, 127);
            x.tick(100);
            due("holding", x.silence(), fades[part]);
            x.release(part, 60);
            for (int left = fades[part]; left > 0; left--) {
                due("fading", x.silence(), left);
                x.tick(1);
            }
            due("gone", x.silence(), 0);
        }
    }

    private static void silenceIsTheLongest() {
        says("no voice would be left: the last one counts, also if it leaves");
        ChoirBox x = box(1, 0);
        x.knock(SOPRANO, 60, 100);
        x.tick(1);
        x.knock(ALTO, 60, 100);
        due("the leaving one needs 3, the silent one 1", x.silence(), 3);
        x.tick(1);
        due("the leaving one needs 2, the alto 8", x.silence(), 8);
        x.knock(SOPRANO, 61, 1);
        due("two leave, of 200 in 3 and of 266 in 2", x.silence(), 3);
        x.tick(1);
        due("one needs 2, one 1, and a soprano of 4 has 4", x.silence(), 4);
    }

    private static void silenceOfMarked() {
        says("if the pedal came up now");
        ChoirBox x = new ChoirBox();
        x.pedal(1);
        x.knock(SOPRANO, 60, 100);
        x.tick(2);
        x.release(SOPRANO, 60);
        due("marked", x.silence(), 6);
        due("it is marked still", x.noteOf(0, 6), 1);
        due("the pedal is down still", x.count(8), 1);
        x.tick(1);
        due("it sinks on", x.noteOf(0, 4), 768);
    }

    private static void silenceOfHalfFaded() {
        says("all voices were let go: who fades already does so on, by b of its own");
        ChoirBox x = new ChoirBox();
        x.knock(SOPRANO, 60, 1);
        x.tick(2);
        x.release(SOPRANO, 60);
        due("8 by 2", x.silence(), 4);
        x.tick(2);
        due("4 by 2, not by 1", x.silence(), 2);
    }

    private static void silenceOfTheDoor() {
        says("all notes at the door went away");
        ChoirBox x = box(1, 2);
        x.knock(SOPRANO, 60, 100);
        x.tick(2);
        x.knock(BASS, 60, 100);
        due("they do not come in", x.silence(), 6);
        due("they wait still", x.count(4), 1);
        x.release(SOPRANO, 60);
        due("nor if who sings fades", x.silence(), 6);
        x.set(0, 8);
        due("nor if a place is free", x.silence(), 6);
    }

    private static void freeNow() {
        says("0 if one is free now");
        ChoirBox x = new ChoirBox();
        due("four", x.freeIn(), 0);
        for (int i = 0; i < 3; i++) {
            x.knock(SOPRANO, i, 100);
        }
        due("one", x.freeIn(), 0);
        x.knock(SOPRANO, 3, 100);
        due("none", x.freeIn(), -4);
        x.set(0, 5);
        due("one more", x.freeIn(), 0);
    }

    private static void freeNever() {
        says("NOT_FOUND if it does not come by 200 ticks");
        ChoirBox x = box(1, 0);
        x.knock(SOPRANO, 60, 100);
        due("it sings on", x.freeIn(), -4);
        x.pedal(1);
        x.release(SOPRANO, 60);
        due("the pedal does not come up", x.freeIn(), -4);
        x.tick(1);
        x.knock(ALTO, 60, 100);
        due("who leaves frees no place", x.freeIn(), -4);
        due("nothing changed", x.count(5), 1);
    }

    private static void freeByFading() {
        int[] fades = {6, 8, 10, 16};
        for (int part = 0; part <= 3; part++) {
            says("in how many ticks a place would be free; part " + part);
            ChoirBox x = box(1, 0);
            x.knock(part, 60, 127);
            x.tick(100);
            x.release(part, 60);
            for (int left = fades[part]; left > 0; left--) {
                due("fading", x.freeIn(), left);
                x.tick(1);
            }
            due("now", x.freeIn(), 0);
        }
        says("in how many ticks a place would be free; a silent one");
        ChoirBox y = box(1, 0);
        y.knock(BASS, 60, 127);
        y.release(BASS, 60);
        due("the next tick", y.freeIn(), 1);
    }

    private static void freeByTwo() {
        says("in how many ticks a place would be free: the first of several; all that are too many must be gone");
        ChoirBox x = box(2, 0);
        x.knock(SOPRANO, 60, 127);
        x.knock(BASS, 60, 127);
        x.tick(100);
        x.release(SOPRANO, 60);
        x.release(BASS, 60);
        due("the soprano", x.freeIn(), 6);
        x.set(0, 1);
        due("both", x.freeIn(), 16);
        x.set(0, 3);
        due("now", x.freeIn(), 0);
    }

    private static void freeAndTheDoor() {
        says("if nothing else happened: who waits takes the first place");
        ChoirBox x = box(2, 2);
        x.knock(SOPRANO, 60, 127);
        x.knock(BASS, 60, 127);
        x.tick(100);
        x.knock(ALTO, 60, 127);
        x.release(SOPRANO, 60);
        due("none is left", x.freeIn(), -4);
        x.release(BASS, 60);
        due("the second place is free", x.freeIn(), 16);
        x.knock(TENOR, 60, 127);
        due("none is left", x.freeIn(), -4);
        due("two wait", x.count(4), 2);
    }
}
