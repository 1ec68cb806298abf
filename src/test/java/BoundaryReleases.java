/** The boundary cases of "Letting go" and of promises 3 and 4: whom it meets, whom it doesn't, and the pedal. */
public final class BoundaryReleases extends Checks {
    private static final int SOPRANO = 0;
    private static final int ALTO = 1;

    public static void main(String[] args) {
        ranges();
        nobodyThere();
        notTwice();
        fadingThenTheDoor();
        markedThenTheDoor();
        leavingThenTheDoor();
        silentVoice();
        afterAnew();
        pedalUpOrDown();
        doorGoesAway();
        doorOrder();
        doorFull();
        pedalRanges();
        pedalIsSoAlready();
        pedalCounts();
        pedalCountsAll();
        pedalAndLeaving();
        pedalDownStopsNoFading();
        finish("BoundaryReleases");
    }

    private static void ranges() {
        says("release; part: 0 to 3, pitch: 0 to 127");
        ChoirBox x = new ChoirBox();
        x.knock(0, 0, 10);
        x.knock(3, 127, 10);
        int[] odd = {-1, 128, 256, Integer.MIN_VALUE, Integer.MAX_VALUE};
        for (int number : odd) {
            due("part " + number, x.release(number, 0), -1);
            due("pitch " + number, x.release(0, number), -1);
        }
        due("part 4", x.release(4, 0), -1);
        due("nobody is let go", x.count(11), 2);
        due("least", x.release(0, 0), 0);
        due("most", x.release(3, 127), 1);
    }

    private static void nobodyThere() {
        says("NOT_POSSIBLE if there is none");
        ChoirBox x = new ChoirBox();
        due("empty", x.release(0, 0), -2);
        due("out of range rather than none", x.release(0, 128), -1);
        x.knock(ALTO, 60, 10);
        due("the part before", x.release(0, 60), -2);
        due("the next part", x.release(2, 60), -2);
        due("the pitch before", x.release(ALTO, 59), -2);
        due("the next pitch", x.release(ALTO, 61), -2);
        due("nothing is recorded", x.count(11), 1);
    }

    private static void notTwice() {
        says("is not fading and has not been let go");
        ChoirBox x = new ChoirBox();
        x.knock(SOPRANO, 60, 100);
        x.tick(1);
        due("once", x.release(SOPRANO, 60), 0);
        due("it is fading", x.release(SOPRANO, 60), -2);
        x.tick(5);
        due("it is fading still", x.release(SOPRANO, 60), -2);
        x.tick(1);
        due("it is gone", x.release(SOPRANO, 60), -2);
        x.pedal(1);
        x.knock(SOPRANO, 60, 100);
        due("once", x.release(SOPRANO, 60), 1);
        due("it has been let go", x.release(SOPRANO, 60), -2);
        x.pedal(0);
        due("it is fading", x.release(SOPRANO, 60), -2);
    }

    /** Note 0 has the first place, note 1 waits, note 2 of the same part and pitch has the second place. */
    private static ChoirBox voiceAndDoor() {
        ChoirBox x = box(1, 2);
        x.knock(ALTO, 1, 10);
        x.knock(SOPRANO, 60, 10);
        x.set(0, 2);
        x.knock(SOPRANO, 60, 100);
        return x;
    }

    private static void fadingThenTheDoor() {
        says("without such a voice the first note of them at the door; the voice is fading");
        ChoirBox x = voiceAndDoor();
        due("the voice first", x.release(SOPRANO, 60), 2);
        due("it fades", x.noteOf(2, 3), 4);
        due("then the note at the door", x.release(SOPRANO, 60), 1);
        due("it went away", x.noteOf(1, 3), 6);
        due("then none", x.release(SOPRANO, 60), -2);
    }

    private static void markedThenTheDoor() {
        says("without such a voice the first note of them at the door; the voice has been let go");
        ChoirBox x = voiceAndDoor();
        x.pedal(1);
        due("the voice first", x.release(SOPRANO, 60), 2);
        due("it is marked", x.noteOf(2, 6), 1);
        due("then the note at the door", x.release(SOPRANO, 60), 1);
        due("it went away", x.noteOf(1, 3), 6);
        due("then none", x.release(SOPRANO, 60), -2);
    }

    private static void leavingThenTheDoor() {
        says("without such a voice the first note of them at the door; the voice is leaving");
        ChoirBox x = box(1, 0);
        x.knock(SOPRANO, 60, 100);
        x.tick(1);
        x.knock(ALTO, 1, 10);
        due("it has no place", x.release(SOPRANO, 60), -2);
        x.set(1, 2);
        x.knock(SOPRANO, 60, 10);
        due("the note at the door", x.release(SOPRANO, 60), 2);
        due("who leaves does so on", x.noteOf(0, 3), 5);
        due("then none", x.release(SOPRANO, 60), -2);
    }

    private static void silentVoice() {
        says("its voice begins to fade, if the pedal is up; its level is 0");
        ChoirBox x = new ChoirBox();
        x.knock(SOPRANO, 60, 100);
        due("let go", x.release(SOPRANO, 60), 0);
        due("fading", x.noteOf(0, 3), 4);
        due("it has its place", x.find(SOPRANO, 60), 0);
        due("gone after a tick", x.tick(1), 0);
        due("gone after a tick", x.noteOf(0, 3), 6);
    }

    private static void afterAnew() {
        says("It is no longer let go, so it can be let go");
        ChoirBox x = new ChoirBox();
        x.knock(SOPRANO, 60, 100);
        x.tick(2);
        x.release(SOPRANO, 60);
        x.knock(SOPRANO, 60, 100);
        due("again", x.release(SOPRANO, 60), 0);
        due("fading", x.noteOf(0, 3), 4);
    }

    private static void pedalUpOrDown() {
        says("if the pedal is up; if it is down, the voice is only marked, and begins to fade when the pedal comes up");
        ChoirBox x = new ChoirBox();
        x.knock(SOPRANO, 60, 100);
        x.tick(2);
        x.pedal(1);
        x.release(SOPRANO, 60);
        due("it sinks on", x.tick(1), 768);
        due("it sinks on", x.noteOf(0, 3), 2);
        due("marked", x.noteOf(0, 6), 1);
        due("to its rest", x.tick(9), 480);
        due("it holds", x.noteOf(0, 3), 3);
        due("marked still", x.noteOf(0, 6), 1);
        due("the pedal comes up", x.pedal(0), 1);
        due("it fades", x.noteOf(0, 3), 4);
        due("no mark now", x.noteOf(0, 6), 0);
        due("from the level of this time", x.tick(1), 400);
    }

    private static void doorGoesAway() {
        says("A note that waits at the door goes away when it is let go, also with the pedal down");
        for (int down = 0; down <= 1; down++) {
            ChoirBox x = box(1, 2);
            if (down == 1) {
                x.pedal(1);
            }
            x.knock(ALTO, 1, 10);
            x.knock(SOPRANO, 60, 10);
            due("let go", x.release(SOPRANO, 60), 1);
            due("it went away", x.noteOf(1, 3), 6);
            due("it is not only marked", x.noteOf(1, 6), 0);
            due("nobody waits", x.count(4), 0);
            due("it is no voice", x.noteOf(1, 4), -4);
            due("it does not wait", x.noteOf(1, 7), -4);
            x.set(0, 2);
            x.tick(1);
            due("it never comes in", x.count(1), 1);
        }
    }

    private static void doorOrder() {
        says("the first note of them at the door");
        ChoirBox x = box(1, 2);
        x.knock(ALTO, 1, 10);
        x.knock(SOPRANO, 61, 10);
        x.knock(SOPRANO, 60, 10);
        x.knock(SOPRANO, 60, 20);
        due("the first of two", x.release(SOPRANO, 60), 2);
        due("who was ahead stays so", x.noteOf(1, 7), 0);
        due("who was behind moves up", x.noteOf(3, 7), 1);
        due("the second of two", x.release(SOPRANO, 60), 3);
        due("none", x.release(SOPRANO, 60), -2);
        due("one waits still", x.count(4), 1);
    }

    private static void doorFull() {
        says("A note that waits at the door goes away; the first and the last of six");
        ChoirBox x = box(1, 2);
        for (int i = 0; i <= 6; i++) {
            x.knock(SOPRANO, i, 10);
        }
        due("the last", x.release(SOPRANO, 6), 6);
        due("five are left", x.count(4), 5);
        due("the first", x.release(SOPRANO, 1), 1);
        due("four are left", x.count(4), 4);
        for (int i = 2; i <= 5; i++) {
            due("moved up", x.noteOf(i, 7), i - 2);
        }
    }

    private static void pedalRanges() {
        says("down: 1 or 0");
        ChoirBox x = new ChoirBox();
        int[] odd = {2, -1, 256, 257, Integer.MIN_VALUE, Integer.MAX_VALUE};
        for (int number : odd) {
            due("pedal(" + number + ")", x.pedal(number), -1);
        }
        due("it is up", x.count(8), 0);
        due("nothing is recorded", x.count(11), 0);
        due("least that moves it", x.pedal(1), 0);
        for (int number : odd) {
            due("pedal(" + number + ")", x.pedal(number), -1);
        }
        due("it is down", x.count(8), 1);
        due("up", x.pedal(0), 0);
        due("it is up", x.count(8), 0);
    }

    private static void pedalIsSoAlready() {
        says("NOT_POSSIBLE if it is so already");
        ChoirBox x = new ChoirBox();
        due("up at first", x.pedal(0), -2);
        x.pedal(1);
        due("down", x.pedal(1), -2);
        due("recorded once", x.count(11), 1);
        x.undo();
        due("up by undo", x.pedal(0), -2);
        due("so it can go down", x.pedal(1), 0);
    }

    private static void pedalCounts() {
        says("Returns how many voices begin to fade by it");
        ChoirBox x = new ChoirBox();
        for (int i = 0; i < 4; i++) {
            x.knock(SOPRANO, i, 100);
        }
        x.tick(1);
        x.release(SOPRANO, 0);
        due("down", x.pedal(1), 0);
        due("up, none is marked", x.pedal(0), 0);
        x.pedal(1);
        x.release(SOPRANO, 1);
        x.release(SOPRANO, 2);
        x.knock(SOPRANO, 2, 100);
        due("one is marked, one fades already, one began anew", x.pedal(0), 1);
        due("the marked one fades", x.noteOf(1, 3), 4);
        due("who began anew rises", x.noteOf(2, 3), 1);
        due("who was not let go rises", x.noteOf(3, 3), 1);
        x.pedal(1);
        due("not a second time", x.pedal(0), 0);
    }

    private static void pedalCountsAll() {
        says("Returns how many voices begin to fade by it; all eight");
        ChoirBox x = box(8, 0);
        x.pedal(1);
        for (int i = 0; i < 8; i++) {
            x.knock(SOPRANO, i, 100);
            x.release(SOPRANO, i);
        }
        due("eight", x.pedal(0), 8);
        due("they had no level", x.tick(1), 0);
        due("none is left", x.count(1), 0);
    }

    private static void pedalAndLeaving() {
        says("who is sent home is leaving, and does not begin to fade");
        ChoirBox x = box(1, 0);
        x.pedal(1);
        x.knock(SOPRANO, 60, 100);
        x.tick(1);
        x.release(SOPRANO, 60);
        x.knock(ALTO, 60, 100);
        due("nobody fades by the pedal", x.pedal(0), 0);
        due("it leaves", x.noteOf(0, 3), 5);
        due("by a third of 400", x.tick(1), 266 + 200);
    }

    private static void pedalDownStopsNoFading() {
        says("a voice that fades already does so with the pedal down");
        ChoirBox x = new ChoirBox();
        x.knock(SOPRANO, 60, 100);
        x.tick(2);
        x.release(SOPRANO, 60);
        x.tick(1);
        x.pedal(1);
        due("on", x.tick(1), 532);
        due("it fades", x.noteOf(0, 3), 4);
        due("it is not marked", x.noteOf(0, 6), 0);
        due("nobody begins to fade", x.pedal(0), 0);
        due("on, by the same", x.tick(1), 398);
    }
}
