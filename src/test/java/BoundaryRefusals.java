/** The boundary cases of "Changes and errors" and of promise 16: what is recorded, what is not, and what a refusal leaves. */
public final class BoundaryRefusals extends Checks {
    private static final int SOPRANO = 0;
    private static final int ALTO = 1;
    private static final int TENOR = 2;
    private static final int BASS = 3;
    private static final int KNOCK = 0;
    private static final int RELEASE = 1;
    private static final int PEDAL = 2;
    private static final int TICK = 3;
    private static final int SET = 4;
    private static final int ADOPT = 5;

    public static void main(String[] args) {
        constants();
        undoOfNothing();
        undoLeaves();
        fifthStateDropsTheOldest();
        undoIsNoChange();
        undoThenChange();
        undoOfEachChange();
        undoOfKnocks();
        undoOfTicks();
        undoKeepsTheText();
        textIsNoChange();
        viewsAreNoChange();
        eachChangeIsOne();
        refusedNotes();
        refusedLimits();
        refusedDesk();
        refusedKeepHistory();
        orderOfErrors();
        lastCalls();
        finish("BoundaryRefusals");
    }

    private static void constants() {
        says("The constants");
        due("INVALID_ARGUMENT", ChoirBox.INVALID_ARGUMENT, -1);
        due("NOT_POSSIBLE", ChoirBox.NOT_POSSIBLE, -2);
        due("LIMIT_REACHED", ChoirBox.LIMIT_REACHED, -3);
        due("NOT_FOUND", ChoirBox.NOT_FOUND, -4);
    }

    private static void undoOfNothing() {
        says("NOT_POSSIBLE if it is empty");
        ChoirBox x = new ChoirBox();
        due("at first", x.undo(), -2);
        x.tick(1);
        due("one state, none is left", x.undo(), 0);
        due("empty again", x.undo(), -2);
        due("the time", x.count(5), 0);
    }

    private static void undoLeaves() {
        says("Returns the number of states that are left in the history");
        ChoirBox x = new ChoirBox();
        for (int i = 1; i <= 4; i++) {
            x.tick(i);
            due("states", x.count(11), i);
        }
        int[] times = {6, 3, 1, 0};
        for (int i = 0; i < 4; i++) {
            due("left", x.undo(), 3 - i);
            due("states", x.count(11), 3 - i);
            due("the latest state", x.count(5), times[i]);
        }
        due("none", x.undo(), -2);
    }

    private static void fifthStateDropsTheOldest() {
        says("if there are 5 states then, the oldest one is dropped");
        ChoirBox x = new ChoirBox();
        for (int i = 1; i <= 5; i++) {
            x.tick(1);
        }
        due("four", x.count(11), 4);
        for (int i = 3; i >= 0; i--) {
            due("left", x.undo(), i);
        }
        due("not back to the beginning", x.count(5), 1);
        due("none", x.undo(), -2);
        says("the oldest one is dropped, again and again");
        for (int i = 0; i < 20; i++) {
            x.tick(1);
        }
        due("four", x.count(11), 4);
        for (int i = 0; i < 4; i++) {
            x.undo();
        }
        due("four back", x.count(5), 17);
    }

    private static void undoIsNoChange() {
        says("The changes are the calls of knock, release, pedal, tick, set and adopt: undo is none");
        ChoirBox x = new ChoirBox();
        x.tick(1);
        x.tick(2);
        due("back once", x.undo(), 1);
        due("at 1", x.count(5), 1);
        due("back twice", x.undo(), 0);
        due("at 0", x.count(5), 0);
        due("no further, nor forth", x.undo(), -2);
    }

    private static void undoThenChange() {
        says("the latest state of the history, which is removed from it");
        ChoirBox x = new ChoirBox();
        for (int i = 0; i < 6; i++) {
            x.tick(10);
        }
        x.undo();
        x.undo();
        due("at 40, two are left", x.count(5) * 10 + x.count(11), 402);
        x.tick(1);
        x.tick(1);
        x.tick(1);
        due("four", x.count(11), 4);
        x.undo();
        x.undo();
        x.undo();
        due("at 40 again", x.count(5), 40);
        due("one was kept", x.undo(), 0);
        due("at 30", x.count(5), 30);
    }

    /** Two voices sing, one of them let go under the pedal, one leaves, one waits; the text is a formula. */
    private static ChoirBox busy() {
        ChoirBox x = box(2, 0);
        write(x, "s*2^(b+a)");
        x.knock(SOPRANO, 60, 77);
        x.knock(BASS, 40, 99);
        x.tick(3);
        x.knock(ALTO, 50, 55);
        x.set(1, 2);
        x.knock(TENOR, 48, 33);
        x.tick(1);
        x.pedal(1);
        x.release(SOPRANO, 60);
        return x;
    }

    private static int change(ChoirBox x, int kind) {
        switch (kind) {
            case KNOCK: return x.knock(BASS, 1, 127);
            case RELEASE: return x.release(ALTO, 50);
            case PEDAL: return x.pedal(0);
            case TICK: return x.tick(2);
            case SET: return x.set(2, 100);
            default: return x.adopt();
        }
    }

    private static void undoOfEachChange() {
        says("each change records everything before it");
        String[] names = {"knock", "release", "pedal", "tick", "set", "adopt"};
        for (int kind = KNOCK; kind <= ADOPT; kind++) {
            ChoirBox x = busy();
            x.undo();
            String before = seen(x);
            holds(names[kind] + " is possible", change(x, kind) >= 0);
            holds(names[kind] + " changes something", !before.equals(seen(x)));
            due("undo of " + names[kind], x.undo(), 3);
            holds("all is as before " + names[kind], before.equals(seen(x)));
            ChoirBox y = busy();
            y.undo();
            due("it goes on as if " + names[kind] + " had not been", x.tick(1), y.tick(1));
            holds("all goes on", seen(x).equals(seen(y)));
        }
    }

    /** So that the next change drops none, and its undo leaves as many as there were. */
    private static void leaveThreeStates(ChoirBox x) {
        x.tick(1);
        x.undo();
        due("states", x.count(11), 3);
    }

    private static void undoOfKnock(String name, int places, int rule, int pitch) {
        ChoirBox x = box(places, rule);
        x.knock(SOPRANO, 60, 100);
        x.tick(1);
        x.release(SOPRANO, 60);
        x.tick(1);
        leaveThreeStates(x);
        String before = seen(x);
        holds(name, x.knock(SOPRANO, pitch, 100) >= 0);
        due("undo: " + name, x.undo(), 3);
        holds("all is as before: " + name, before.equals(seen(x)));
        due("it fades on by the same: " + name, x.tick(1), 400 - 2 * 67);
    }

    private static void undoOfKnocks() {
        says("Restores the latest state: before a knock");
        undoOfKnock("anew", 1, 0, 60);
        undoOfKnock("into a free place", 2, 0, 61);
        undoOfKnock("sending one home", 1, 0, 61);
        undoOfKnock("to the door", 1, 2, 61);
    }

    private static void undoOfTicks() {
        says("Restores the latest state: before ticks by which voices went and came in");
        ChoirBox x = box(2, 2);
        x.knock(SOPRANO, 60, 100);
        x.knock(ALTO, 61, 100);
        x.knock(TENOR, 62, 100);
        x.knock(SOPRANO, 63, 50);
        x.tick(1);
        x.release(SOPRANO, 60);
        x.release(ALTO, 61);
        leaveThreeStates(x);
        String before = seen(x);
        x.tick(100);
        due("all have changed places", x.voiceAt(0) * 10 + x.voiceAt(1), 23);
        due("undo", x.undo(), 3);
        holds("all is as before", before.equals(seen(x)));
        due("it fades on", x.tick(1), 400 - 67 + 200 - 25);
    }

    private static void undoKeepsTheText() {
        says("each change records everything before it but the text");
        ChoirBox x = new ChoirBox();
        x.type('s');
        x.tick(1);
        x.type('+');
        x.undo();
        due("what was typed stays", x.count(12), 2);
        x.tick(1);
        x.clearText();
        x.undo();
        due("what was cleared too", x.count(12), 0);
        x.type('a');
        x.adopt();
        x.clearText();
        x.undo();
        due("nor does adopt bring it back", x.count(12), 0);
        due("nor is there a state", x.undo(), -2);
    }

    private static void textIsNoChange() {
        says("The changes are the calls of knock, release, pedal, tick, set and adopt: type and clearText are none");
        ChoirBox x = new ChoirBox();
        x.type('s');
        x.clearText();
        x.clearText();
        x.type('s');
        due("no state", x.count(11), 0);
        due("nothing to undo", x.undo(), -2);
        due("the text", x.count(12), 1);
    }

    private static void viewsAreNoChange() {
        says("what would be, which changes nothing");
        ChoirBox x = busy();
        String before = seen(x);
        holds("nothing is changed by looking", before.equals(seen(x)));
        for (int i = 0; i < 3; i++) {
            x.peak(200);
            x.silence();
            x.freeIn();
            x.next();
            x.alone(1);
            x.mix();
            x.fault(0);
        }
        holds("nor by looking ahead", before.equals(seen(x)));
        due("undo goes to the state before the last change", x.undo(), 3);
        due("the mark is gone", x.noteOf(0, 6), 0);
    }

    private static void eachChangeIsOne() {
        says("The changes are the calls that return no error");
        ChoirBox x = new ChoirBox();
        due("set to what it is", x.set(0, 4), 4);
        due("one", x.count(11), 1);
        due("a tick of silence", x.tick(1), 0);
        due("two", x.count(11), 2);
        due("the pedal without voices", x.pedal(1), 0);
        due("three", x.count(11), 3);
        due("note 0", x.knock(SOPRANO, 60, 1), 0);
        due("four", x.count(11), 4);
        x.undo();
        x.undo();
        x.undo();
        x.undo();
        x.type('s');
        due("adopt", x.adopt(), 1);
        due("adopt the same", x.adopt(), 1);
        due("two", x.count(11), 2);
        x.knock(SOPRANO, 60, 1);
        due("three", x.count(11), 3);
        x.release(SOPRANO, 60);
        due("four", x.count(11), 4);
    }

    private static void refusedNotes() {
        says("A call that returns an error changes nothing");
        ChoirBox x = busy();
        String before = seen(x);
        due("knock, part", x.knock(4, 60, 100), -1);
        due("knock, pitch", x.knock(SOPRANO, 128, 100), -1);
        due("knock, strength", x.knock(SOPRANO, 60, 0), -1);
        due("knock, strength", x.knock(SOPRANO, 60, 128), -1);
        due("release, part", x.release(-1, 60), -1);
        due("release, pitch", x.release(SOPRANO, -1), -1);
        due("release, let go already", x.release(SOPRANO, 60), -2);
        due("release, it leaves", x.release(BASS, 40), -2);
        due("pedal", x.pedal(2), -1);
        due("pedal, down already", x.pedal(1), -2);
        due("tick", x.tick(0), -1);
        due("tick", x.tick(101), -1);
        due("set, what", x.set(3, 1), -1);
        due("set, places", x.set(0, 0), -1);
        due("set, places", x.set(0, 9), -1);
        due("set, rule", x.set(1, 3), -1);
        due("set, bound", x.set(2, 99), -1);
        due("set, bound", x.set(2, 8001), -1);
        due("noteOf", x.noteOf(4, 0), -1);
        due("peak", x.peak(201), -1);
        holds("all is as before", before.equals(seen(x)));
        due("undo goes to the state before the last change", x.undo(), 3);
        due("the mark is gone", x.noteOf(0, 6), 0);
        due("the pedal is down", x.count(8), 1);
    }

    private static void refusedLimits() {
        says("A call that returns an error changes nothing: LIMIT_REACHED");
        ChoirBox x = box(1, 2);
        for (int i = 0; i <= 6; i++) {
            x.knock(SOPRANO, i, 10);
        }
        String before = seen(x);
        due("a seventh at the door", x.knock(ALTO, 1, 10), -3);
        holds("all is as before", before.equals(seen(x)));
        ChoirBox y = new ChoirBox();
        for (int i = 0; i < 60; i++) {
            y.type(i % 2 == 0 ? 's' : '+');
        }
        before = seen(y);
        due("a 61st character", y.type('s'), -3);
        holds("all is as before", before.equals(seen(y)));
        due("the text has the fault of 60", y.fault(0), 60);
    }

    private static void refusedDesk() {
        says("A call that returns an error changes nothing: the desk");
        ChoirBox x = busy();
        x.adopt();
        write(x, "s+");
        String before = seen(x);
        due("adopt of a fault", x.adopt(), -2);
        due("type", x.type(31), -1);
        due("type", x.type(127), -1);
        due("fault", x.fault(2), -1);
        due("alone", x.alone(2), -1);
        due("count", x.count(13), -1);
        holds("all is as before", before.equals(seen(x)));
        x.type('a');
        due("the text goes on where it was", x.adopt(), 2);
    }

    private static void refusedKeepHistory() {
        says("A call that returns an error changes nothing: a full history drops nothing");
        ChoirBox x = new ChoirBox();
        for (int i = 1; i <= 4; i++) {
            x.tick(1);
        }
        x.knock(0, 0, 0);
        x.release(0, 0);
        x.pedal(0);
        x.tick(101);
        x.set(0, 0);
        x.adopt();
        due("four", x.count(11), 4);
        for (int i = 3; i >= 0; i--) {
            due("left", x.undo(), i);
        }
        due("the beginning is there still", x.count(5), 0);
    }

    private static void orderOfErrors() {
        says("INVALID_ARGUMENT is returned rather than NOT_POSSIBLE");
        ChoirBox x = new ChoirBox();
        due("release without a voice", x.release(4, 60), -1);
        due("release without a voice", x.release(0, 128), -1);
        says("INVALID_ARGUMENT rather than LIMIT_REACHED");
        for (int i = 0; i < 500; i++) {
            x.tick(100);
        }
        due("tick at the end of time", x.tick(101), -1);
        due("tick at the end of time", x.tick(0), -1);
        due("tick at the end of time", x.tick(1), -3);
        says("INVALID_ARGUMENT rather than NOT_FOUND");
        ChoirBox y = new ChoirBox();
        due("noteOf without a note", y.noteOf(0, 4), -1);
        due("voiceAt without a voice", y.voiceAt(-1), -1);
        due("find without a voice", y.find(0, 128), -1);
        due("alone without a voice", y.alone(2), -1);
        y.type('s');
        due("fault without a fault", y.fault(2), -1);
        y.knock(0, 0, 1);
        due("noteOf of what there is not", y.noteOf(0, 8), -1);
    }

    private static void lastCalls() {
        says("An object is used for at most 512 calls: the last ones are answered as the first ones");
        ChoirBox x = new ChoirBox();
        for (int i = 0; i < 508; i++) {
            x.count(0);
        }
        due("call 509", x.knock(SOPRANO, 60, 100), 0);
        due("call 510", x.tick(2), 800);
        due("call 511", x.undo(), 1);
        due("call 512", x.noteOf(0, 4), 0);
    }
}
