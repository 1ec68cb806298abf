/** The boundary cases of "Knocking" and of promise 2: who begins anew, who is sent home, who waits, and where it ends. */
public final class BoundaryKnocks extends Checks {
    private static final int SOPRANO = 0;
    private static final int ALTO = 1;
    private static final int TENOR = 2;
    private static final int BASS = 3;

    public static void main(String[] args) {
        ranges();
        numbers();
        anewNeedsTheSamePartAndPitch();
        anewWhileFading();
        notAnewWhileLeaving();
        notAnewAtTheDoor();
        notAnewWhenGone();
        anewSinksOrRises();
        anewFromNothing();
        anewIsNoLongerLetGo();
        anewIsTheYoungest();
        anewHasNoLimit();
        lastFreePlace();
        quietestByOne();
        quietestOfSeveral();
        quietestOlderAfterAnew();
        quietestOfTheFading();
        quietestIsNotOneThatLeaves();
        oldest();
        oldestOfTheFading();
        oldestAfterAnew();
        nobodyBySetting();
        fourthLeaves();
        fourLeaveAndAPlaceIsFree();
        sixWait();
        sixWaitAndAPlaceIsFree();
        sixWaitAndSomebodyCanGo();
        twoHundred();
        finish("BoundaryKnocks");
    }

    private static void refused(ChoirBox x, int part, int pitch, int strength) {
        due("knock(" + part + ", " + pitch + ", " + strength + ")", x.knock(part, pitch, strength), -1);
    }

    private static void ranges() {
        says("part: 0 to 3, pitch: 0 to 127, strength: 1 to 127");
        ChoirBox x = box(8, 2);
        int[] odd = {-1, 128, 256, 65536, Integer.MIN_VALUE, Integer.MAX_VALUE};
        for (int number : odd) {
            refused(x, number, 60, 60);
            refused(x, 0, number, 60);
            refused(x, 0, 60, number);
        }
        refused(x, 4, 60, 60);
        refused(x, 0, 60, 0);
        due("nothing came", x.count(0), 0);
        due("nothing is recorded", x.count(11), 2);
        due("least", x.knock(0, 0, 1), 0);
        due("most", x.knock(3, 127, 127), 1);
        due("part", x.noteOf(1, 0), 3);
        due("pitch", x.noteOf(1, 1), 127);
        due("strength", x.noteOf(1, 2), 127);
        due("part", x.noteOf(0, 0), 0);
        due("pitch", x.noteOf(0, 1), 0);
        due("strength", x.noteOf(0, 2), 1);
    }

    private static void numbers() {
        says("Notes are numbered from 0");
        ChoirBox x = box(1, 2);
        due("a voice", x.knock(SOPRANO, 0, 1), 0);
        due("who waits has a number too", x.knock(SOPRANO, 1, 1), 1);
        due("so has the next", x.knock(SOPRANO, 2, 1), 2);
        x.release(SOPRANO, 1);
        due("who went away keeps its number", x.knock(SOPRANO, 3, 1), 3);
        due("who begins anew keeps its number", x.knock(SOPRANO, 0, 2), 0);
        due("notes so far", x.count(0), 4);
    }

    private static void anewNeedsTheSamePartAndPitch() {
        says("a voice of its part and pitch has a place, no new note comes");
        ChoirBox x = box(8, 2);
        x.knock(ALTO, 60, 10);
        due("the next part", x.knock(TENOR, 60, 10), 1);
        due("the part before", x.knock(SOPRANO, 60, 10), 2);
        due("the next pitch", x.knock(ALTO, 61, 10), 3);
        due("the pitch before", x.knock(ALTO, 59, 10), 4);
        due("the same", x.knock(ALTO, 60, 20), 0);
        due("no new note", x.count(0), 5);
        due("once", x.count(10), 1);
        due("the new strength", x.noteOf(0, 2), 20);
    }

    private static void anewWhileFading() {
        says("a voice that is fading has a place");
        ChoirBox x = box(1, 0);
        x.knock(SOPRANO, 60, 100);
        x.tick(2);
        x.release(SOPRANO, 60);
        due("the last tick before it is gone", x.tick(5), 130);
        due("anew", x.knock(SOPRANO, 60, 100), 0);
        due("with the level that it has", x.noteOf(0, 4), 130);
        due("rising", x.noteOf(0, 3), 1);
        due("by 400", x.tick(1), 530);
    }

    private static void notAnewWhileLeaving() {
        says("a voice that is leaving has no place");
        ChoirBox x = box(1, 0);
        x.knock(SOPRANO, 60, 100);
        x.tick(2);
        x.knock(ALTO, 60, 100);
        due("a new note, that sends the other home", x.knock(SOPRANO, 60, 50), 2);
        due("the first one leaves on", x.noteOf(0, 3), 5);
        due("the second one too", x.noteOf(1, 3), 5);
        due("nobody began anew", x.count(10), 0);
    }

    private static void notAnewAtTheDoor() {
        says("a note that waits at the door is no voice");
        ChoirBox x = box(1, 2);
        x.knock(SOPRANO, 60, 10);
        due("waits", x.knock(SOPRANO, 61, 10), 1);
        due("a second one waits", x.knock(SOPRANO, 61, 20), 2);
        due("behind it", x.noteOf(2, 7), 1);
        due("the first one is as strong as before", x.noteOf(1, 2), 10);
    }

    private static void notAnewWhenGone() {
        says("a voice that is gone does not begin anew");
        ChoirBox x = new ChoirBox();
        x.knock(SOPRANO, 60, 100);
        x.release(SOPRANO, 60);
        x.tick(1);
        due("a new note", x.knock(SOPRANO, 60, 100), 1);
        due("the old one is gone", x.noteOf(0, 3), 6);
    }

    /** Sinks from 816 by 1 a tick, and tells in which phase it would begin anew with the peak 800. */
    private static void anewSinksOrRises() {
        says("it is sinking if this is at least the new peak, and otherwise rising");
        ChoirBox x = new ChoirBox();
        x.knock(SOPRANO, 60, 102);
        due("the peak", x.tick(2), 816);
        x.knock(SOPRANO, 60, 1);
        x.tick(15);
        for (int level = 801; level >= 799; level--) {
            due("level", x.noteOf(0, 4), level);
            x.knock(SOPRANO, 60, 100);
            due("phase at " + level, x.noteOf(0, 3), level >= 800 ? 2 : 1);
            due("the level that it has", x.noteOf(0, 4), level);
            x.undo();
            x.tick(1);
        }
    }

    private static void anewFromNothing() {
        says("the level that it has, which is 0");
        ChoirBox x = new ChoirBox();
        x.knock(BASS, 60, 100);
        x.knock(BASS, 60, 1);
        due("level", x.noteOf(0, 4), 0);
        due("rising", x.noteOf(0, 3), 1);
        due("by an eighth of 8", x.tick(1), 1);
        says("the level that it has, which is the rest");
        x.tick(100);
        due("the rest of 8", x.noteOf(0, 4), 7);
        x.knock(BASS, 60, 1);
        due("below the peak, so it rises", x.noteOf(0, 3), 1);
        due("to the peak", x.tick(1), 8);
    }

    private static void anewIsNoLongerLetGo() {
        says("It is no longer let go");
        ChoirBox x = new ChoirBox();
        x.knock(SOPRANO, 60, 100);
        x.pedal(1);
        x.release(SOPRANO, 60);
        due("let go", x.noteOf(0, 6), 1);
        x.knock(SOPRANO, 60, 100);
        due("no longer", x.noteOf(0, 6), 0);
        due("it can be let go again", x.release(SOPRANO, 60), 0);
        due("let go", x.noteOf(0, 6), 1);
        x.knock(SOPRANO, 60, 100);
        due("nobody fades by the pedal", x.pedal(0), 0);
        due("it rises on", x.noteOf(0, 3), 1);
    }

    private static void anewIsTheYoungest() {
        says("and is the youngest voice then");
        ChoirBox x = new ChoirBox();
        for (int i = 0; i < 3; i++) {
            x.knock(SOPRANO, i, 10);
        }
        x.knock(SOPRANO, 2, 10);
        due("the youngest stays it", x.voiceAt(2), 2);
        x.knock(SOPRANO, 0, 10);
        due("the oldest now", x.voiceAt(0), 1);
        due("then", x.voiceAt(1), 2);
        due("the youngest now", x.voiceAt(2), 0);
        due("no fourth", x.voiceAt(3), -4);
        x.knock(SOPRANO, 2, 10);
        due("the one in the middle is the youngest", x.voiceAt(2), 2);
        due("before it", x.voiceAt(1), 0);
    }

    private static void anewHasNoLimit() {
        says("no new note comes, so 6 at the door do not matter");
        ChoirBox x = box(1, 2);
        x.knock(SOPRANO, 60, 10);
        for (int i = 0; i < 6; i++) {
            x.knock(ALTO, i, 10);
        }
        due("anew", x.knock(SOPRANO, 60, 20), 0);
        due("six wait", x.count(4), 6);
        says("no new note comes, so nobody is sent home");
        ChoirBox y = box(2, 0);
        y.knock(SOPRANO, 60, 10);
        y.knock(ALTO, 60, 10);
        due("anew", y.knock(SOPRANO, 60, 20), 0);
        due("nobody leaves", y.count(3), 0);
        due("nobody was sent home", y.count(9), 0);
    }

    private static void lastFreePlace() {
        says("If a place is free, it is a voice with the level 0, rising. If none is free, somebody is sent home");
        ChoirBox x = new ChoirBox();
        for (int i = 0; i < 4; i++) {
            x.knock(SOPRANO, i, 10);
            due("rising", x.noteOf(i, 3), 1);
            due("level", x.noteOf(i, 4), 0);
            due("nobody is sent home", x.count(9), 0);
        }
        x.knock(SOPRANO, 4, 10);
        due("one is sent home for the fifth", x.count(9), 1);
        due("it leaves", x.noteOf(0, 3), 5);
        due("the new note has the place", x.voiceAt(3), 4);
        due("with the level 0", x.noteOf(4, 4), 0);
        due("rising", x.noteOf(4, 3), 1);
    }

    /** A soprano of level 4 and a bass of this level, in this order; the next one to be sent home is told. */
    private static void quietestIs(int bassLevel, int want) {
        ChoirBox x = box(2, 0);
        x.knock(SOPRANO, 60, 1);
        x.knock(BASS, 60, bassLevel);
        due("the sum", x.tick(1), 4 + bassLevel);
        due("next, at 4 and " + bassLevel, x.next(), want);
        x.knock(TENOR, 60, 1);
        due("who leaves, at 4 and " + bassLevel, x.noteOf(want, 3), 5);
        due("who stays, at 4 and " + bassLevel, x.noteOf(1 - want, 3), 1);
    }

    private static void quietestByOne() {
        says("the quietest one (with the lowest level). Of several that are as quiet the older one is sent home");
        quietestIs(3, 1);
        quietestIs(4, 0);
        quietestIs(5, 0);
    }

    private static void quietestOfSeveral() {
        says("Of several that are as quiet the older one is sent home");
        ChoirBox x = new ChoirBox();
        x.knock(BASS, 0, 9);
        x.knock(BASS, 1, 7);
        x.knock(BASS, 2, 7);
        x.knock(BASS, 3, 7);
        x.tick(1);
        due("the oldest of three", x.next(), 1);
        x.knock(SOPRANO, 0, 100);
        due("the new one, silent yet, is the quietest", x.next(), 4);
        x.tick(1);
        due("now one of the two", x.next(), 2);
    }

    private static void quietestOlderAfterAnew() {
        says("the older one: who began anew is the younger one");
        ChoirBox x = box(2, 0);
        x.knock(BASS, 0, 4);
        x.knock(BASS, 1, 4);
        x.tick(1);
        due("the first one", x.next(), 0);
        x.knock(BASS, 0, 4);
        due("as quiet, but younger", x.next(), 1);
        x.knock(TENOR, 0, 1);
        due("the second one leaves", x.noteOf(1, 3), 5);
    }

    private static void quietestOfTheFading() {
        says("of the voices that are fading, or, if none is, of all that have a place");
        ChoirBox x = new ChoirBox();
        x.knock(BASS, 0, 1);
        x.knock(SOPRANO, 1, 100);
        x.knock(SOPRANO, 2, 100);
        x.knock(SOPRANO, 3, 90);
        x.tick(1);
        due("none fades: the quietest of all", x.next(), 0);
        x.release(SOPRANO, 1);
        due("one fades", x.next(), 1);
        x.release(SOPRANO, 2);
        due("two fade, as loud: the older one", x.next(), 1);
        x.release(SOPRANO, 3);
        due("the quietest of three", x.next(), 3);
        x.pedal(1);
        x.release(BASS, 0);
        due("a marked one does not fade", x.next(), 3);
        x.knock(ALTO, 0, 1);
        due("it leaves", x.noteOf(3, 3), 5);
        x.knock(ALTO, 1, 1);
        due("then the older of the two", x.noteOf(1, 3), 5);
        x.knock(ALTO, 2, 1);
        due("then the last that fades", x.noteOf(2, 3), 5);
        due("none fades: the quietest of all, which is silent", x.next(), 4);
    }

    private static void quietestIsNotOneThatLeaves() {
        says("of all that have a place: who leaves has none");
        ChoirBox x = box(1, 0);
        x.knock(BASS, 0, 3);
        x.tick(1);
        x.knock(SOPRANO, 0, 100);
        due("the leaving one is at 2", x.tick(1), 402);
        due("the one with the place", x.next(), 1);
        x.knock(SOPRANO, 1, 100);
        due("both leave", x.count(3), 2);
        due("two were sent home", x.count(9), 2);
    }

    private static void oldest() {
        says("by 1 the oldest one of these");
        ChoirBox x = box(3, 1);
        x.knock(SOPRANO, 0, 100);
        x.knock(BASS, 1, 1);
        x.knock(BASS, 2, 1);
        x.tick(1);
        due("the loudest, but oldest", x.next(), 0);
        x.knock(ALTO, 0, 1);
        due("it leaves", x.noteOf(0, 3), 5);
        due("the next oldest", x.next(), 1);
    }

    private static void oldestOfTheFading() {
        says("by 1 the oldest one of these: of the fading, or, if none is, of all");
        ChoirBox x = box(3, 1);
        x.knock(SOPRANO, 0, 10);
        x.knock(SOPRANO, 1, 100);
        x.knock(SOPRANO, 2, 50);
        x.tick(1);
        x.release(SOPRANO, 2);
        due("one fades", x.next(), 2);
        x.release(SOPRANO, 1);
        due("two fade: the older one, though louder", x.next(), 1);
    }

    private static void oldestAfterAnew() {
        says("the oldest one: who begins anew is the youngest");
        ChoirBox x = box(2, 1);
        x.knock(SOPRANO, 0, 10);
        x.knock(SOPRANO, 1, 10);
        x.knock(SOPRANO, 0, 10);
        due("the other is the oldest", x.next(), 1);
        x.knock(SOPRANO, 2, 10);
        due("it leaves", x.noteOf(1, 3), 5);
        due("then the one that began anew", x.next(), 0);
    }

    private static void nobodyBySetting() {
        says("by 2 nobody");
        ChoirBox x = box(1, 2);
        x.knock(SOPRANO, 0, 10);
        x.release(SOPRANO, 0);
        due("though it fades", x.next(), -4);
        due("the new note waits", x.knock(SOPRANO, 1, 10), 1);
        due("at the door", x.noteOf(1, 3), 0);
        due("nobody was sent home", x.count(9), 0);
        due("nobody leaves", x.count(3), 0);
    }

    private static ChoirBox leaving(int many) {
        ChoirBox x = box(1, 0);
        for (int i = 0; i <= many; i++) {
            x.knock(SOPRANO, i, 100);
        }
        return x;
    }

    private static void fourthLeaves() {
        says("or 4 are leaving already, the new note waits at the door");
        ChoirBox x = leaving(3);
        due("three leave", x.count(3), 3);
        x.knock(SOPRANO, 10, 100);
        due("the fourth is sent home", x.count(3), 4);
        due("the new note sings", x.noteOf(4, 3), 1);
        x.knock(SOPRANO, 11, 100);
        due("the next one waits", x.noteOf(5, 3), 0);
        due("nobody else was sent home", x.count(9), 4);
        due("who leaves is gone after a tick, silent as it was", x.tick(1), 400);
        due("the door does not send home", x.noteOf(5, 3), 0);
        due("now somebody can be sent home again", x.knock(SOPRANO, 12, 100), 6);
        due("it sings, past the one at the door", x.noteOf(6, 3), 1);
        due("that waits on", x.noteOf(5, 7), 0);
    }

    private static void fourLeaveAndAPlaceIsFree() {
        says("If a place is free, it is a voice, however many leave");
        ChoirBox x = leaving(4);
        x.set(0, 2);
        x.knock(SOPRANO, 10, 100);
        due("it sings", x.noteOf(5, 3), 1);
        due("four leave", x.count(3), 4);
        due("nobody waits", x.count(4), 0);
    }

    private static ChoirBox waiting(int many) {
        ChoirBox x = box(1, 2);
        for (int i = 0; i <= many; i++) {
            x.knock(TENOR, i, 100);
        }
        return x;
    }

    private static void sixWait() {
        says("at most 6 do; LIMIT_REACHED if it would have to wait and 6 wait already");
        ChoirBox x = waiting(5);
        due("five wait", x.count(4), 5);
        due("the sixth", x.knock(ALTO, 1, 1), 6);
        due("six wait", x.count(4), 6);
        due("five are ahead of it", x.noteOf(6, 7), 5);
        due("no seventh", x.knock(ALTO, 2, 1), -3);
        due("nothing came", x.count(0), 7);
        due("out of range rather than the limit", x.knock(ALTO, 128, 1), -1);
        due("one goes away", x.release(TENOR, 3), 3);
        due("now one can wait", x.knock(ALTO, 2, 1), 7);
        due("six wait", x.count(4), 6);
        due("five are ahead of it", x.noteOf(7, 7), 5);
        due("no seventh again", x.knock(ALTO, 3, 1), -3);
    }

    private static void sixWaitAndAPlaceIsFree() {
        says("it would have to wait: not if a place is free");
        ChoirBox x = waiting(6);
        x.set(0, 2);
        due("it comes in", x.knock(ALTO, 1, 1), 7);
        due("it sings", x.noteOf(7, 3), 1);
        due("six wait", x.count(4), 6);
    }

    private static void sixWaitAndSomebodyCanGo() {
        says("it would have to wait: not if somebody is sent home");
        ChoirBox x = waiting(6);
        x.set(1, 1);
        for (int i = 1; i <= 4; i++) {
            due("it comes in", x.knock(ALTO, i, 1), 6 + i);
            due("it sings", x.noteOf(6 + i, 3), 1);
        }
        due("six wait, four leave", x.knock(ALTO, 5, 1), -3);
        due("six wait", x.count(4), 6);
        due("four leave", x.count(3), 4);
    }

    private static ChoirBox withNotes(int many) {
        ChoirBox x = box(1, 0);
        for (int i = 0; i < many; i++) {
            x.knock(i % 4, i / 2, 10);
            if (i % 4 == 3) {
                x.tick(3);
            }
        }
        x.tick(3);
        return x;
    }

    private static void twoHundred() {
        says("there are at most 200; LIMIT_REACHED if a new note would come and there are 200");
        ChoirBox x = withNotes(199);
        due("199 notes", x.count(0), 199);
        due("there is no note 199", x.noteOf(199, 0), -1);
        due("the last one", x.knock(BASS, 120, 10), 199);
        due("its pitch", x.noteOf(199, 1), 120);
        due("no more", x.knock(BASS, 121, 10), -3);
        due("no more, though a place is free", x.set(0, 8) + x.knock(BASS, 121, 10), 1 - 3);
        due("200 notes", x.count(0), 200);
        due("there is no note 200", x.noteOf(200, 0), -1);
        due("out of range rather than the limit", x.knock(BASS, 121, 128), -1);
        due("anew", x.knock(BASS, 120, 20), 199);
        x.undo();
        x.undo();
        x.undo();
        due("199 notes again", x.count(0), 199);
        due("the last one again", x.knock(ALTO, 120, 10), 199);
    }
}
