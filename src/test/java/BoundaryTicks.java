/** The boundary cases of "A tick", "The sum" and "Settings", and of promises 1, 5 and 6. */
public final class BoundaryTicks extends Checks {
    private static final int SOPRANO = 0;
    private static final int ALTO = 1;
    private static final int TENOR = 2;
    private static final int BASS = 3;

    public static void main(String[] args) {
        newObject();
        newObjectAnswers();
        ranges();
        manyTicksAreSoManyOnes();
        timeIsAtMost50000();
        timeIsNotPassedByMany();
        levelsBeforeTheDoor();
        placeIsTakenInTheSameTick();
        leavingFreesNoPlace();
        doorHoldsUpAllBehind();
        doorAnewThenPlace();
        doorAnewAfterTheLevel();
        doorAnewWhileFading();
        doorAnewIsNoLongerLetGo();
        doorSamePitchTwice();
        doorAllAtOnce();
        doorSendsNobodyHome();
        sumOfNothing();
        sumWithLeaving();
        sumAtTheBound();
        leastBound();
        mostBound();
        heardIsRoundedForEachVoice();
        settingRanges();
        finish("BoundaryTicks");
    }

    private static void newObject() {
        says("Creates a silent box, at the time 0, with the pedal up");
        ChoirBox x = new ChoirBox();
        due("time", x.count(5), 0);
        due("pedal", x.count(8), 0);
        due("sum", x.count(6), 0);
        due("heard", x.count(7), 0);
        due("notes", x.count(0), 0);
        due("voices", x.count(1), 0);
        due("leaving", x.count(3), 0);
        due("at the door", x.count(4), 0);
        due("sent home", x.count(9), 0);
        due("begun anew", x.count(10), 0);
        due("history", x.count(11), 0);
        due("text, initially empty", x.count(12), 0);
        due("places, first value", x.count(20), 4);
        due("rule, first value", x.count(21), 0);
        due("bound, first value", x.count(22), 2500);
        due("a tick", x.tick(1), 0);
    }

    private static void newObjectAnswers() {
        says("a new object has nothing to tell");
        ChoirBox x = new ChoirBox();
        due("free", x.count(2), 4);
        due("note 0", x.noteOf(0, 3), -1);
        due("voice 0", x.voiceAt(0), -4);
        due("next", x.next(), -4);
        due("peak", x.peak(200), 0);
        due("silence", x.silence(), 0);
        due("freeIn", x.freeIn(), 0);
        due("undo", x.undo(), -2);
        due("clearText", x.clearText(), 0);
        due("fault", x.fault(0), 0);
        due("its reason", x.fault(1), 3);
        due("adopt", x.adopt(), -2);
        due("mix", x.mix(), 0);
        due("alone", x.alone(0), 0);
        due("alone", x.alone(1), -4);
        for (int part = 0; part <= 3; part++) {
            for (int what = 0; what <= 4; what++) {
                due("part " + part, x.partOf(part, what), 0);
            }
        }
    }

    private static void ranges() {
        says("ticks: 1 to 100");
        ChoirBox x = new ChoirBox();
        int[] odd = {0, -1, 101, 65537, Integer.MIN_VALUE, Integer.MAX_VALUE};
        for (int number : odd) {
            due("tick(" + number + ")", x.tick(number), -1);
        }
        due("the time stays", x.count(5), 0);
        due("nothing is recorded", x.count(11), 0);
        x.tick(1);
        due("least", x.count(5), 1);
        x.tick(100);
        due("most", x.count(5), 101);
        due("no wrap-around of the time", x.tick(Integer.MAX_VALUE), -1);
        due("no wrap-around of the time", x.tick(Integer.MAX_VALUE - 100), -1);
        due("the time stays", x.count(5), 101);
    }

    private static ChoirBox busy() {
        ChoirBox x = box(2, 2);
        x.knock(SOPRANO, 60, 99);
        x.knock(TENOR, 61, 73);
        x.knock(BASS, 62, 31);
        x.knock(ALTO, 63, 127);
        x.release(TENOR, 61);
        x.tick(2);
        x.release(SOPRANO, 60);
        return x;
    }

    private static void manyTicksAreSoManyOnes() {
        says("Lets ticks go by; returns the sum then");
        ChoirBox many = busy();
        ChoirBox ones = busy();
        int last = 0;
        for (int i = 0; i < 17; i++) {
            last = ones.tick(1);
        }
        due("17 ticks", many.tick(17), last);
        due("the time", many.count(5), ones.count(5));
        for (int note = 0; note < 4; note++) {
            for (int what = 2; what <= 7; what++) {
                due("note " + note + ", " + what, many.noteOf(note, what), ones.noteOf(note, what));
            }
        }
        due("one state for one call", many.count(11), 4);
    }

    private static ChoirBox atTheTime(int time) {
        ChoirBox x = new ChoirBox();
        for (int passed = 0; passed < time / 100; passed++) {
            x.tick(100);
        }
        if (time % 100 > 0) {
            x.tick(time % 100);
        }
        return x;
    }

    private static void timeIsAtMost50000() {
        says("LIMIT_REACHED if the time would be above 50000");
        ChoirBox x = atTheTime(49999);
        due("to 50001", x.tick(2), -3);
        due("the time stays", x.count(5), 49999);
        due("to 50000", x.tick(1), 0);
        due("the time", x.count(5), 50000);
        due("to 50001", x.tick(1), -3);
        due("out of range rather than the limit", x.tick(0), -1);
        due("out of range rather than the limit", x.tick(101), -1);
        due("a note can knock yet", x.knock(SOPRANO, 60, 1), 0);
        x.undo();
        due("back by undo", x.undo(), 2);
        due("the time", x.count(5), 49999);
    }

    private static void timeIsNotPassedByMany() {
        says("LIMIT_REACHED if the time would be above 50000, by the last of many ticks");
        ChoirBox x = atTheTime(49901);
        due("to 50001", x.tick(100), -3);
        due("not a part of them", x.count(5), 49901);
        due("to 50000", x.tick(99), 0);
        due("the time", x.count(5), 50000);
        ChoirBox y = atTheTime(49900);
        due("to 50000", y.tick(100), 0);
        due("the time", y.count(5), 50000);
        due("no further", y.tick(100), -3);
    }

    private static void levelsBeforeTheDoor() {
        says("Then the levels of all voices change. Then the notes at the door come in, with the level 0");
        ChoirBox x = box(1, 2);
        x.knock(SOPRANO, 60, 100);
        x.knock(ALTO, 61, 100);
        x.set(0, 2);
        due("who comes in has no level after this tick", x.tick(1), 400);
        due("it is rising", x.noteOf(1, 3), 1);
        due("at 0", x.noteOf(1, 4), 0);
        due("it rises in the next tick", x.tick(1), 800 + 200);
    }

    private static void placeIsTakenInTheSameTick() {
        says("if it is 0 then, the voice is gone; otherwise, if a place is free, the note is a voice");
        ChoirBox x = box(1, 2);
        x.knock(BASS, 60, 1);
        x.knock(ALTO, 61, 1);
        x.tick(1);
        x.release(BASS, 60);
        due("it waits", x.noteOf(1, 3), 0);
        due("the level comes to 0", x.tick(1), 0);
        due("the one is gone", x.noteOf(0, 3), 6);
        due("the other is in", x.noteOf(1, 3), 1);
        due("no place is free", x.count(2), 0);
    }

    private static void leavingFreesNoPlace() {
        says("Voices that are leaving have no place, so none becomes free when they are gone");
        ChoirBox x = box(1, 0);
        x.knock(SOPRANO, 60, 100);
        x.tick(1);
        x.knock(ALTO, 61, 100);
        x.set(1, 2);
        x.knock(TENOR, 62, 100);
        x.tick(3);
        due("it is gone", x.noteOf(0, 3), 6);
        due("who waits does so on", x.noteOf(2, 3), 0);
    }

    private static void doorHoldsUpAllBehind() {
        says("otherwise it and all behind it wait on, also who would begin anew");
        ChoirBox x = box(1, 2);
        x.knock(ALTO, 1, 10);
        x.knock(TENOR, 2, 10);
        x.knock(SOPRANO, 60, 10);
        x.set(0, 2);
        x.knock(SOPRANO, 60, 100);
        x.set(0, 1);
        x.tick(1);
        due("the first waits on", x.noteOf(1, 7), 0);
        due("the second too, though its voice is there", x.noteOf(2, 7), 1);
        due("nobody began anew", x.count(10), 0);
        due("the voice is as strong as before", x.noteOf(3, 2), 100);
    }

    private static void doorAnewThenPlace() {
        says("from the first one on: if a voice of its part and pitch has a place, this begins anew, and the next one comes");
        ChoirBox x = box(1, 2);
        x.knock(ALTO, 1, 10);
        x.knock(SOPRANO, 60, 90);
        x.knock(TENOR, 2, 10);
        x.knock(BASS, 3, 10);
        x.set(0, 2);
        x.knock(SOPRANO, 60, 100);
        x.set(0, 3);
        x.tick(1);
        due("the first went away", x.noteOf(1, 3), 6);
        due("its voice has its strength", x.noteOf(4, 2), 90);
        due("it keeps the strength it had", x.noteOf(1, 2), 90);
        due("once", x.count(10), 1);
        due("the second took the place that is free", x.noteOf(2, 3), 1);
        due("the third waits on", x.noteOf(3, 7), 0);
        due("who came in last is the youngest", x.voiceAt(2), 2);
        due("before it who began anew", x.voiceAt(1), 4);
    }

    private static void doorAnewAfterTheLevel() {
        says("this begins anew as told, with the level that it has after the levels have changed");
        ChoirBox x = box(1, 2);
        x.knock(ALTO, 1, 1);
        x.knock(SOPRANO, 60, 50);
        x.set(0, 2);
        x.knock(SOPRANO, 60, 100);
        due("soprano 400, alto 2", x.tick(1), 402);
        due("the new strength", x.noteOf(2, 2), 50);
        due("sinking, as 400 is at least the new peak", x.noteOf(2, 3), 2);
        x.tick(1);
        due("by (400 - 240) / 10", x.noteOf(2, 4), 384);
    }

    /** Note 3 sings; note 2 at the door has its part and pitch, but note 1 is ahead of it. */
    private static ChoirBox heldUp() {
        ChoirBox x = box(1, 2);
        x.knock(ALTO, 1, 1);
        x.knock(TENOR, 2, 10);
        x.knock(SOPRANO, 60, 50);
        x.set(0, 2);
        x.knock(SOPRANO, 60, 100);
        x.tick(2);
        return x;
    }

    private static void doorAnewWhileFading() {
        says("if a voice of its part and pitch has a place; it is fading");
        ChoirBox x = heldUp();
        due("held up", x.noteOf(2, 7), 1);
        due("the voice", x.release(SOPRANO, 60), 3);
        due("who was ahead", x.release(TENOR, 2), 1);
        due("no place would be free", x.freeIn(), -4);
        x.tick(1);
        due("anew", x.noteOf(3, 2), 50);
        due("at 800 - 134", x.noteOf(3, 4), 666);
        due("sinking", x.noteOf(3, 3), 2);
        due("the note went away", x.noteOf(2, 3), 6);
        says("if a voice of its part and pitch has a place; it is gone by this tick");
        ChoirBox y = heldUp();
        y.release(SOPRANO, 60);
        y.tick(5);
        due("the last level", y.noteOf(3, 4), 130);
        y.release(TENOR, 2);
        y.tick(1);
        due("gone", y.noteOf(3, 3), 6);
        due("the note comes in itself", y.noteOf(2, 3), 1);
        due("with the level 0", y.noteOf(2, 4), 0);
        due("nobody began anew", y.count(10), 0);
    }

    private static void doorAnewIsNoLongerLetGo() {
        says("It is no longer let go, also if it begins anew by a note at the door");
        ChoirBox x = box(1, 2);
        x.knock(ALTO, 1, 1);
        x.knock(SOPRANO, 60, 50);
        x.set(0, 2);
        x.knock(SOPRANO, 60, 100);
        x.pedal(1);
        due("the voice", x.release(SOPRANO, 60), 2);
        due("marked", x.noteOf(2, 6), 1);
        x.tick(1);
        due("anew", x.noteOf(2, 2), 50);
        due("no longer let go", x.noteOf(2, 6), 0);
        due("nobody fades by the pedal", x.pedal(0), 0);
    }

    private static void doorSamePitchTwice() {
        says("the note is a voice, and the next one of its part and pitch makes it begin anew in the same tick");
        ChoirBox x = box(1, 2);
        x.knock(ALTO, 1, 1);
        x.knock(SOPRANO, 60, 50);
        x.knock(SOPRANO, 60, 70);
        x.knock(SOPRANO, 61, 70);
        x.release(ALTO, 1);
        due("silent", x.tick(1), 0);
        due("the first is in", x.noteOf(1, 3), 1);
        due("as strong as the second", x.noteOf(1, 2), 70);
        due("which went away", x.noteOf(2, 3), 6);
        due("the third waits", x.noteOf(3, 7), 0);
        due("once", x.count(10), 1);
        due("it rises by 280", x.tick(1), 280);
    }

    private static void doorAllAtOnce() {
        says("the notes at the door come in, from the first one on; all six in one tick");
        ChoirBox x = box(1, 2);
        for (int i = 0; i <= 6; i++) {
            x.knock(BASS, i, 10);
        }
        x.set(0, 8);
        due("one rises", x.tick(1), 10);
        due("nobody waits", x.count(4), 0);
        due("voices", x.count(1), 7);
        for (int i = 0; i <= 6; i++) {
            due("by their order at the door", x.voiceAt(i), i);
        }
        says("all six begin anew or come in, in one tick");
        ChoirBox y = box(1, 2);
        y.knock(ALTO, 1, 10);
        for (int i = 1; i <= 6; i++) {
            y.knock(BASS, 5, 10 + i);
        }
        y.set(0, 2);
        y.tick(1);
        due("nobody waits", y.count(4), 0);
        due("five began it anew", y.count(10), 5);
        due("it is as strong as the last", y.noteOf(1, 2), 16);
    }

    private static void doorSendsNobodyHome() {
        says("otherwise it and all behind it wait on: nobody is sent home for them");
        ChoirBox x = box(1, 2);
        x.knock(ALTO, 1, 10);
        x.knock(ALTO, 2, 10);
        for (int rule = 0; rule <= 1; rule++) {
            x.set(1, rule);
            x.tick(50);
            due("it waits on", x.noteOf(1, 3), 0);
            due("nobody was sent home", x.count(9), 0);
        }
    }

    private static void sumOfNothing() {
        says("The sum is that of the levels of all voices; there is none");
        ChoirBox x = box(1, 2);
        x.set(2, 100);
        due("sum", x.count(6), 0);
        due("heard", x.count(7), 0);
        x.knock(SOPRANO, 60, 127);
        due("a silent one", x.count(6), 0);
        due("it is heard as nothing", x.noteOf(0, 5), 0);
        x.knock(SOPRANO, 61, 127);
        due("who waits is not in the sum", x.tick(1), 508);
        due("who waits is not heard", x.count(7), 100);
    }

    private static void sumWithLeaving() {
        says("also of those that are leaving");
        ChoirBox x = box(1, 0);
        x.knock(SOPRANO, 60, 100);
        x.tick(1);
        x.knock(ALTO, 61, 100);
        due("only who leaves has a level", x.count(6), 400);
        due("then both", x.tick(1), 266 + 200);
        due("the sum", x.count(6), 466);
        x.set(2, 233);
        due("half of each is heard", x.noteOf(0, 5), 133);
        due("half of each is heard", x.noteOf(1, 5), 100);
    }

    private static void sumAtTheBound() {
        says("its level, if the sum is at most the bound, and otherwise level * bound / sum");
        ChoirBox x = new ChoirBox();
        x.knock(SOPRANO, 60, 100);
        x.knock(ALTO, 61, 50);
        due("the sum", x.tick(2), 1000);
        int[] bounds = {1001, 1000, 999};
        int[] sopranos = {800, 800, 799};
        int[] altos = {200, 200, 199};
        for (int i = 0; i < bounds.length; i++) {
            x.set(2, bounds[i]);
            due("soprano by " + bounds[i], x.noteOf(0, 5), sopranos[i]);
            due("alto by " + bounds[i], x.noteOf(1, 5), altos[i]);
            due("all by " + bounds[i], x.count(7), sopranos[i] + altos[i]);
            due("the levels stay", x.count(6), 1000);
        }
    }

    private static void leastBound() {
        says("2 the bound (100 to 8000); 100");
        ChoirBox x = new ChoirBox();
        x.set(2, 100);
        x.knock(BASS, 60, 101);
        due("one above", x.tick(1), 101);
        due("heard", x.noteOf(0, 5), 100);
        x.knock(SOPRANO, 61, 1);
        x.tick(1);
        due("a quiet one of 4 by 206 is 1.9, rounded down", x.noteOf(1, 5), 1);
        x.tick(6);
        due("the sum", x.count(6), 808 + 4);
        due("4 * 100 / 812 is rounded down to 0", x.noteOf(1, 5), 0);
        due("808 * 100 / 812 is 99.5", x.noteOf(0, 5), 99);
        due("all", x.count(7), 99);
    }

    private static void mostBound() {
        says("2 the bound (100 to 8000); 8000");
        ChoirBox x = box(8, 2);
        x.set(2, 8000);
        for (int i = 0; i < 8; i++) {
            x.knock(SOPRANO, i, i == 0 ? 111 : 127);
        }
        due("the sum is the bound", x.tick(2), 8000);
        due("all is heard", x.noteOf(1, 5), 1016);
        x.undo();
        x.knock(SOPRANO, 0, 127);
        due("the greatest sum of eight", x.tick(2), 8128);
        due("1016 * 8000 / 8128", x.noteOf(1, 5), 1000);
        due("all", x.count(7), 8000);
    }

    private static void heardIsRoundedForEachVoice() {
        says("What is heard of a part is what is heard of all its voices together");
        ChoirBox x = new ChoirBox();
        x.knock(SOPRANO, 60, 50);
        x.knock(SOPRANO, 61, 50);
        x.knock(SOPRANO, 62, 50);
        due("the sum", x.tick(1), 600);
        x.set(2, 500);
        due("166.7 rounded down", x.noteOf(0, 5), 166);
        due("three times this, not 500", x.partOf(SOPRANO, 3), 498);
        due("all parts", x.count(7), 498);
        due("the desk", x.mix(), 498);
    }

    private static void settingRange(int what, int least, int most, int first) {
        ChoirBox x = new ChoirBox();
        int[] odd = {least - 1, most + 1, -least, Integer.MIN_VALUE, Integer.MAX_VALUE};
        for (int value : odd) {
            if (value < least || value > most) {
                due("set(" + what + ", " + value + ")", x.set(what, value), -1);
            }
        }
        due("first value", x.count(20 + what), first);
        due("nothing is recorded", x.count(11), 0);
        due("least, and what it was", x.set(what, least), first);
        due("least", x.count(20 + what), least);
        due("most, and what it was", x.set(what, most), least);
        due("most", x.count(20 + what), most);
        due("the same again", x.set(what, most), most);
        due("is a change too", x.count(11), 3);
    }

    private static void settingRanges() {
        says("0 the places (1 to 8; 4)");
        settingRange(0, 1, 8, 4);
        says("1 the rule (0 to 2; 0)");
        settingRange(1, 0, 2, 0);
        says("2 the bound (100 to 8000; 2500)");
        settingRange(2, 100, 8000, 2500);
        says("what: 0 to 2");
        ChoirBox x = new ChoirBox();
        int[] odd = {-1, 3, 20, 21, 22, Integer.MIN_VALUE, Integer.MAX_VALUE};
        for (int what : odd) {
            for (int value : new int[] {0, 1, 2, 4, 100, 2500}) {
                due("set(" + what + ", " + value + ")", x.set(what, value), -1);
            }
        }
        due("nothing is recorded", x.count(11), 0);
    }
}
