/** The boundary cases of "Parts and shapes" and "Voices": first and last steps, roundings, voices without a level. */
public final class BoundaryVoices extends Checks {
    private static final int SOPRANO = 0;
    private static final int ALTO = 1;
    private static final int TENOR = 2;
    private static final int BASS = 3;

    public static void main(String[] args) {
        shapeOfTheSoprano();
        shapeOfTheAlto();
        shapeOfTheTenor();
        shapeOfTheBass();
        risingReachesThePeak();
        risingPassesThePeak();
        risingFromJustBelow();
        sinkingReachesTheRest();
        sinkingPassesTheRest();
        holdingStays();
        fadingIsByTheFirstLevel();
        fadingFromNothing();
        fadingAgain();
        leavingIsByTheFirstLevel();
        leavingFromNothing();
        leavingWhileFading();
        leastPlaces();
        mostPlaces();
        fewerPlaces();
        leavingHasNoPlace();
        fourLeave();
        finish("BoundaryVoices");
    }

    /** Knocks, and compares the level after each tick. */
    private static void rises(int part, int strength, int... levels) {
        ChoirBox x = new ChoirBox();
        x.knock(part, 60, strength);
        due("level at first", x.noteOf(0, 4), 0);
        goesOn(x, levels);
    }

    private static void goesOn(ChoirBox x, int... levels) {
        for (int i = 0; i < levels.length; i++) {
            x.tick(1);
            due("level after tick " + (i + 1), x.noteOf(0, 4), levels[i]);
        }
    }

    /** Knocks, lets go after some ticks, compares the level after each tick, and then the voice must be gone. */
    private static void fades(int part, int strength, int ticks, int... levels) {
        ChoirBox x = new ChoirBox();
        x.knock(part, 60, strength);
        x.tick(ticks);
        x.release(part, 60);
        goesAway(x, 4, levels);
    }

    private static void goesAway(ChoirBox x, int phase, int... levels) {
        due("phase", x.noteOf(0, 3), phase);
        for (int level : levels) {
            x.tick(1);
            due("level", x.noteOf(0, 4), level);
            due("phase at " + level, x.noteOf(0, 3), phase);
        }
        x.tick(1);
        due("phase at the end", x.noteOf(0, 3), 6);
        due("level at the end", x.noteOf(0, 4), -4);
    }

    private static void shapeOfTheSoprano() {
        says("2, 10, 600, 6 for the soprano; strength 1");
        rises(SOPRANO, 1, 4, 8, 7, 6, 5, 4, 4);
        says("2, 10, 600, 6 for the soprano; strength 127");
        rises(SOPRANO, 127, 508, 1016, 975, 934, 893, 852, 811, 770, 729, 688, 647, 609, 609);
        fades(SOPRANO, 127, 100, 507, 405, 303, 201, 99);
    }

    private static void shapeOfTheAlto() {
        says("4, 8, 700, 8 for the alto; strength 1");
        rises(ALTO, 1, 2, 4, 6, 8, 7, 6, 5, 5);
        says("4, 8, 700, 8 for the alto; strength 127");
        rises(ALTO, 127, 254, 508, 762, 1016, 977, 938, 899, 860, 821, 782, 743, 711, 711);
        fades(ALTO, 127, 100, 622, 533, 444, 355, 266, 177, 88);
    }

    private static void shapeOfTheTenor() {
        says("5, 12, 800, 10 for the tenor; strength 1");
        rises(TENOR, 1, 2, 4, 6, 8, 7, 6, 6);
        says("5, 12, 800, 10 for the tenor; strength 127");
        rises(TENOR, 127, 204, 408, 612, 816, 1016, 999, 982, 965, 948, 931, 914, 897, 880, 863, 846, 829, 812, 812);
        fades(TENOR, 127, 100, 730, 648, 566, 484, 402, 320, 238, 156, 74);
    }

    private static void shapeOfTheBass() {
        says("8, 6, 900, 16 for the bass; strength 1");
        rises(BASS, 1, 1, 2, 3, 4, 5, 6, 7, 8, 7, 7);
        says("8, 6, 900, 16 for the bass; strength 127");
        rises(BASS, 127, 127, 254, 381, 508, 635, 762, 889, 1016, 999, 982, 965, 948, 931, 914, 914);
        fades(BASS, 127, 100, 856, 798, 740, 682, 624, 566, 508, 450, 392, 334, 276, 218, 160, 102, 44);
    }

    private static void risingReachesThePeak() {
        says("if it is the peak then, the voice is sinking; it comes to it evenly");
        ChoirBox x = new ChoirBox();
        x.knock(BASS, 60, 127);
        due("a tick before", x.tick(7), 889);
        due("a tick before", x.noteOf(0, 3), 1);
        due("at the peak", x.tick(1), 1016);
        due("at the peak", x.noteOf(0, 3), 2);
    }

    private static void risingPassesThePeak() {
        says("becomes greater by peak / rise, rounded up, but is at most the peak");
        ChoirBox x = new ChoirBox();
        x.knock(TENOR, 60, 127);
        due("a tick before", x.tick(4), 816);
        due("a tick before", x.noteOf(0, 3), 1);
        due("1020 would be above", x.tick(1), 1016);
        due("at the peak", x.noteOf(0, 3), 2);
    }

    private static void risingFromJustBelow() {
        says("at most the peak, from 1 below it");
        ChoirBox x = new ChoirBox();
        x.knock(SOPRANO, 60, 100);
        x.tick(2);
        x.knock(SOPRANO, 60, 1);
        due("sinks by 1", x.tick(1), 799);
        x.knock(SOPRANO, 60, 100);
        due("rises", x.noteOf(0, 3), 1);
        due("to the peak, not by 400", x.tick(1), 800);
        due("sinks", x.noteOf(0, 3), 2);
    }

    private static void sinkingReachesTheRest() {
        says("if it is the rest then, the voice is holding; it comes to it evenly");
        ChoirBox x = new ChoirBox();
        x.knock(BASS, 60, 127);
        due("a tick before", x.tick(13), 931);
        due("a tick before", x.noteOf(0, 3), 2);
        due("at the rest", x.tick(1), 914);
        due("at the rest", x.noteOf(0, 3), 3);
    }

    private static void sinkingPassesTheRest() {
        says("becomes less by (peak - rest) / sink, rounded up, but is at least the rest");
        ChoirBox x = new ChoirBox();
        x.knock(ALTO, 60, 127);
        due("a tick before", x.tick(11), 743);
        due("a tick before", x.noteOf(0, 3), 2);
        due("704 would be below", x.tick(1), 711);
        due("at the rest", x.noteOf(0, 3), 3);
        says("at least the rest, from 1 above it");
        ChoirBox y = new ChoirBox();
        y.knock(ALTO, 60, 126);
        due("the rest of 1008, 705.6 rounded down", y.tick(100), 705);
        y.knock(ALTO, 60, 1);
        y.tick(100);
        y.tick(100);
        due("by 1 a tick", y.noteOf(0, 4), 505);
        due("sinks still", y.noteOf(0, 3), 2);
    }

    private static void holdingStays() {
        says("holding stays");
        ChoirBox x = new ChoirBox();
        x.knock(SOPRANO, 60, 1);
        due("after 6 ticks", x.tick(6), 4);
        due("holding", x.noteOf(0, 3), 3);
        for (int i = 0; i < 400; i++) {
            due("on", x.tick(100), 4);
        }
        due("holding still", x.noteOf(0, 3), 3);
    }

    private static void fadingIsByTheFirstLevel() {
        says("by b / fade, rounded up, where b is the level at which it began to fade, but is at least 0");
        fades(SOPRANO, 100, 1, 333, 266, 199, 132, 65);
        says("b / fade comes out even");
        fades(BASS, 2, 8, 15, 14, 13, 12, 11, 10, 9, 8, 7, 6, 5, 4, 3, 2, 1);
        fades(TENOR, 125, 5, 900, 800, 700, 600, 500, 400, 300, 200, 100);
        says("b / fade is rounded up to 1");
        fades(SOPRANO, 1, 1, 3, 2, 1);
        fades(BASS, 1, 1);
        says("b / fade is 1 and a bit");
        fades(SOPRANO, 1, 2, 6, 4, 2);
        fades(SOPRANO, 1, 3, 5, 3, 1);
    }

    private static void fadingFromNothing() {
        says("if it is 0 then, the voice is gone; b is 0");
        ChoirBox x = new ChoirBox();
        x.knock(SOPRANO, 60, 100);
        x.release(SOPRANO, 60);
        due("it is a voice yet", x.noteOf(0, 4), 0);
        due("it has its place yet", x.count(1), 1);
        goesAway(x, 4);
        due("its place is free", x.count(1), 0);
    }

    private static void fadingAgain() {
        says("b is the level at which it began to fade, the last time");
        ChoirBox x = new ChoirBox();
        x.knock(SOPRANO, 60, 100);
        x.tick(2);
        x.release(SOPRANO, 60);
        due("a sixth of 800 less", x.tick(1), 666);
        x.knock(SOPRANO, 60, 10);
        due("sinks by (80 - 48) / 10, rounded up", x.tick(1), 662);
        x.release(SOPRANO, 60);
        goesAway(x, 4, 551, 440, 329, 218, 107);
    }

    /** Sends the only voice home, by a second one that stays silent for the next tick. */
    private static ChoirBox sentHomeAt(int part, int strength, int ticks) {
        ChoirBox x = box(1, 0);
        x.knock(part, 60, strength);
        x.tick(ticks);
        x.knock(ALTO, 1, 1);
        return x;
    }

    private static void leavingIsByTheFirstLevel() {
        says("leaving becomes less by b / 3, rounded up, where b is the level at which it was sent home, but is at least 0");
        goesAway(sentHomeAt(SOPRANO, 100, 1), 5, 266, 132);
        goesAway(sentHomeAt(BASS, 100, 1), 5, 66, 32);
        says("b / 3 comes out even");
        goesAway(sentHomeAt(TENOR, 75, 1), 5, 80, 40);
        goesAway(sentHomeAt(BASS, 3, 1), 5, 2, 1);
        says("b / 3 is 1 and a bit");
        goesAway(sentHomeAt(BASS, 4, 1), 5, 2);
        goesAway(sentHomeAt(BASS, 5, 1), 5, 3, 1);
        says("b / 3 is rounded up to 1");
        goesAway(sentHomeAt(BASS, 2, 1), 5, 1);
        goesAway(sentHomeAt(BASS, 1, 1), 5);
    }

    private static void leavingFromNothing() {
        says("leaving: if it is 0 then, the voice is gone; b is 0");
        ChoirBox x = box(1, 0);
        x.knock(SOPRANO, 60, 100);
        x.knock(ALTO, 1, 1);
        due("it is a voice yet", x.noteOf(0, 4), 0);
        due("it leaves", x.count(3), 1);
        goesAway(x, 5);
        due("nobody leaves", x.count(3), 0);
    }

    private static void leavingWhileFading() {
        says("b is the level at which it was sent home, not that at which it began to fade");
        ChoirBox x = box(1, 0);
        x.knock(SOPRANO, 60, 100);
        x.tick(2);
        x.release(SOPRANO, 60);
        due("a sixth of 800 less", x.tick(1), 666);
        x.knock(ALTO, 1, 1);
        goesAway(x, 5, 444, 222);
    }

    private static void leastPlaces() {
        says("there are as many places as the setting 0 tells; 1");
        ChoirBox x = box(1, 2);
        due("free", x.count(2), 1);
        x.knock(SOPRANO, 60, 1);
        due("sings", x.noteOf(0, 3), 1);
        due("free", x.count(2), 0);
        x.knock(SOPRANO, 61, 1);
        due("waits", x.noteOf(1, 3), 0);
    }

    private static void mostPlaces() {
        says("there are as many places as the setting 0 tells; 8");
        ChoirBox x = box(8, 2);
        for (int i = 0; i < 8; i++) {
            due("free", x.count(2), 8 - i);
            x.knock(BASS, i, 127);
            due("sings", x.noteOf(i, 3), 1);
        }
        due("free", x.count(2), 0);
        x.knock(BASS, 8, 1);
        due("the ninth waits", x.noteOf(8, 3), 0);
        due("all eight rise to 1016", x.tick(8), 8 * 1016);
        due("voices", x.count(1), 8);
        due("the eighth", x.voiceAt(7), 7);
        due("no ninth", x.voiceAt(8), -4);
        due("basses", x.partOf(BASS, 0), 8);
    }

    private static void fewerPlaces() {
        says("(If it is made less, all voices keep theirs.)");
        ChoirBox x = box(8, 2);
        for (int i = 0; i < 8; i++) {
            x.knock(SOPRANO, i, 10);
        }
        x.set(0, 1);
        due("voices", x.count(1), 8);
        x.tick(1);
        due("voices a tick later", x.count(1), 8);
        due("they rise on", x.count(6), 8 * 40);
        x.knock(SOPRANO, 9, 10);
        for (int i = 0; i < 7; i++) {
            x.release(SOPRANO, i);
        }
        x.tick(6);
        due("one voice is left", x.count(1), 1);
        due("no place is free for who waits", x.noteOf(8, 3), 0);
        x.release(SOPRANO, 7);
        x.tick(6);
        due("who waits comes in when the last one is gone", x.voiceAt(0), 8);
    }

    private static void leavingHasNoPlace() {
        says("Voices that are leaving have none");
        ChoirBox x = box(2, 0);
        x.knock(SOPRANO, 60, 10);
        x.knock(SOPRANO, 61, 20);
        x.tick(1);
        x.knock(SOPRANO, 62, 30);
        due("two have a place", x.count(1), 2);
        due("of the part", x.partOf(SOPRANO, 0), 2);
        due("it is not found", x.find(SOPRANO, 60), -4);
        due("the oldest is another", x.voiceAt(0), 1);
        due("then the new one", x.voiceAt(1), 2);
        due("no third", x.voiceAt(2), -4);
        x.set(0, 3);
        due("a third place is free", x.count(2), 1);
    }

    private static void fourLeave() {
        says("there are at most 4 of these");
        ChoirBox x = box(1, 0);
        x.knock(SOPRANO, 0, 100);
        for (int i = 1; i <= 4; i++) {
            x.knock(SOPRANO, i, 100);
            due("leaving", x.count(3), i);
        }
        x.knock(SOPRANO, 5, 100);
        due("no fifth", x.count(3), 4);
        due("it waits", x.noteOf(5, 3), 0);
        due("the last one sings", x.voiceAt(0), 4);
    }
}
