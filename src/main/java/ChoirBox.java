/** A choir box of few places, as the document tells it. No call throws; errors are answered by the constants. */
public final class ChoirBox {
    public static final int INVALID_ARGUMENT = -1;
    public static final int NOT_POSSIBLE = -2;
    public static final int LIMIT_REACHED = -3;
    public static final int NOT_FOUND = -4;

    private static final int PARTS = 4;
    private static final int MOST_PITCH = 127;
    private static final int MOST_STRENGTH = 127;
    private static final int MOST_NOTES = 200;
    private static final int MOST_PLACES = 8;
    private static final int MOST_LEAVING = 4;
    private static final int MOST_WAITING = 6;
    private static final int MOST_STATES = 4;
    private static final int MOST_TICKS = 100;
    private static final int MOST_TIME = 50000;
    private static final int FAR_AHEAD = 200;
    private static final int MOST_SIGNS = 60;
    private static final int MOST_OPEN = 6;
    private static final int MOST_MADE = 1000000;
    /** Far above the ticks that any voice needs to fade. */
    private static final int ENDLESS = 1000000;
    private static final int NOBODY = -1;

    private static final int WAITING = 0;
    private static final int RISING = 1;
    private static final int SINKING = 2;
    private static final int HOLDING = 3;
    private static final int FADING = 4;
    private static final int LEAVING = 5;
    private static final int GONE = 6;

    private static final int PLACES = 0;
    private static final int RULE = 1;
    private static final int BOUND = 2;
    private static final int SETTINGS = 3;
    private static final int QUIETEST_GOES = 0;
    private static final int OLDEST_GOES = 1;
    private static final int[] LEAST_VALUES = {1, 0, 100};
    private static final int[] MOST_VALUES = {8, 2, 8000};
    private static final int[] FIRST_VALUES = {4, 0, 2500};

    private static final int[] RISES = {2, 4, 5, 8};
    private static final int[] SINKS = {10, 8, 12, 6};
    private static final int[] HOLDS = {600, 700, 800, 900};
    private static final int[] FADES = {6, 8, 10, 16};
    private static final int LEAVE = 3;

    private static final int NO_FAULT = 0;
    private static final int CANNOT_BE_THERE = 1;
    private static final int TOO_MANY_OPEN = 2;
    private static final int TOO_EARLY = 3;
    private static final String FIRST_FORMULA = "s+a+t+b";
    /** The sign of each part stands where the part's number is. */
    private static final String PART_SIGNS = "satb";

    private final Choir now;
    private final Choir ahead;
    private final History history;
    private final Formula text;
    private final Reader reader;
    private final Mixer mixer;
    private final int[] shares;

    public ChoirBox() {
        now = new Choir();
        ahead = new Choir();
        history = new History();
        text = new Formula("");
        reader = new Reader();
        mixer = new Mixer();
        shares = new int[PARTS];
    }

    // ---- notes

    public int knock(int part, int pitch, int strength) {
        if (!isPart(part) || !isPitch(pitch) || strength < 1 || strength > MOST_STRENGTH) {
            return INVALID_ARGUMENT;
        }
        int voice = now.voiceOf(part, pitch);
        if (voice == NOBODY && !now.takesNewNote()) {
            return LIMIT_REACHED;
        }
        history.record(now);
        if (voice == NOBODY) {
            return now.takeNewNote(part, pitch, strength);
        }
        now.beginAnew(voice, strength);
        return voice;
    }

    public int release(int part, int pitch) {
        if (!isPart(part) || !isPitch(pitch)) {
            return INVALID_ARGUMENT;
        }
        int note = now.singerToLetGo(part, pitch);
        if (note == NOBODY) {
            note = now.waiterOf(part, pitch);
        }
        if (note == NOBODY) {
            return NOT_POSSIBLE;
        }
        history.record(now);
        now.letGo(note);
        return note;
    }

    public int pedal(int down) {
        if (down < 0 || down > 1) {
            return INVALID_ARGUMENT;
        }
        if (down == now.pedalDown) {
            return NOT_POSSIBLE;
        }
        history.record(now);
        return now.movePedal(down);
    }

    public int tick(int ticks) {
        if (ticks < 1 || ticks > MOST_TICKS) {
            return INVALID_ARGUMENT;
        }
        if (now.time + ticks > MOST_TIME) {
            return LIMIT_REACHED;
        }
        history.record(now);
        for (int i = 0; i < ticks; i++) {
            now.passTick();
        }
        return now.sum();
    }

    public int set(int what, int value) {
        if (what < 0 || what >= SETTINGS || value < at(LEAST_VALUES, what) || value > at(MOST_VALUES, what)) {
            return INVALID_ARGUMENT;
        }
        history.record(now);
        int before = at(now.settings, what);
        put(now.settings, what, value);
        return before;
    }

    // ---- what there is

    public int noteOf(int note, int what) {
        if (note < 0 || note >= now.notes.size) {
            return INVALID_ARGUMENT;
        }
        switch (what) {
            case 0: return at(now.notes.part, note);
            case 1: return at(now.notes.pitch, note);
            case 2: return at(now.notes.strength, note);
            case 3: return at(now.notes.phase, note);
            case 4: return now.notes.sings(note) ? at(now.notes.level, note) : NOT_FOUND;
            case 5: return now.notes.sings(note) ? now.heardOfNote(note, now.sum()) : NOT_FOUND;
            case 6: return at(now.notes.marked, note);
            case 7: return orNotFound(now.door.indexOf(note));
            default: return INVALID_ARGUMENT;
        }
    }

    public int voiceAt(int index) {
        if (index < 0) {
            return INVALID_ARGUMENT;
        }
        return orNotFound(now.placed.noteAt(index));
    }

    public int find(int part, int pitch) {
        if (!isPart(part) || !isPitch(pitch)) {
            return INVALID_ARGUMENT;
        }
        return orNotFound(now.voiceOf(part, pitch));
    }

    public int partOf(int part, int what) {
        if (!isPart(part)) {
            return INVALID_ARGUMENT;
        }
        switch (what) {
            case 0: return now.howManyOf(now.placed, part);
            case 1: return now.howManyOf(now.leaving, part);
            case 2: return now.levelsOf(now.placed, part) + now.levelsOf(now.leaving, part);
            case 3: return now.heardOfPart(part);
            case 4: return now.howManyOf(now.door, part);
            default: return INVALID_ARGUMENT;
        }
    }

    public int count(int what) {
        switch (what) {
            case 0: return now.notes.size;
            case 1: return now.placed.size;
            case 2: return now.freePlaces();
            case 3: return now.leaving.size;
            case 4: return now.door.size;
            case 5: return now.time;
            case 6: return now.sum();
            case 7: return now.heardOfAll();
            case 8: return now.pedalDown;
            case 9: return now.sentHome;
            case 10: return now.begunAnew;
            case 11: return history.size;
            case 12: return text.length;
            case 20: return at(now.settings, PLACES);
            case 21: return at(now.settings, RULE);
            case 22: return at(now.settings, BOUND);
            default: return INVALID_ARGUMENT;
        }
    }

    // ---- what would be, which changes nothing

    public int next() {
        return orNotFound(now.toSendHome());
    }

    public int peak(int ticks) {
        if (ticks < 1 || ticks > FAR_AHEAD) {
            return INVALID_ARGUMENT;
        }
        ahead.copyFrom(now);
        int greatest = 0;
        for (int i = 0; i < ticks; i++) {
            ahead.passTick();
            greatest = Math.max(greatest, ahead.sum());
        }
        return greatest;
    }

    public int silence() {
        ahead.copyFrom(now);
        ahead.letAllGo();
        int ticks = 0;
        while (ticks < ENDLESS && ahead.placed.size + ahead.leaving.size > 0) {
            ahead.passTick();
            ticks++;
        }
        return ticks;
    }

    public int freeIn() {
        ahead.copyFrom(now);
        for (int ticks = 0; ticks <= FAR_AHEAD; ticks++) {
            if (ahead.freePlaces() > 0) {
                return ticks;
            }
            ahead.passTick();
        }
        return NOT_FOUND;
    }

    public int undo() {
        if (history.size == 0) {
            return NOT_POSSIBLE;
        }
        history.restore(now);
        return history.size;
    }

    // ---- the desk

    public int type(int character) {
        if (character < 32 || character > 126) {
            return INVALID_ARGUMENT;
        }
        if (text.length >= MOST_SIGNS) {
            return LIMIT_REACHED;
        }
        text.append((char) character);
        return text.length;
    }

    public int clearText() {
        int before = text.length;
        text.length = 0;
        return before;
    }

    public int fault(int what) {
        if (what < 0 || what > 1) {
            return INVALID_ARGUMENT;
        }
        reader.read(text);
        if (reader.reason == NO_FAULT) {
            return NOT_FOUND;
        }
        return what == 0 ? reader.position : reader.reason;
    }

    public int adopt() {
        reader.read(text);
        if (reader.reason != NO_FAULT) {
            return NOT_POSSIBLE;
        }
        history.record(now);
        now.formula.copyFrom(text);
        return now.formula.howManyParts();
    }

    public int mix() {
        for (int part = 0; part < PARTS; part++) {
            put(shares, part, now.heardOfPart(part));
        }
        return mixer.result(now.formula, shares);
    }

    public int alone(int what) {
        if (what < 0 || what > 1) {
            return INVALID_ARGUMENT;
        }
        int making = 0;
        int most = 0;
        int best = NOBODY;
        for (int part = 0; part < PARTS; part++) {
            int made = madeAlone(part);
            if (made > 0) {
                making++;
            }
            if (made > most) {
                most = made;
                best = part;
            }
        }
        return what == 0 ? making : orNotFound(best);
    }

    private int madeAlone(int part) {
        for (int other = 0; other < PARTS; other++) {
            put(shares, other, other == part ? now.heardOfPart(part) : 0);
        }
        return mixer.result(now.formula, shares);
    }

    private static boolean isPart(int part) {
        return part >= 0 && part < PARTS;
    }

    private static boolean isPitch(int pitch) {
        return pitch >= 0 && pitch <= MOST_PITCH;
    }

    private static int orNotFound(int number) {
        return number == NOBODY ? NOT_FOUND : number;
    }

    private static int at(int[] row, int index) {
        return index >= 0 && index < row.length ? row[index] : 0;
    }

    private static void put(int[] row, int index, int value) {
        if (index >= 0 && index < row.length) {
            row[index] = value;
        }
    }

    private static void copyRow(int[] from, int[] to, int many) {
        if (many > 0 && many <= from.length && many <= to.length) {
            System.arraycopy(from, 0, to, 0, many);
        }
    }

    private static int divideUp(int number, int divisor) {
        return divisor > 0 ? (number + divisor - 1) / divisor : 0;
    }

    /** Note numbers in an order. */
    private static final class Line {
        private final int[] numbers;
        private int size;

        private Line(int most) {
            numbers = new int[Math.max(0, most)];
        }

        private int noteAt(int index) {
            return index >= 0 && index < size ? at(numbers, index) : NOBODY;
        }

        private int indexOf(int note) {
            for (int i = 0; i < size; i++) {
                if (at(numbers, i) == note) {
                    return i;
                }
            }
            return NOBODY;
        }

        private void append(int note) {
            if (size < numbers.length) {
                put(numbers, size, note);
                size++;
            }
        }

        private void removeNote(int note) {
            int kept = 0;
            int before = size;
            for (int i = 0; i < before; i++) {
                int other = at(numbers, i);
                if (other != note) {
                    put(numbers, kept, other);
                    kept++;
                }
            }
            size = kept;
        }

        private void copyFrom(Line other) {
            copyRow(other.numbers, numbers, other.size);
            size = other.size;
        }
    }

    /** All notes so far, by their numbers, and how the level of one moves. */
    private static final class Notes {
        private final int[] part = new int[MOST_NOTES];
        private final int[] pitch = new int[MOST_NOTES];
        private final int[] strength = new int[MOST_NOTES];
        private final int[] phase = new int[MOST_NOTES];
        private final int[] level = new int[MOST_NOTES];
        /** The level at which a voice began to fade or was sent home. */
        private final int[] start = new int[MOST_NOTES];
        /** 1 for a voice that was let go and waits for the pedal to come up. */
        private final int[] marked = new int[MOST_NOTES];
        private int size;

        private int append(int newPart, int newPitch, int newStrength) {
            int note = size;
            put(part, note, newPart);
            put(pitch, note, newPitch);
            put(strength, note, newStrength);
            put(phase, note, WAITING);
            put(level, note, 0);
            put(start, note, 0);
            put(marked, note, 0);
            size++;
            return note;
        }

        private boolean sings(int note) {
            int itsPhase = at(phase, note);
            return itsPhase != WAITING && itsPhase != GONE;
        }

        private boolean is(int note, int itsPart, int itsPitch) {
            return at(part, note) == itsPart && at(pitch, note) == itsPitch;
        }

        private int top(int note) {
            return 8 * at(strength, note);
        }

        private int rest(int note, int top) {
            return top * at(HOLDS, at(part, note)) / 1000;
        }

        private void startOver(int note, int newStrength) {
            put(strength, note, newStrength);
            put(marked, note, 0);
            put(phase, note, at(level, note) >= top(note) ? SINKING : RISING);
        }

        /** Lets a level become less from here on, by fading or by leaving; a mark has no meaning then. */
        private void startDown(int note, int newPhase) {
            put(phase, note, newPhase);
            put(start, note, at(level, note));
            put(marked, note, 0);
        }

        private void end(int note) {
            put(phase, note, GONE);
        }

        private void move(int note) {
            switch (at(phase, note)) {
                case RISING: rise(note); break;
                case SINKING: sink(note); break;
                case FADING: goDown(note, at(FADES, at(part, note))); break;
                case LEAVING: goDown(note, LEAVE); break;
                default: break;
            }
        }

        private void rise(int note) {
            int top = top(note);
            int risen = Math.min(top, at(level, note) + divideUp(top, at(RISES, at(part, note))));
            put(level, note, risen);
            if (risen == top) {
                put(phase, note, SINKING);
            }
        }

        private void sink(int note) {
            int top = top(note);
            int rest = rest(note, top);
            int sunk = Math.max(rest, at(level, note) - divideUp(top - rest, at(SINKS, at(part, note))));
            put(level, note, sunk);
            if (sunk == rest) {
                put(phase, note, HOLDING);
            }
        }

        private void goDown(int note, int steps) {
            int left = Math.max(0, at(level, note) - divideUp(at(start, note), steps));
            put(level, note, left);
            if (left == 0) {
                end(note);
            }
        }

        private void copyFrom(Notes other) {
            size = other.size;
            copyRow(other.part, part, size);
            copyRow(other.pitch, pitch, size);
            copyRow(other.strength, strength, size);
            copyRow(other.phase, phase, size);
            copyRow(other.level, level, size);
            copyRow(other.start, start, size);
            copyRow(other.marked, marked, size);
        }
    }

    /** Everything that a change records: the notes, who has a place, who leaves, who waits, and the desk's formula. */
    private static final class Choir {
        private final Notes notes = new Notes();
        /** From the oldest voice to the youngest. */
        private final Line placed = new Line(MOST_PLACES);
        private final Line leaving = new Line(MOST_LEAVING);
        private final Line door = new Line(MOST_WAITING);
        private final int[] settings = new int[SETTINGS];
        private final Formula formula = new Formula(FIRST_FORMULA);
        private int time;
        private int pedalDown;
        private int sentHome;
        private int begunAnew;

        private Choir() {
            copyRow(FIRST_VALUES, settings, SETTINGS);
        }

        private void copyFrom(Choir other) {
            notes.copyFrom(other.notes);
            placed.copyFrom(other.placed);
            leaving.copyFrom(other.leaving);
            door.copyFrom(other.door);
            copyRow(other.settings, settings, SETTINGS);
            formula.copyFrom(other.formula);
            time = other.time;
            pedalDown = other.pedalDown;
            sentHome = other.sentHome;
            begunAnew = other.begunAnew;
        }

        private int firstOf(Line line, int part, int pitch) {
            for (int i = 0; i < line.size; i++) {
                int note = line.noteAt(i);
                if (notes.is(note, part, pitch)) {
                    return note;
                }
            }
            return NOBODY;
        }

        private int voiceOf(int part, int pitch) {
            return firstOf(placed, part, pitch);
        }

        private int waiterOf(int part, int pitch) {
            return firstOf(door, part, pitch);
        }

        private int singerToLetGo(int part, int pitch) {
            int voice = voiceOf(part, pitch);
            if (voice == NOBODY || at(notes.phase, voice) == FADING || at(notes.marked, voice) == 1) {
                return NOBODY;
            }
            return voice;
        }

        private int freePlaces() {
            return Math.max(0, at(settings, PLACES) - placed.size);
        }

        private int toSendHome() {
            int rule = at(settings, RULE);
            if (rule != QUIETEST_GOES && rule != OLDEST_GOES) {
                return NOBODY;
            }
            int fading = firstToGo(rule, true);
            return fading == NOBODY ? firstToGo(rule, false) : fading;
        }

        /** Goes from the oldest on, so that of several that are as quiet the older one is found. */
        private int firstToGo(int rule, boolean onlyFading) {
            int found = NOBODY;
            for (int i = 0; i < placed.size; i++) {
                int note = placed.noteAt(i);
                if (onlyFading && at(notes.phase, note) != FADING) {
                    continue;
                }
                boolean quieter = rule == QUIETEST_GOES && at(notes.level, note) < at(notes.level, found);
                if (found == NOBODY || quieter) {
                    found = note;
                }
            }
            return found;
        }

        private boolean newNoteMustWait() {
            return freePlaces() == 0 && (leaving.size >= MOST_LEAVING || toSendHome() == NOBODY);
        }

        private boolean takesNewNote() {
            return notes.size < MOST_NOTES && (!newNoteMustWait() || door.size < MOST_WAITING);
        }

        private int takeNewNote(int part, int pitch, int strength) {
            boolean mustWait = newNoteMustWait();
            int note = notes.append(part, pitch, strength);
            if (mustWait) {
                door.append(note);
                return note;
            }
            if (freePlaces() == 0) {
                sendHome(toSendHome());
            }
            comeIn(note);
            return note;
        }

        private void sendHome(int note) {
            placed.removeNote(note);
            leaving.append(note);
            notes.startDown(note, LEAVING);
            sentHome++;
        }

        private void comeIn(int note) {
            put(notes.phase, note, RISING);
            placed.append(note);
        }

        private void beginAnew(int voice, int strength) {
            notes.startOver(voice, strength);
            placed.removeNote(voice);
            placed.append(voice);
            begunAnew++;
        }

        private void letGo(int note) {
            if (at(notes.phase, note) == WAITING) {
                door.removeNote(note);
                notes.end(note);
            } else if (pedalDown == 1) {
                put(notes.marked, note, 1);
            } else {
                notes.startDown(note, FADING);
            }
        }

        private int movePedal(int down) {
            pedalDown = down;
            int beginning = 0;
            for (int i = 0; i < placed.size; i++) {
                int note = placed.noteAt(i);
                if (down == 0 && at(notes.marked, note) == 1) {
                    notes.startDown(note, FADING);
                    beginning++;
                }
            }
            return beginning;
        }

        private void letAllGo() {
            door.size = 0;
            for (int i = 0; i < placed.size; i++) {
                int note = placed.noteAt(i);
                if (at(notes.phase, note) != FADING) {
                    notes.startDown(note, FADING);
                }
            }
        }

        private void passTick() {
            time++;
            moveAll(placed);
            moveAll(leaving);
            openDoor();
        }

        /** Goes from the end on, so that who is removed shifts nobody that is still to move. */
        private void moveAll(Line line) {
            for (int i = line.size - 1; i >= 0; i--) {
                int note = line.noteAt(i);
                notes.move(note);
                if (!notes.sings(note)) {
                    line.removeNote(note);
                }
            }
        }

        private void openDoor() {
            for (int turn = 0; turn < MOST_WAITING && door.size > 0; turn++) {
                int note = door.noteAt(0);
                int voice = voiceOf(at(notes.part, note), at(notes.pitch, note));
                if (voice == NOBODY && freePlaces() == 0) {
                    return;
                }
                door.removeNote(note);
                if (voice == NOBODY) {
                    comeIn(note);
                } else {
                    notes.end(note);
                    beginAnew(voice, at(notes.strength, note));
                }
            }
        }

        private int sum() {
            int sum = 0;
            for (int part = 0; part < PARTS; part++) {
                sum += levelsOf(placed, part) + levelsOf(leaving, part);
            }
            return sum;
        }

        private int levelsOf(Line line, int part) {
            int levels = 0;
            for (int i = 0; i < line.size; i++) {
                int note = line.noteAt(i);
                levels += at(notes.part, note) == part ? at(notes.level, note) : 0;
            }
            return levels;
        }

        private int howManyOf(Line line, int part) {
            int many = 0;
            for (int i = 0; i < line.size; i++) {
                many += at(notes.part, line.noteAt(i)) == part ? 1 : 0;
            }
            return many;
        }

        private int heardOfNote(int note, int sum) {
            int bound = at(settings, BOUND);
            int level = at(notes.level, note);
            return sum <= bound || sum <= 0 ? level : level * bound / sum;
        }

        private int heardOfLine(Line line, int part, int sum) {
            int heard = 0;
            for (int i = 0; i < line.size; i++) {
                int note = line.noteAt(i);
                heard += at(notes.part, note) == part ? heardOfNote(note, sum) : 0;
            }
            return heard;
        }

        private int heardOfPart(int part) {
            int sum = sum();
            return heardOfLine(placed, part, sum) + heardOfLine(leaving, part, sum);
        }

        private int heardOfAll() {
            int heard = 0;
            for (int part = 0; part < PARTS; part++) {
                heard += heardOfPart(part);
            }
            return heard;
        }
    }

    /** The latest states, the oldest one first. */
    private static final class History {
        private final Choir[] states = new Choir[MOST_STATES];
        private int size;

        private History() {
            for (int i = 0; i < states.length; i++) {
                states[i] = new Choir();
            }
        }

        private void record(Choir choir) {
            if (size == MOST_STATES) {
                dropOldest();
            }
            Choir state = stateAt(size);
            if (state != null) {
                state.copyFrom(choir);
                size++;
            }
        }

        private void restore(Choir choir) {
            Choir state = stateAt(size - 1);
            if (state != null) {
                choir.copyFrom(state);
                size--;
            }
        }

        private Choir stateAt(int index) {
            return index >= 0 && index < states.length ? states[index] : null;
        }

        /** The dropped state's room is kept as the last one, to be written again. */
        private void dropOldest() {
            Choir room = stateAt(0);
            for (int i = 1; i < states.length; i++) {
                states[i - 1] = states[i];
            }
            if (states.length > 0) {
                states[states.length - 1] = room;
            }
            size--;
        }
    }

    /** The signs of a text or of the desk's formula. */
    private static final class Formula {
        private final char[] signs = new char[MOST_SIGNS];
        private int length;

        private Formula(String first) {
            int many = Math.min(first.length(), MOST_SIGNS);
            for (int i = 0; i < many; i++) {
                signs[i] = first.charAt(i);
            }
            length = many;
        }

        private void append(char sign) {
            if (length >= 0 && length < signs.length) {
                signs[length] = sign;
                length++;
            }
        }

        private char signAt(int index) {
            return index >= 0 && index < length && index < signs.length ? signs[index] : 0;
        }

        private void copyFrom(Formula other) {
            int many = Math.min(other.length, MOST_SIGNS);
            for (int i = 0; i < many; i++) {
                signs[i] = other.signAt(i);
            }
            length = many;
        }

        private int howManyParts() {
            int many = 0;
            for (int i = 0; i < length; i++) {
                many += partNamed(signAt(i)) == NOBODY ? 0 : 1;
            }
            return many;
        }

        /** The part of a sign, or -1 (NOBODY). */
        private static int partNamed(char sign) {
            return PART_SIGNS.indexOf(sign);
        }
    }

    /** Reads a text sign by sign, and keeps the position and the reason of its fault. */
    private static final class Reader {
        private static final int BEFORE_THING = 0;
        private static final int AFTER_THING = 1;
        private static final int BEFORE_DIGIT = 2;
        private static final int AFTER_DIGIT = 3;

        private int place;
        private int open;
        private int position;
        private int reason;

        private void read(Formula text) {
            place = BEFORE_THING;
            open = 0;
            for (int i = 0; i < text.length; i++) {
                reason = take(text.signAt(i));
                if (reason != NO_FAULT) {
                    position = i;
                    return;
                }
            }
            position = text.length;
            reason = mayEnd() ? NO_FAULT : TOO_EARLY;
        }

        private boolean mayEnd() {
            return open == 0 && (place == AFTER_THING || place == AFTER_DIGIT);
        }

        private int take(char sign) {
            switch (place) {
                case BEFORE_THING: return takeThing(sign);
                case BEFORE_DIGIT: return takeDigit(sign);
                default: return takeBehind(sign);
            }
        }

        private int takeThing(char sign) {
            if (sign == '(') {
                return takeOpening();
            }
            place = AFTER_THING;
            return Formula.partNamed(sign) == NOBODY ? CANNOT_BE_THERE : NO_FAULT;
        }

        private int takeOpening() {
            if (open == MOST_OPEN) {
                return TOO_MANY_OPEN;
            }
            open++;
            return NO_FAULT;
        }

        private int takeDigit(char sign) {
            place = AFTER_DIGIT;
            return sign >= '0' && sign <= '9' ? NO_FAULT : CANNOT_BE_THERE;
        }

        private int takeBehind(char sign) {
            if (sign == '+' || sign == '^') {
                place = BEFORE_THING;
                return NO_FAULT;
            }
            if (sign == '*' && place == AFTER_THING) {
                place = BEFORE_DIGIT;
                return NO_FAULT;
            }
            if (sign == ')' && open > 0) {
                open--;
                place = AFTER_THING;
                return NO_FAULT;
            }
            return CANNOT_BE_THERE;
        }
    }

    /** Works out a formula without fault; for each bracket that is open it keeps what stands so far. */
    private static final class Mixer {
        private final int[] made = new int[MOST_OPEN + 1];
        private final int[] joint = new int[MOST_OPEN + 1];
        private int open;

        private int result(Formula formula, int[] shares) {
            begin(0);
            for (int i = 0; i < formula.length; i++) {
                char sign = formula.signAt(i);
                int part = Formula.partNamed(sign);
                if (part != NOBODY) {
                    join(times(formula, i + 1, at(shares, part)));
                } else if (sign == '(') {
                    begin(open + 1);
                } else if (sign == ')') {
                    int inside = at(made, open);
                    open--;
                    join(times(formula, i + 1, inside));
                } else if (sign == '+' || sign == '^') {
                    put(joint, open, sign);
                }
            }
            return at(made, 0);
        }

        /** The first term is joined to 0, which leaves it as it is. */
        private void begin(int depth) {
            open = depth;
            put(made, depth, 0);
            put(joint, depth, '+');
        }

        private void join(int term) {
            int before = at(made, open);
            int after = at(joint, open) == '+' ? before + term : Math.max(before, term);
            put(made, open, Math.min(MOST_MADE, after));
        }

        private static int times(Formula formula, int index, int thing) {
            if (formula.signAt(index) != '*') {
                return thing;
            }
            return Math.min(MOST_MADE, thing * (formula.signAt(index + 1) - '0'));
        }
    }
}
