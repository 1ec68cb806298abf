import java.util.ArrayList;
import java.util.List;

/** Runs of mixed calls on the class and on a second program of the document, which must answer the same. */
public final class ModelRuns {
    private static final int RUNS = 2000;
    private static final int CALLS = 512;
    private static final String[] TEXTS = {"s+a+t+b", "(s^b)*2+a", "s*9", "((s+a)*2^t)*0", "(((b*9)*9)*9)*9+t", "s^a^t^b",
        "s++a", "((((((((", "(s+a", "a*b", "t)", "", "((((((s^t))))))*7+a", "s*", "s+a*2*3", "a*5^s"};
    private static final String SIGNS = "satb()+^*0123456789satb()+^*satbss x";
    private static final int[] ODD = {-1, 0, 1, 2, 3, 4, 127, 128, 200, 201, Integer.MIN_VALUE, Integer.MAX_VALUE, 8, 9, 100, 101};

    private static long seed;

    public static void main(String[] args) {
        int wrong = 0;
        for (int run = 0; run < RUNS && wrong == 0; run++) {
            wrong += oneRun(run);
        }
        System.out.println(wrong == 0 ? "ModelRuns: all answers are the same" : "ModelRuns: answers differ");
        if (wrong != 0) {
            System.exit(1);
        }
    }

    private static int below(int bound) {
        seed = seed * 6364136223846793005L + 1442695040888963407L;
        return (int) ((seed >>> 33) % bound);
    }

    private static int oneRun(int run) {
        seed = run * 7919L + 17;
        pending = new int[0];
        pendingAt = 0;
        ChoirBox box = new ChoirBox();
        Model model = new Model();
        int pitches = 1 + below(8);
        int temper = below(5);
        for (int call = 0; call < CALLS; call++) {
            int[] words = nextCall(model, pitches, temper);
            int got = ask(box, words);
            int want = model.ask(words);
            if (got != want) {
                System.out.println("run " + run + ", call " + call + ": " + java.util.Arrays.toString(words) + " answered " + got
                    + ", the model " + want);
                return 1;
            }
        }
        return 0;
    }

    private static int odd() {
        return ODD[below(ODD.length)];
    }

    private static int[] pending = new int[0];
    private static int pendingAt = 0;

    private static int[] nextCall(Model model, int pitches, int temper) {
        if (pendingAt < pending.length) {
            return new int[] {15, pending[pendingAt++]};
        }
        int kind = below(100);
        int changing = temper == 0 ? 30 : temper == 1 ? 60 : 45;
        if (kind < changing) {
            return changeCall(pitches, temper);
        }
        if (kind > 96) {
            return new int[] {below(21), odd(), odd(), odd()};
        }
        switch (below(14)) {
            case 0: case 1: case 2: case 3:
                return new int[] {6, below(model.notes.size() + 1), below(8)};
            case 4: return new int[] {7, below(9)};
            case 5: return new int[] {8, below(4), 60 + below(pitches)};
            case 6: return new int[] {9, below(4), below(5)};
            case 7: case 8: return new int[] {10, below(24)};
            case 9: return new int[] {11};
            case 10: return new int[] {12, 1 + below(200)};
            case 11: return new int[] {13 + below(2)};
            case 12: return new int[] {19};
            default: return new int[] {20, below(2)};
        }
    }

    private static int[] changeCall(int pitches, int temper) {
        int kind = below(20);
        int strength = temper == 3 ? 127 - below(20) : temper == 4 ? 1 + below(6) : 1 + below(127);
        if (kind < 8) {
            return new int[] {1, below(4), 60 + below(pitches), strength};
        }
        switch (kind) {
            case 8: case 9: case 10: return new int[] {2, below(4), 60 + below(pitches)};
            case 11: return new int[] {3, below(2)};
            case 12: case 13: case 14: return new int[] {4, 1 + below(temper == 2 ? 100 : 6)};
            case 15: return new int[] {5, 0, 1 + below(temper == 1 ? 3 : 8)};
            case 16: return below(2) == 0 ? new int[] {5, 1, below(3)} : new int[] {5, 2, 100 + below(temper == 3 ? 7901 : 900)};
            case 17: return below(2) == 0 ? new int[] {21} : new int[] {18};
            case 18: return below(3) == 0 ? new int[] {16} : new int[] {15, SIGNS.charAt(below(SIGNS.length()))};
            default: return textCall();
        }
    }

    private static int[] textCall() {
        String text = TEXTS[below(TEXTS.length)];
        pending = new int[text.length()];
        for (int i = 0; i < pending.length; i++) {
            pending[i] = text.charAt(i);
        }
        pendingAt = 0;
        return new int[] {below(3) == 0 ? 17 : 16, below(2)};
    }

    private static int word(int[] words, int index) {
        return index < words.length ? words[index] : 0;
    }

    private static int ask(ChoirBox box, int[] words) {
        int a = word(words, 1);
        int b = word(words, 2);
        int c = word(words, 3);
        switch (words[0]) {
            case 1: return box.knock(a, b, c);
            case 2: return box.release(a, b);
            case 3: return box.pedal(a);
            case 4: return box.tick(a);
            case 5: return box.set(a, b);
            case 6: return box.noteOf(a, b);
            case 7: return box.voiceAt(a);
            case 8: return box.find(a, b);
            case 9: return box.partOf(a, b);
            case 10: return box.count(a);
            case 11: return box.next();
            case 12: return box.peak(a);
            case 13: return box.silence();
            case 14: return box.freeIn();
            case 15: return box.type(a);
            case 16: return box.clearText();
            case 17: return box.fault(a);
            case 18: return box.adopt();
            case 19: return box.mix();
            case 20: return box.alone(a);
            default: return box.undo();
        }
    }

    /** A note, told by names and not by numbers; age grows with each coming in and each beginning anew. */
    private static final class Singer {
        int part;
        int pitch;
        int strength;
        String state = "door";
        int level;
        int base;
        boolean held;
        int age;

        Singer copy() {
            Singer other = new Singer();
            other.part = part;
            other.pitch = pitch;
            other.strength = strength;
            other.state = state;
            other.level = level;
            other.base = base;
            other.held = held;
            other.age = age;
            return other;
        }

        boolean hasPlace() {
            return state.equals("rise") || state.equals("sink") || state.equals("hold") || state.equals("fade");
        }

        boolean sounds() {
            return hasPlace() || state.equals("leave");
        }
    }

    /** The document a second time: one list of all notes, searched anew for each answer. */
    private static final class Model {
        private static final int[][] SHAPES = {{2, 10, 600, 6}, {4, 8, 700, 8}, {5, 12, 800, 10}, {8, 6, 900, 16}};

        List<Singer> notes = new ArrayList<>();
        int time;
        boolean down;
        int places = 4;
        int rule = 0;
        int bound = 2500;
        int sent;
        int anew;
        int clock;
        String desk = "s+a+t+b";
        List<Model> past = new ArrayList<>();
        String text = "";

        Model copy() {
            Model other = new Model();
            for (Singer note : notes) {
                other.notes.add(note.copy());
            }
            other.time = time;
            other.down = down;
            other.places = places;
            other.rule = rule;
            other.bound = bound;
            other.sent = sent;
            other.anew = anew;
            other.clock = clock;
            other.desk = desk;
            return other;
        }

        void remember() {
            past.add(copy());
            if (past.size() > 4) {
                past.remove(0);
            }
        }

        int ask(int[] words) {
            int a = word(words, 1);
            int b = word(words, 2);
            int c = word(words, 3);
            switch (words[0]) {
                case 1: return bad(a, 0, 3) || bad(b, 0, 127) || bad(c, 1, 127) ? -1 : knock(a, b, c);
                case 2: return bad(a, 0, 3) || bad(b, 0, 127) ? -1 : release(a, b);
                case 3: return bad(a, 0, 1) ? -1 : pedal(a == 1);
                case 4: return bad(a, 1, 100) ? -1 : tick(a);
                case 5: return set(a, b);
                case 6: return bad(a, 0, notes.size() - 1) || bad(b, 0, 7) ? -1 : noteOf(notes.get(a), b);
                case 7: return a < 0 ? -1 : a < placed().size() ? number(placed().get(a)) : -4;
                case 8: return bad(a, 0, 3) || bad(b, 0, 127) ? -1 : or4(number(voice(a, b)));
                case 9: return bad(a, 0, 3) || bad(b, 0, 4) ? -1 : partOf(a, b);
                case 10: return count(a);
                case 11: return or4(number(victim()));
                case 12: return bad(a, 1, 200) ? -1 : peak(a);
                case 13: return silence();
                case 14: return freeIn();
                case 15: return bad(a, 32, 126) ? -1 : type((char) a);
                case 16: return clear();
                case 17: return bad(a, 0, 1) ? -1 : fault(a);
                case 18: return adopt();
                case 19: return make(heards());
                case 20: return bad(a, 0, 1) ? -1 : alone(a);
                default: return undo();
            }
        }

        static boolean bad(int number, int least, int most) {
            return number < least || number > most;
        }

        static int or4(int number) {
            return number < 0 ? -4 : number;
        }

        int number(Singer singer) {
            return notes.indexOf(singer);
        }

        List<Singer> in(String state) {
            List<Singer> found = new ArrayList<>();
            for (Singer note : notes) {
                if (note.state.equals(state)) {
                    found.add(note);
                }
            }
            return found;
        }

        List<Singer> placed() {
            List<Singer> found = new ArrayList<>();
            for (Singer note : notes) {
                if (note.hasPlace()) {
                    found.add(note);
                }
            }
            found.sort((one, two) -> Integer.compare(one.age, two.age));
            return found;
        }

        Singer voice(int part, int pitch) {
            for (Singer note : notes) {
                if (note.hasPlace() && note.part == part && note.pitch == pitch) {
                    return note;
                }
            }
            return null;
        }

        Singer victim() {
            if (rule == 2) {
                return null;
            }
            List<Singer> among = new ArrayList<>();
            for (Singer singer : placed()) {
                if (singer.state.equals("fade")) {
                    among.add(singer);
                }
            }
            if (among.isEmpty()) {
                among = placed();
            }
            if (rule == 0) {
                among.sort((one, two) -> Integer.compare(one.level, two.level));
            }
            return among.isEmpty() ? null : among.get(0);
        }

        int knock(int part, int pitch, int strength) {
            Singer voice = voice(part, pitch);
            if (voice != null) {
                remember();
                again(voice, strength);
                return number(voice);
            }
            boolean free = placed().size() < places;
            boolean sends = !free && victim() != null && in("leave").size() < 4;
            if (notes.size() == 200 || (!free && !sends && in("door").size() == 6)) {
                return -3;
            }
            remember();
            if (sends) {
                Singer goes = victim();
                goes.state = "leave";
                goes.base = goes.level;
                goes.held = false;
                sent++;
            }
            Singer comes = new Singer();
            comes.part = part;
            comes.pitch = pitch;
            comes.strength = strength;
            notes.add(comes);
            if (free || sends) {
                comes.state = "rise";
                comes.age = ++clock;
            }
            return notes.size() - 1;
        }

        void again(Singer voice, int strength) {
            voice.strength = strength;
            voice.state = voice.level >= 8 * strength ? "sink" : "rise";
            voice.held = false;
            voice.age = ++clock;
            anew++;
        }

        void fade(Singer voice) {
            voice.state = "fade";
            voice.base = voice.level;
            voice.held = false;
        }

        int release(int part, int pitch) {
            Singer voice = voice(part, pitch);
            if (voice != null && !voice.state.equals("fade") && !voice.held) {
                remember();
                if (down) {
                    voice.held = true;
                } else {
                    fade(voice);
                }
                return number(voice);
            }
            for (Singer note : in("door")) {
                if (note.part == part && note.pitch == pitch) {
                    remember();
                    note.state = "gone";
                    return number(note);
                }
            }
            return -2;
        }

        int pedal(boolean toDown) {
            if (down == toDown) {
                return -2;
            }
            remember();
            down = toDown;
            int many = 0;
            for (Singer voice : placed()) {
                if (!down && voice.held) {
                    fade(voice);
                    many++;
                }
            }
            return many;
        }

        int tick(int ticks) {
            if (time > 50000 - ticks) {
                return -3;
            }
            remember();
            for (int i = 0; i < ticks; i++) {
                one();
            }
            return sum();
        }

        static int up(int number, int divisor) {
            return number / divisor + (number % divisor > 0 ? 1 : 0);
        }

        void one() {
            time++;
            for (Singer note : notes) {
                int[] shape = SHAPES[note.part];
                int top = note.strength * 8;
                int rest = top * shape[2] / 1000;
                if (note.state.equals("rise")) {
                    note.level += up(top, shape[0]);
                    if (note.level >= top) {
                        note.level = top;
                        note.state = "sink";
                    }
                } else if (note.state.equals("sink")) {
                    note.level -= up(top - rest, shape[1]);
                    if (note.level <= rest) {
                        note.level = rest;
                        note.state = "hold";
                    }
                } else if (note.state.equals("fade") || note.state.equals("leave")) {
                    note.level -= up(note.base, note.state.equals("fade") ? shape[3] : 3);
                    if (note.level <= 0) {
                        note.level = 0;
                        note.state = "gone";
                    }
                }
            }
            for (Singer note : in("door")) {
                Singer voice = voice(note.part, note.pitch);
                if (voice != null) {
                    note.state = "gone";
                    again(voice, note.strength);
                } else if (placed().size() < places) {
                    note.state = "rise";
                    note.age = ++clock;
                } else {
                    return;
                }
            }
        }

        int set(int what, int value) {
            int[] before = {places, rule, bound};
            int[][] ranges = {{1, 8}, {0, 2}, {100, 8000}};
            if (bad(what, 0, 2) || bad(value, ranges[what][0], ranges[what][1])) {
                return -1;
            }
            remember();
            places = what == 0 ? value : places;
            rule = what == 1 ? value : rule;
            bound = what == 2 ? value : bound;
            return before[what];
        }

        int sum() {
            int sum = 0;
            for (Singer note : notes) {
                sum += note.sounds() ? note.level : 0;
            }
            return sum;
        }

        int heard(Singer note) {
            int sum = sum();
            return sum <= bound ? note.level : (int) ((long) note.level * bound / sum);
        }

        int[] heards() {
            int[] parts = new int[4];
            for (Singer note : notes) {
                parts[note.part] += note.sounds() ? heard(note) : 0;
            }
            return parts;
        }

        int noteOf(Singer note, int what) {
            switch (what) {
                case 0: return note.part;
                case 1: return note.pitch;
                case 2: return note.strength;
                case 3: return List.of("door", "rise", "sink", "hold", "fade", "leave", "gone").indexOf(note.state);
                case 4: return note.sounds() ? note.level : -4;
                case 5: return note.sounds() ? heard(note) : -4;
                case 6: return note.held ? 1 : 0;
                default: return or4(in("door").indexOf(note));
            }
        }

        int partOf(int part, int what) {
            int[] numbers = new int[5];
            for (Singer note : notes) {
                if (note.part == part) {
                    numbers[0] += note.hasPlace() ? 1 : 0;
                    numbers[1] += note.state.equals("leave") ? 1 : 0;
                    numbers[2] += note.sounds() ? note.level : 0;
                    numbers[3] += note.sounds() ? heard(note) : 0;
                    numbers[4] += note.state.equals("door") ? 1 : 0;
                }
            }
            return numbers[what];
        }

        int count(int what) {
            int[] parts = heards();
            int[] numbers = {notes.size(), placed().size(), Math.max(0, places - placed().size()), in("leave").size(),
                in("door").size(), time, sum(), parts[0] + parts[1] + parts[2] + parts[3], down ? 1 : 0, sent, anew, past.size(),
                text.length(), -1, -1, -1, -1, -1, -1, -1, places, rule, bound};
            return what < 0 || what >= numbers.length ? -1 : numbers[what];
        }

        int peak(int ticks) {
            Model then = copy();
            int most = 0;
            for (int i = 0; i < ticks; i++) {
                then.one();
                most = Math.max(most, then.sum());
            }
            return most;
        }

        /** Worked out by dividing, not by letting ticks go by. */
        int silence() {
            int most = 0;
            for (Singer note : notes) {
                if (!note.sounds()) {
                    continue;
                }
                boolean falls = note.state.equals("fade") || note.state.equals("leave");
                int base = falls ? note.base : note.level;
                int step = up(base, note.state.equals("leave") ? 3 : SHAPES[note.part][3]);
                most = Math.max(most, step == 0 ? 1 : up(note.level, step));
            }
            return most;
        }

        int freeIn() {
            Model then = copy();
            for (int i = 0; i <= 200; i++) {
                if (then.placed().size() < then.places) {
                    return i;
                }
                then.one();
            }
            return -4;
        }

        int undo() {
            if (past.isEmpty()) {
                return -2;
            }
            Model before = past.remove(past.size() - 1);
            notes = before.notes;
            time = before.time;
            down = before.down;
            places = before.places;
            rule = before.rule;
            bound = before.bound;
            sent = before.sent;
            anew = before.anew;
            clock = before.clock;
            desk = before.desk;
            return past.size();
        }

        int type(char sign) {
            if (text.length() == 60) {
                return -3;
            }
            text += sign;
            return text.length();
        }

        int clear() {
            int before = text.length();
            text = "";
            return before;
        }

        int fault(int what) {
            Parse parse = new Parse(text, new int[4]);
            parse.whole();
            return parse.reason == 0 ? -4 : what == 0 ? parse.at : parse.reason;
        }

        int adopt() {
            if (fault(1) != -4) {
                return -2;
            }
            remember();
            desk = text;
            return text.replaceAll("[^satb]", "").length();
        }

        int make(int[] parts) {
            return new Parse(desk, parts).whole();
        }

        int alone(int what) {
            int many = 0;
            int best = -4;
            int most = 0;
            for (int part = 3; part >= 0; part--) {
                int[] parts = new int[4];
                parts[part] = heards()[part];
                int made = make(parts);
                many += made > 0 ? 1 : 0;
                if (made > 0 && made >= most) {
                    most = made;
                    best = part;
                }
            }
            return what == 0 ? many : best;
        }
    }

    /** Reads and works out a formula by descent; it stops at the first fault. */
    private static final class Parse {
        final String text;
        final int[] parts;
        int at;
        int reason;

        Parse(String text, int[] parts) {
            this.text = text;
            this.parts = parts;
        }

        char sign() {
            return at < text.length() ? text.charAt(at) : 0;
        }

        int stop() {
            if (reason == 0) {
                reason = at < text.length() ? 1 : 3;
            }
            return 0;
        }

        int whole() {
            int value = formula(0);
            if (reason == 0 && at < text.length()) {
                stop();
            }
            return value;
        }

        int formula(int depth) {
            int value = term(depth);
            while (reason == 0 && (sign() == '+' || sign() == '^')) {
                boolean plus = sign() == '+';
                at++;
                int other = term(depth);
                value = plus ? Math.min(1000000, value + other) : Math.max(value, other);
            }
            return value;
        }

        int term(int depth) {
            int value = thing(depth);
            if (reason == 0 && sign() == '*') {
                at++;
                if (!Character.isDigit(sign())) {
                    return stop();
                }
                value = Math.min(1000000, value * (sign() - '0'));
                at++;
            }
            return value;
        }

        int thing(int depth) {
            int part = sign() == 0 ? -1 : "satb".indexOf(sign());
            if (part >= 0) {
                at++;
                return parts[part];
            }
            if (sign() != '(') {
                return stop();
            }
            if (depth == 6) {
                reason = 2;
                return 0;
            }
            at++;
            int value = formula(depth + 1);
            if (reason != 0 || sign() != ')') {
                return stop();
            }
            at++;
            return value;
        }
    }
}
