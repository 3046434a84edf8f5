import java.util.NoSuchElementException;

/** What is not seen in the middle of a scene: see ../shared/DOC.md, whose terms the comments use. */
public final class MiddleUnseen {
    public static final int NONE = -1;

    private static final int MOST_SCENES = 6;
    private static final int MOST_TASKS = 6;
    private static final int MOST_LAWS = 4;
    private static final int MOST_LOOKERS = 14;
    private static final int MOST_IMAGES = 3;
    private static final int MOST_BYTES = 400;
    private static final int MOST_TASK_BYTES = 200;
    private static final int TENTHS = 300;
    private static final int WIDTH = 40;
    private static final int HEIGHT = 30;
    private static final int COLOURS = 8;
    private static final int ASKINGS = 3;
    /** A place is one number, 100 X and Y, as eye() tells it; NONE is nowhere. */
    private static final int ROW = 100;
    private static final int FAR_OFF = 99;
    private static final int ON_IT = 2;

    private static final int FAULT_SIGN = 1;
    private static final int FAULT_NUMBER = 2;
    private static final int FAULT_TOO_MANY = 3;

    private static final int STATE_SEEN = 1;
    private static final int STATE_FORGOTTEN = 2;
    private static final int STATE_UNSURE = 4;

    private final Tape tape = new Tape();
    private final Scene[] scenes = new Scene[MOST_SCENES];
    private int sceneCount = 0;
    private final Task[] tasks = new Task[MOST_TASKS];
    private int taskCount = 0;
    private final Law[] laws = new Law[MOST_LAWS];
    private int lawCount = 0;
    private final LawReader lawReader = new LawReader(tape);
    private final Hall hall = new Hall();
    private final Hall[] images = new Hall[MOST_IMAGES];
    private int imageCount = 0;
    private final View view = new View();
    private final Sight sight = new Sight(view);
    /** States already worked out, since odds and the like ask for the same ones again; NONE: not yet. */
    private final int[] states = new int[(MOST_LOOKERS + MOST_SCENES * MOST_TASKS) * MOST_LAWS];
    private final long[] oddsRow = new long[MOST_LAWS];

    public MiddleUnseen() {
        for (int k = 0; k < MOST_SCENES; k++) {
            scenes[k] = new Scene();
        }
        for (int k = 0; k < MOST_TASKS; k++) {
            tasks[k] = new Task();
        }
        for (int k = 0; k < MOST_LAWS; k++) {
            laws[k] = new Law();
        }
        for (int k = 0; k < MOST_IMAGES; k++) {
            images[k] = new Hall();
        }
        for (int k = 0; k < states.length; k++) {
            states[k] = NONE;
        }
    }

    // ---- texts

    public int feed(int a, int b, int c, int d, int e) {
        if (!tape.hasRoom()) {
            return NONE;
        }
        tape.put(a);
        tape.put(b);
        tape.put(c);
        tape.put(d);
        tape.put(e);
        return tape.held;
    }

    public int scene(int n) throws IllegalArgumentException {
        require(n >= 0 && n <= tape.held);
        tape.open(n);
        if (sceneCount == MOST_SCENES) {
            return NONE;
        }
        Scene scene = scenes[sceneCount];
        scene.read(tape);
        if (tape.fault != 0) {
            return tape.fault - 10;
        }
        scene.settle();
        return sceneCount++;
    }

    public int task(int n) throws IllegalArgumentException {
        require(n >= 0 && n <= tape.held && n <= MOST_TASK_BYTES);
        tape.open(n);
        if (taskCount == MOST_TASKS) {
            return NONE;
        }
        tasks[taskCount].read(tape);
        return tape.fault != 0 ? tape.fault - 10 : taskCount++;
    }

    public int law(int n) throws IllegalArgumentException {
        require(n >= 0 && n <= tape.held);
        tape.open(n);
        if (lawCount == MOST_LAWS) {
            return NONE;
        }
        lawReader.read(laws[lawCount]);
        return tape.fault != 0 ? tape.fault - 10 : lawCount++;
    }

    public int fault() {
        return tape.faultPlace;
    }

    // ---- scenes and tasks

    public int told(int scene, int what) throws NoSuchElementException, IllegalArgumentException {
        requireScene(scene);
        require(what >= 0 && what <= 5);
        Scene it = scenes[scene];
        switch (what) {
            case 0: return it.things;
            case 1: return it.ways;
            case 2: return it.throwCount;
            case 3: return it.end;
            case 4: return it.oddOne;
            default: return it.turner;
        }
    }

    public int thing(int scene, int thing, int tenth, int what) throws NoSuchElementException, IllegalArgumentException {
        requireScene(scene);
        Scene it = scenes[scene];
        require(thing >= 0 && thing < it.things && isTenth(tenth) && what >= 0 && what <= 5);
        int place = it.placeAt(thing, tenth);
        switch (what) {
            case 0: return place == NONE ? NONE : place / ROW;
            case 1: return place == NONE ? NONE : place % ROW;
            case 2: return it.tintAt(thing, tenth);
            case 3: return it.paceAt(thing, tenth);
            case 4: return it.sizes[thing];
            default: return it.turned(thing, tenth) ? 1 : 0;
        }
    }

    public int kept(int task, int what) throws IndexOutOfBoundsException, IllegalArgumentException {
        requireTask(task);
        require(what >= 0 && what <= 4);
        Task it = tasks[task];
        switch (what) {
            case 0: return it.keeps;
            case 1: return it.drops;
            case 2: return it.tallied;
            case 3: return it.room;
            default: return it.watch;
        }
    }

    public int throwsOf(int scene, int task) throws NoSuchElementException, IndexOutOfBoundsException {
        requireScene(scene);
        requireTask(task);
        return scenes[scene].throwsFrom(tasks[task].tallied);
    }

    // ---- lookers and their eyes

    public int looker(int scene, int task, boolean knows) throws NoSuchElementException, IndexOutOfBoundsException {
        requireScene(scene);
        requireTask(task);
        int looker = hall.addLooker(scene, task, knows);
        if (looker != NONE) {
            forgetStates(looker);
        }
        return looker;
    }

    public int eyes(int looker, int tenth, int x, int y) throws IllegalArgumentException {
        requireLooker(looker);
        require(isTenth(tenth) && x >= 0 && x < WIDTH && y >= 0 && y < HEIGHT);
        forgetStates(looker);
        return hall.addEyes(looker, tenth, x * ROW + y);
    }

    public int blink(int looker, int from, int to) throws IllegalArgumentException {
        requireLooker(looker);
        require(isTenth(from) && isTenth(to) && from <= to);
        forgetStates(looker);
        return hall.addBlink(looker, from, to);
    }

    public int eye(int looker, int tenth) throws IllegalArgumentException {
        requireLooker(looker);
        require(isTenth(tenth));
        lookAs(looker, tenth);
        return view.eyes[tenth];
    }

    public int on(int looker, int near) throws IllegalArgumentException {
        requireLooker(looker);
        require(near >= 0 && near <= 40);
        lookAs(looker, sceneFor(looker).end);
        return view.tenthsWithin(near);
    }

    public int name(int looker, int thing, int tenth, int which) throws IllegalArgumentException {
        requireLooker(looker);
        require(thing >= 0 && thing < sceneFor(looker).things && isTenth(tenth));
        require(which >= 0 && which < View.NAMES);
        lookAs(looker, tenth);
        view.regard(thing, tenth);
        return view.names[which];
    }

    // ---- what gets in

    public int gets(int law, int looker, int thing, int tenth, int what) throws IndexOutOfBoundsException, IllegalArgumentException {
        requireLaw(law);
        requireLooker(looker);
        require(thing >= 0 && thing < sceneFor(looker).things && isTenth(tenth) && what >= 0 && what <= 2);
        lookAs(looker, tenth);
        if (what == 1) {
            return sight.sumTo(laws[law], thing, tenth);
        }
        view.regard(thing, tenth);
        return what == 0 ? sight.getsNow(laws[law]) : sight.lineNow(laws[law]);
    }

    public int seen(int law, int looker, int thing) throws IndexOutOfBoundsException, IllegalArgumentException {
        requireLaw(law);
        requireLooker(looker);
        require(thing >= 0 && thing < sceneFor(looker).things);
        lookAs(looker, sceneFor(looker).end);
        return sight.firstSeen(laws[law], thing);
    }

    public boolean says(int law, int looker, int asking) throws IndexOutOfBoundsException, IllegalArgumentException {
        requireLaw(law);
        requireLooker(looker);
        require(isAsking(asking));
        return isYes(stateOf(law, looker), asking);
    }

    public int miss(int law, int looker, int far) throws IndexOutOfBoundsException, IllegalArgumentException {
        requireLaw(law);
        requireLooker(looker);
        require(far >= 1 && far <= FAR_OFF);
        int state = stateOf(law, looker);
        if (isYes(state, 0)) {
            return hall.isKnowing(looker) ? 7 : NONE;
        }
        if ((state & STATE_SEEN) != 0) {
            return (state & STATE_FORGOTTEN) != 0 ? 3 : 4;
        }
        lookAs(looker, sceneFor(looker).end);
        return view.blindness(far);
    }

    public int drawn(int law, int looker, int noise, int seed) throws IndexOutOfBoundsException, IllegalArgumentException {
        requireLaw(law);
        requireLooker(looker);
        require(noise >= 0 && noise <= 50);
        Scene scene = sceneFor(looker);
        if (scene.oddOne == NONE) {
            return NONE;
        }
        lookAs(looker, scene.end);
        sight.drawBy(noise, seed);
        return sight.firstSeen(laws[law], scene.oddOne);
    }

    public int change(int law, int looker) throws IndexOutOfBoundsException, IllegalArgumentException {
        requireLaw(law);
        requireLooker(looker);
        return changeSeen(law, looker);
    }

    public int yet(int law) throws IndexOutOfBoundsException {
        requireLaw(law);
        int bits = 0;
        for (int k = 0; k < hall.lookers; k++) {
            if ((stateOf(law, k) & STATE_SEEN) == 0 && wasOnIt(k)) {
                bits |= 1 << k;
            }
        }
        return bits;
    }

    public int least(int law, int looker, int what) throws IndexOutOfBoundsException, IllegalArgumentException {
        requireLaw(law);
        requireLooker(looker);
        require(what >= 0 && what <= 2);
        Scene scene = sceneFor(looker);
        if (scene.oddOne == NONE) {
            return NONE;
        }
        lookAs(looker, scene.end);
        int most = what == 1 ? 20 : 9;
        for (int by = what == 1 ? 0 : 1; by <= most; by++) {
            view.bend(what, by);
            if (sight.firstSeen(laws[law], scene.oddOne) != NONE) {
                return by;
            }
        }
        return NONE;
    }

    // ---- what lookers answered

    public int answer(int looker, int asking, boolean yes) throws IllegalArgumentException {
        requireLooker(looker);
        require(isAsking(asking));
        int before = hall.reply(looker, asking);
        hall.replies[looker * ASKINGS + asking] = yes ? 1 : 0;
        return before;
    }

    public int counted(int looker, int throwsOf) throws IllegalArgumentException {
        requireLooker(looker);
        require(throwsOf >= 0 && throwsOf <= 999);
        int before = hall.tallies[looker];
        hall.tallies[looker] = throwsOf;
        return before;
    }

    public int sure(int looker, int v) throws IllegalArgumentException {
        requireLooker(looker);
        require(v >= 0 && v <= 100);
        int before = hall.hopes[looker];
        hall.hopes[looker] = v;
        return before;
    }

    public int share(int scene, int task, int asking, int what) throws NoSuchElementException, IndexOutOfBoundsException, IllegalArgumentException {
        requireScene(scene);
        requireTask(task);
        require(isAsking(asking) && what >= 0 && what <= 3);
        int asked = hall.askedOf(scene, task, asking);
        int yes = hall.yesOf(scene, task, asking);
        int reach = 1 + root(yes);
        switch (what) {
            case 0: return asked;
            case 1: return yes;
            case 2: return Math.max(0, yes - reach);
            default: return Math.min(asked, yes + reach);
        }
    }

    public int guessed(int scene, int other, int task, int asking) throws NoSuchElementException, IndexOutOfBoundsException, IllegalArgumentException {
        requireScene(scene);
        requireScene(other);
        requireTask(task);
        require(isAsking(asking));
        int asked = hall.askedOf(scene, task, asking);
        int yes = hall.yesOf(scene, task, asking);
        int otherAsked = hall.askedOf(other, task, asking);
        int otherYes = hall.yesOf(other, task, asking);
        int by = asked * (otherAsked - otherYes);
        if (by == 0) {
            return NONE;
        }
        return Math.max(0, 1000 * (yes * otherAsked - otherYes * asked) / by);
    }

    public int apart(int scene, int task, int other, int otherTask, int asking, int what) throws NoSuchElementException, IndexOutOfBoundsException, IllegalArgumentException {
        requireScene(scene);
        requireScene(other);
        requireTask(task);
        requireTask(otherTask);
        require(isAsking(asking) && what >= 0 && what <= 2);
        int asked = hall.askedOf(scene, task, asking);
        int yes = hall.yesOf(scene, task, asking);
        int otherAsked = hall.askedOf(other, otherTask, asking);
        int otherYes = hall.yesOf(other, otherTask, asking);
        switch (what) {
            case 0: return yes * otherAsked - otherYes * asked;
            case 1: return waysOf(asked, yes, otherAsked, otherYes);
            default: return choose(asked + otherAsked, asked);
        }
    }

    public int gone(int scene, int task, int what) throws NoSuchElementException, IndexOutOfBoundsException, IllegalArgumentException {
        requireScene(scene);
        requireTask(task);
        require(what >= 0 && what <= 2);
        int found = 0;
        for (int k = 0; k < hall.lookers; k++) {
            if (hall.repliedAll(k, scene, task) && (what == 2 || hall.isLostTo(k, what == 0))) {
                found++;
            }
        }
        return found;
    }

    public int lost(int looker) throws IllegalArgumentException {
        requireLooker(looker);
        return lostBy(looker);
    }

    public int cost(int scene, int task, int other) throws NoSuchElementException, IndexOutOfBoundsException {
        requireScene(scene);
        requireTask(task);
        requireTask(other);
        if (tasks[task].tallied == NONE || tasks[other].tallied == NONE) {
            return 0;
        }
        return lostTogether(scene, task) * hall.talliedOf(scene, other)
                - lostTogether(scene, other) * hall.talliedOf(scene, task);
    }

    public int off(int scene, int task, int what) throws NoSuchElementException, IndexOutOfBoundsException, IllegalArgumentException {
        requireScene(scene);
        requireTask(task);
        require(what == 0 || what == 1);
        int off = 0;
        int bold = 0;
        for (int k = 0; k < hall.lookers; k++) {
            if (hall.inGroup(k, scene, task, 0) && hall.hopes[k] != NONE) {
                int yes = hall.reply(k, 0);
                off += hall.hopes[k] - 100 * yes;
                bold += hall.hopes[k] >= 50 && yes == 0 ? 1 : 0;
            }
        }
        return what == 0 ? off : bold;
    }

    // ---- odds of laws

    public int weigh(int law, int v) throws IndexOutOfBoundsException, IllegalArgumentException {
        requireLaw(law);
        require(v >= 1 && v <= 9);
        int before = hall.weights[law];
        hall.weights[law] = v;
        return before;
    }

    public int wrong(int v) throws IllegalArgumentException {
        require(v >= 1 && v <= 8);
        int before = hall.slip;
        hall.slip = v;
        return before;
    }

    public long odds(int law) throws IndexOutOfBoundsException {
        requireLaw(law);
        return oddsOf(law);
    }

    public int best() {
        int best = NONE;
        long most = 0;
        for (int k = 0; k < lawCount; k++) {
            long odds = oddsOf(k);
            if (best == NONE || odds > most) {
                best = k;
                most = odds;
            }
        }
        return best;
    }

    public int fits(int by) throws IllegalArgumentException {
        require(isFit(by));
        return fitting(by);
    }

    public int next() {
        if (lawCount == 0) {
            return NONE;
        }
        for (int k = 0; k < lawCount; k++) {
            oddsRow[k] = oddsOf(k);
        }
        int best = NONE;
        long most = 0;
        for (int s = 0; s < sceneCount; s++) {
            for (int t = 0; t < taskCount && scenes[s].oddOne != NONE; t++) {
                long lesser = lesserOdds(s, t);
                if (best == NONE || lesser > most) {
                    best = 10 * s + t;
                    most = lesser;
                }
            }
        }
        return best;
    }

    public int knowing(int law, int what) throws IndexOutOfBoundsException, IllegalArgumentException {
        requireLaw(law);
        require(what >= 0 && what <= 2);
        int found = 0;
        for (int k = 0; k < hall.lookers; k++) {
            if (hall.isKnowing(k)
                    && (what == 0 || isYes(stateOf(law, k), 0))
                    && (what < 2 || changeSeen(law, k) == NONE)) {
                found++;
            }
        }
        return found;
    }

    public int crossing(int scene, int task, int asking, int by) throws NoSuchElementException, IndexOutOfBoundsException, IllegalArgumentException {
        requireScene(scene);
        requireTask(task);
        require(isAsking(asking) && isFit(by));
        int fitting = fitting(by);
        int may = 0;
        for (int k = 0; k < lawCount; k++) {
            if ((fitting >> k & 1) != 0) {
                may |= isYes(stateOfNew(k, scene, task), asking) ? 2 : 1;
            }
        }
        return may;
    }

    // ---- images and counts

    public int image() {
        if (imageCount == MOST_IMAGES) {
            return NONE;
        }
        images[imageCount].copyFrom(hall);
        imageCount++;
        return imageCount;
    }

    public int restore() {
        if (imageCount == 0) {
            return NONE;
        }
        imageCount--;
        hall.copyFrom(images[imageCount]);
        for (int k = 0; k < MOST_LOOKERS; k++) {
            forgetStates(k);
        }
        return imageCount;
    }

    public int count(int what) {
        switch (what) {
            case 0: return sceneCount;
            case 1: return taskCount;
            case 2: return lawCount;
            case 3: return hall.lookers;
            case 4: return hall.eyeRows;
            case 5: return hall.blinks;
            case 6: return imageCount;
            case 7: return tape.held;
            case 8: return hall.slip;
            default: return NONE;
        }
    }

    // ---- what arguments must be

    private static void require(boolean fine) {
        if (!fine) {
            throw new IllegalArgumentException();
        }
    }

    private void requireScene(int scene) {
        if (scene < 0 || scene >= sceneCount) {
            throw new NoSuchElementException();
        }
    }

    private void requireTask(int task) {
        if (task < 0 || task >= taskCount) {
            throw new IndexOutOfBoundsException();
        }
    }

    private void requireLaw(int law) {
        if (law < 0 || law >= lawCount) {
            throw new IndexOutOfBoundsException();
        }
    }

    private void requireLooker(int looker) {
        if (looker < 0 || looker >= hall.lookers) {
            throw new IllegalArgumentException();
        }
    }

    private static boolean isTenth(int tenth) {
        return tenth >= 0 && tenth < TENTHS;
    }

    private static boolean isAsking(int asking) {
        return asking >= 0 && asking < ASKINGS;
    }

    private static boolean isFit(int by) {
        return by >= 0 && by <= MOST_LOOKERS;
    }

    // ---- how lookers see

    private Scene sceneFor(int looker) {
        return scenes[hall.sceneOf[looker]];
    }

    private void lookAs(int looker, int upTo) {
        view.open(sceneFor(looker), tasks[hall.taskOf[looker]], hall.isKnowing(looker), upTo);
        view.heed(hall, looker, upTo);
        sight.plain();
    }

    private int stateOf(int law, int looker) {
        int cell = looker * MOST_LAWS + law;
        if (states[cell] == NONE) {
            lookAs(looker, sceneFor(looker).end);
            states[cell] = sight.judge(laws[law]);
        }
        return states[cell];
    }

    private int stateOfNew(int law, int scene, int task) {
        int cell = (MOST_LOOKERS + scene * MOST_TASKS + task) * MOST_LAWS + law;
        if (states[cell] == NONE) {
            view.open(scenes[scene], tasks[task], false, scenes[scene].end);
            sight.plain();
            states[cell] = sight.judge(laws[law]);
        }
        return states[cell];
    }

    private void forgetStates(int looker) {
        for (int law = 0; law < MOST_LAWS; law++) {
            states[looker * MOST_LAWS + law] = NONE;
        }
    }

    private static boolean isYes(int state, int asking) {
        switch (asking) {
            case 0: return state == STATE_SEEN;
            case 1: return (state & (STATE_SEEN | STATE_UNSURE)) == STATE_SEEN;
            default: return (state & STATE_SEEN) != 0;
        }
    }

    private int changeSeen(int law, int looker) {
        Scene scene = sceneFor(looker);
        if (scene.turner == NONE) {
            return NONE;
        }
        lookAs(looker, scene.end);
        sight.heedChangesAlone();
        return sight.firstSeen(laws[law], scene.turner);
    }

    private boolean wasOnIt(int looker) {
        lookAs(looker, sceneFor(looker).end);
        return view.tenthsWithin(ON_IT) > 0;
    }

    // ---- what the answers come to

    private int lostBy(int looker) {
        int tallied = tasks[hall.taskOf[looker]].tallied;
        if (tallied == NONE || hall.tallies[looker] == NONE) {
            return NONE;
        }
        return Math.abs(sceneFor(looker).throwsFrom(tallied) - hall.tallies[looker]);
    }

    private int lostTogether(int scene, int task) {
        int together = 0;
        for (int k = 0; k < hall.lookers; k++) {
            if (hall.hasTallied(k, scene, task)) {
                together += lostBy(k);
            }
        }
        return together;
    }

    private static int root(int square) {
        int root = 0;
        while ((root + 1) * (root + 1) <= square && root < MOST_LOOKERS) {
            root++;
        }
        return root;
    }

    private static int choose(int of, int some) {
        if (some < 0 || some > of) {
            return 0;
        }
        long ways = 1;
        for (int k = 1; k <= some; k++) {
            ways = ways * (of - some + k) / k;
        }
        return (int) ways;
    }

    private static int waysOf(int asked, int yes, int otherAsked, int otherYes) {
        int allYes = yes + otherYes;
        int allNo = asked + otherAsked - allYes;
        int ways = 0;
        for (int k = yes; k <= allYes && k <= asked; k++) {
            ways += choose(allYes, k) * choose(allNo, asked - k);
        }
        return ways;
    }

    /** Whether a looker's answer to asking 0 tells anything of laws. */
    private boolean isHeard(int looker) {
        return sceneFor(looker).oddOne != NONE && !hall.isKnowing(looker) && hall.reply(looker, 0) != NONE;
    }

    private long oddsOf(int law) {
        long odds = hall.weights[law];
        for (int k = 0; k < hall.lookers; k++) {
            if (isHeard(k)) {
                boolean agrees = isYes(stateOf(law, k), 0) == (hall.reply(k, 0) == 1);
                odds *= agrees ? 16 - hall.slip : hall.slip;
            }
        }
        return odds;
    }

    private int fitting(int by) {
        int bits = 0;
        for (int law = 0; law < lawCount; law++) {
            int parting = 0;
            for (int k = 0; k < hall.lookers; k++) {
                if (isHeard(k) && isYes(stateOf(law, k), 0) != (hall.reply(k, 0) == 1)) {
                    parting++;
                }
            }
            bits |= parting <= by ? 1 << law : 0;
        }
        return bits;
    }

    private long lesserOdds(int scene, int task) {
        long yes = 0;
        long no = 0;
        for (int k = 0; k < lawCount; k++) {
            if (isYes(stateOfNew(k, scene, task), 0)) {
                yes += oddsRow[k];
            } else {
                no += oddsRow[k];
            }
        }
        return Math.min(yes, no);
    }

    /** The bytes that were fed, and the reading of a text from them, up to its first fault. */
    private static final class Tape {
        private static final int FEED = 20;
        private static final int SATURATED = 1000000;

        final int[] bytes = new int[MOST_BYTES];
        int held = 0;
        int end = 0;
        int place = 0;
        /** The first byte of the number, word or sign that was taken last. */
        int token = 0;
        int fault = 0;
        int faultPlace = NONE;

        boolean hasRoom() {
            return held + FEED <= MOST_BYTES;
        }

        void put(int number) {
            for (int shift = 24; shift >= 0 && held < MOST_BYTES; shift -= 8) {
                bytes[held] = number >>> shift & 255;
                held++;
            }
        }

        void open(int n) {
            end = n;
            held = 0;
            place = 0;
            token = 0;
            fault = 0;
            faultPlace = NONE;
        }

        /** Only the first fault counts: what is read behind it is not read. */
        void blame(int kind, int at) {
            if (fault == 0) {
                fault = kind;
                faultPlace = at;
            }
        }

        private void skipBlanks() {
            while (place < end && bytes[place] == ' ') {
                place++;
            }
        }

        private boolean isAt(int spot, char from, char to) {
            return spot < end && bytes[spot] >= from && bytes[spot] <= to;
        }

        /** Which word begins the next clause; NONE at the end and at a fault. */
        int clauseWord(String words, int clauses, int most) {
            int word = takeWord(words);
            if (fault != 0 || word == NONE && place == end) {
                return NONE;
            }
            if (word == NONE) {
                blame(FAULT_SIGN, place);
            } else if (clauses >= most) {
                blame(FAULT_TOO_MANY, token);
            }
            return fault == 0 ? word : NONE;
        }

        /** Which word of a list (each with a blank behind it) stands next; NONE, taking nothing: none of them. */
        int takeWord(String words) {
            if (fault != 0) {
                return NONE;
            }
            skipBlanks();
            int stop = place;
            while (stop < end && isAt(stop, 'a', 'z')) {
                stop++;
            }
            int which = wordIn(words, stop - place);
            if (which != NONE) {
                token = place;
                place = stop;
            }
            return which;
        }

        /** Letters that agree with a word of the list are counted in alike, which is NONE once one does not. */
        private int wordIn(String words, int length) {
            int which = 0;
            int alike = 0;
            for (int k = 0; k < words.length(); k++) {
                char sign = words.charAt(k);
                if (sign != ' ') {
                    alike = alike >= 0 && alike < length && bytes[place + alike] == sign ? alike + 1 : NONE;
                } else if (alike == length) {
                    return which;
                } else {
                    which++;
                    alike = 0;
                }
            }
            return NONE;
        }

        /** Which of some signs stands next; NONE, taking nothing: none of them. */
        int takeSign(String signs) {
            if (fault != 0) {
                return NONE;
            }
            skipBlanks();
            for (int k = 0; k < signs.length() && place < end; k++) {
                if (bytes[place] == signs.charAt(k)) {
                    token = place;
                    place++;
                    return k;
                }
            }
            return NONE;
        }

        int demandSign(String signs) {
            int which = takeSign(signs);
            if (which == NONE) {
                blame(FAULT_SIGN, place);
            }
            return which;
        }

        boolean isNumberNext() {
            skipBlanks();
            return fault == 0 && isAt(place, '0', '9');
        }

        /** The number that must stand next; the least that it may be, if there is a fault. */
        int demandNumber(int least, int most) {
            if (!isNumberNext()) {
                blame(FAULT_SIGN, place);
                return least;
            }
            token = place;
            int number = 0;
            while (place < end && isAt(place, '0', '9')) {
                number = Math.min(SATURATED, number * 10 + bytes[place] - '0');
                place++;
            }
            if (number < least || number > most) {
                blame(FAULT_NUMBER, token);
                return least;
            }
            return number;
        }
    }

    /** A scene, and tables of where its things are and which colour they have in each tenth. */
    private static final class Scene {
        private static final int MOST_CLAUSES = 24;
        private static final int MOST_THINGS = 8;
        private static final String WORDS = "thing way throw odd turn ";
        private static final int WAY = 7;
        private static final int THROW = 3;
        private static final int TURN = 3;

        int things = 0;
        final int[] ownTints = new int[MOST_THINGS];
        final int[] sizes = new int[MOST_THINGS];
        int ways = 0;
        /** Thing, tenth, X, Y, tenth, X, Y. */
        final int[] wayRows = new int[MOST_CLAUSES * WAY];
        int throwCount = 0;
        /** From, to, tenth. */
        final int[] throwRows = new int[MOST_CLAUSES * THROW];
        int turns = 0;
        /** Thing, tenth, colour. */
        final int[] turnRows = new int[MOST_CLAUSES * TURN];
        int oddOne = NONE;
        int turner = NONE;
        int end = 0;
        /** Made when the text stands, as long as its things need: TENTHS for each. */
        int[] places = new int[0];
        int[] tints = new int[0];

        void read(Tape tape) {
            things = 0;
            ways = 0;
            throwCount = 0;
            turns = 0;
            oddOne = NONE;
            turner = NONE;
            end = 0;
            // one round more than clauses: it finds the one too many
            for (int k = 0; k <= MOST_CLAUSES; k++) {
                int word = tape.clauseWord(WORDS, k, MOST_CLAUSES);
                if (word == NONE) {
                    return;
                }
                readClause(word, tape);
                tape.demandSign(";");
            }
        }

        private void readClause(int word, Tape tape) {
            switch (word) {
                case 0:
                    readThing(tape);
                    break;
                case 1:
                    readWay(tape);
                    break;
                case 2:
                    readThrow(tape);
                    break;
                case 3:
                    oddOne = tape.demandNumber(0, things - 1);
                    break;
                default:
                    readTurn(tape);
                    break;
            }
        }

        private void readThing(Tape tape) {
            if (things == MOST_THINGS) {
                tape.blame(FAULT_TOO_MANY, tape.token);
                return;
            }
            ownTints[things] = tape.demandNumber(0, COLOURS - 1);
            sizes[things] = tape.demandNumber(1, 9);
            things++;
        }

        private void readWay(Tape tape) {
            int row = ways * WAY;
            wayRows[row] = tape.demandNumber(0, things - 1);
            wayRows[row + 1] = tape.demandNumber(0, TENTHS - 1);
            wayRows[row + 2] = tape.demandNumber(0, WIDTH - 1);
            wayRows[row + 3] = tape.demandNumber(0, HEIGHT - 1);
            wayRows[row + 4] = tape.demandNumber(wayRows[row + 1], TENTHS - 1);
            wayRows[row + 5] = tape.demandNumber(0, WIDTH - 1);
            wayRows[row + 6] = tape.demandNumber(0, HEIGHT - 1);
            end = Math.max(end, wayRows[row + 4]);
            ways++;
        }

        private void readThrow(Tape tape) {
            int row = throwCount * THROW;
            throwRows[row] = tape.demandNumber(0, things - 1);
            throwRows[row + 1] = tape.demandNumber(0, things - 1);
            if (throwRows[row + 1] == throwRows[row]) {
                tape.blame(FAULT_NUMBER, tape.token);
            }
            throwRows[row + 2] = tape.demandNumber(0, TENTHS - 1);
            throwCount++;
        }

        private void readTurn(Tape tape) {
            int row = turns * TURN;
            turnRows[row] = tape.demandNumber(0, things - 1);
            turnRows[row + 1] = tape.demandNumber(0, TENTHS - 1);
            turnRows[row + 2] = tape.demandNumber(0, COLOURS - 1);
            if (turner == NONE) {
                turner = turnRows[row];
            }
            turns++;
        }

        void settle() {
            places = new int[things * TENTHS];
            tints = new int[things * TENTHS];
            for (int k = 0; k < things * TENTHS; k++) {
                places[k] = NONE;
                tints[k] = NONE;
            }
            for (int k = 0; k < ways; k++) {
                settleWay(k * WAY);
            }
            for (int k = 0; k < turns; k++) {
                int row = k * TURN;
                tints[turnRows[row] * TENTHS + turnRows[row + 1]] = turnRows[row + 2];
            }
            for (int thing = 0; thing < things; thing++) {
                settleTints(thing);
            }
        }

        private void settleWay(int row) {
            int first = wayRows[row + 1];
            int all = wayRows[row + 4] - first;
            for (int since = 0; since <= all; since++) {
                int x = wayRows[row + 2] + onTheWay(wayRows[row + 5] - wayRows[row + 2], since, all);
                int y = wayRows[row + 3] + onTheWay(wayRows[row + 6] - wayRows[row + 3], since, all);
                places[wayRows[row] * TENTHS + first + since] = x * ROW + y;
            }
        }

        private static int onTheWay(int farther, int since, int all) {
            return all == 0 ? 0 : farther * since / all;
        }

        private void settleTints(int thing) {
            int tint = ownTints[thing];
            for (int k = thing * TENTHS; k < (thing + 1) * TENTHS; k++) {
                if (tints[k] == NONE) {
                    tints[k] = tint;
                }
                tint = tints[k];
            }
        }

        private boolean isCell(int thing, int tenth) {
            return thing >= 0 && thing < things && tenth >= 0 && tenth < TENTHS;
        }

        int placeAt(int thing, int tenth) {
            return isCell(thing, tenth) ? places[thing * TENTHS + tenth] : NONE;
        }

        int tintAt(int thing, int tenth) {
            return isCell(thing, tenth) ? tints[thing * TENTHS + tenth] : NONE;
        }

        int paceAt(int thing, int tenth) {
            int now = placeAt(thing, tenth);
            int before = placeAt(thing, tenth - 1);
            return now == NONE || before == NONE ? 0 : View.farther(now, before, 0);
        }

        /** Whether a turn of a thing came in a tenth or the nine ahead of it. */
        boolean turned(int thing, int tenth) {
            for (int k = 0; k < turns; k++) {
                int since = tenth - turnRows[k * TURN + 1];
                if (turnRows[k * TURN] == thing && since >= 0 && since <= 9) {
                    return true;
                }
            }
            return false;
        }

        /** Things that are there in a tenth and of one of the colours. */
        int crowd(int tenth, int colours) {
            int found = 0;
            for (int cell = tenth; cell >= 0 && cell < places.length; cell += TENTHS) {
                if (places[cell] != NONE) {
                    found += colours >> tints[cell] & 1;
                }
            }
            return found;
        }

        boolean isThrownFrom(int row, int colour) {
            return tints[throwRows[row] * TENTHS + throwRows[row + 2]] == colour;
        }

        int throwsFrom(int colour) {
            int found = 0;
            for (int k = 0; k < throwCount; k++) {
                found += isThrownFrom(k * THROW, colour) ? 1 : 0;
            }
            return found;
        }
    }

    private static final class Task {
        private static final int MOST_CLAUSES = 16;
        private static final String WORDS = "keep drop count room watch ";

        int keeps = 0;
        int drops = 0;
        int tallied = NONE;
        int room = 4;
        int watch = 0;

        void read(Tape tape) {
            keeps = 0;
            drops = 0;
            tallied = NONE;
            room = 4;
            watch = 0;
            for (int k = 0; k <= MOST_CLAUSES; k++) {
                int word = tape.clauseWord(WORDS, k, MOST_CLAUSES);
                if (word == NONE) {
                    return;
                }
                put(word, tape.demandNumber(0, word < 3 ? COLOURS - 1 : 9));
                tape.demandSign(";");
            }
        }

        private void put(int word, int number) {
            switch (word) {
                case 0:
                    keeps |= 1 << number;
                    break;
                case 1:
                    drops |= 1 << number;
                    break;
                case 2:
                    tallied = number;
                    break;
                case 3:
                    room = number;
                    break;
                default:
                    watch = number;
                    break;
            }
        }
    }

    /**
     * A law as code that is worked with a stack: numbers as they are, names from NAME downwards, and
     * what joins the two values that came last.
     */
    private static final class Law {
        static final int MOST_CLAUSES = 16;
        static final int KIND_GETS = 0;
        static final int KIND_LINE = 1;
        static final int KIND_KEEPS = 2;
        static final int KIND_SURE = 3;

        static final int NAME = -1;
        static final int LAST_NAME = -11;
        static final int PLUS = -20;
        static final int MINUS = -21;
        static final int TIMES = -22;
        static final int BY = -23;
        static final int LEAST = -24;
        static final int MOST = -25;
        static final int LESS = -26;
        static final int MORE = -27;
        static final int SAME = -28;
        static final int AND = -29;
        static final int OR = -30;
        static final int NOT = -31;

        final int[] code = new int[MOST_BYTES];
        int length = 0;
        int clauses = 0;
        final int[] kinds = new int[MOST_CLAUSES];
        /** Where the code of a clause's value begins, where that of its condition does, and where that ends. */
        final int[] starts = new int[MOST_CLAUSES];
        final int[] conditions = new int[MOST_CLAUSES];
        final int[] ends = new int[MOST_CLAUSES];

        void emit(int what) {
            if (length < code.length) {
                code[length] = what;
                length++;
            }
        }
    }

    /** Reads a law's text; open is how many of ( [ and not stand open. */
    private static final class LawReader {
        private static final String WORDS = "gets line keeps sure ";
        private static final String NAMES = "like drop near size pace full odd watch change knows tenth ";
        private static final int MOST_OPEN = 6;

        private final Tape tape;
        private Law law = new Law();

        LawReader(Tape tape) {
            this.tape = tape;
        }

        void read(Law into) {
            law = into;
            law.length = 0;
            law.clauses = 0;
            for (int k = 0; k <= Law.MOST_CLAUSES; k++) {
                int word = tape.clauseWord(WORDS, k, Law.MOST_CLAUSES);
                if (word == NONE) {
                    return;
                }
                readClause(word, k);
                tape.demandSign(";");
            }
        }

        private void readClause(int kind, int clause) {
            law.kinds[clause] = kind;
            law.starts[clause] = law.length;
            readSum(0);
            law.conditions[clause] = law.length;
            if (tape.takeWord("if ") == 0) {
                readEither(0);
            }
            law.ends[clause] = law.length;
            law.clauses = clause + 1;
        }

        private void readSum(int open) {
            readProduct(open);
            for (int k = 0; k < MOST_BYTES; k++) {
                int sign = tape.takeSign("+-");
                if (sign == NONE) {
                    return;
                }
                readProduct(open);
                law.emit(Law.PLUS - sign);
            }
        }

        private void readProduct(int open) {
            readUnit(open);
            for (int k = 0; k < MOST_BYTES; k++) {
                int sign = tape.takeSign("*/");
                if (sign == NONE) {
                    return;
                }
                readUnit(open);
                law.emit(Law.TIMES - sign);
            }
        }

        private void readUnit(int open) {
            if (tape.isNumberNext()) {
                law.emit(tape.demandNumber(0, 9999));
                return;
            }
            int which = tape.takeWord(NAMES);
            if (which != NONE) {
                law.emit(Law.NAME - which);
                return;
            }
            int pair = tape.takeWord("least most ");
            if (tape.demandSign("(") == NONE || isTooDeep(open)) {
                return;
            }
            readSum(open + 1);
            if (pair != NONE) {
                tape.demandSign(",");
                readSum(open + 1);
                law.emit(Law.LEAST - pair);
            }
            tape.demandSign(")");
        }

        private void readEither(int open) {
            readBoth(open);
            for (int k = 0; k < MOST_BYTES && tape.takeWord("or ") == 0; k++) {
                readBoth(open);
                law.emit(Law.OR);
            }
        }

        private void readBoth(int open) {
            readOne(open);
            for (int k = 0; k < MOST_BYTES && tape.takeWord("and ") == 0; k++) {
                readOne(open);
                law.emit(Law.AND);
            }
        }

        private void readOne(int open) {
            if (tape.takeWord("not ") == 0) {
                if (!isTooDeep(open)) {
                    readOne(open + 1);
                    law.emit(Law.NOT);
                }
            } else if (tape.takeSign("[") == 0) {
                if (!isTooDeep(open)) {
                    readEither(open + 1);
                    tape.demandSign("]");
                }
            } else {
                readSum(open);
                int sign = tape.demandSign("<>=");
                readSum(open);
                law.emit(Law.LESS - Math.max(0, sign));
            }
        }

        private boolean isTooDeep(int open) {
            if (open >= MOST_OPEN) {
                tape.blame(FAULT_TOO_MANY, tape.token);
                return true;
            }
            return false;
        }
    }

    /** All that an image holds: lookers, their eyes, blinks and answers, weights of laws, and WRONG. */
    private static final class Hall {
        private static final int MOST_EYES = 60;
        private static final int MOST_BLINKS = 40;

        int lookers = 0;
        final int[] sceneOf = new int[MOST_LOOKERS];
        final int[] taskOf = new int[MOST_LOOKERS];
        /** Who know of it, as bits. */
        int knowers = 0;
        final int[] replies = new int[MOST_LOOKERS * ASKINGS];
        final int[] tallies = new int[MOST_LOOKERS];
        final int[] hopes = new int[MOST_LOOKERS];
        int eyeRows = 0;
        final int[] eyeLookers = new int[MOST_EYES];
        final int[] eyeTenths = new int[MOST_EYES];
        final int[] eyePlaces = new int[MOST_EYES];
        int blinks = 0;
        final int[] blinkLookers = new int[MOST_BLINKS];
        final int[] blinkStarts = new int[MOST_BLINKS];
        final int[] blinkEnds = new int[MOST_BLINKS];
        final int[] weights = new int[MOST_LAWS];
        int slip = 4;

        Hall() {
            for (int k = 0; k < MOST_LAWS; k++) {
                weights[k] = 1;
            }
        }

        int addLooker(int scene, int task, boolean knowing) {
            if (lookers == MOST_LOOKERS) {
                return NONE;
            }
            sceneOf[lookers] = scene;
            taskOf[lookers] = task;
            knowers = knowers & ~(1 << lookers) | (knowing ? 1 << lookers : 0);
            for (int asking = 0; asking < ASKINGS; asking++) {
                replies[lookers * ASKINGS + asking] = NONE;
            }
            tallies[lookers] = NONE;
            hopes[lookers] = NONE;
            return lookers++;
        }

        int addEyes(int looker, int tenth, int place) {
            if (eyeRows == MOST_EYES) {
                return NONE;
            }
            eyeLookers[eyeRows] = looker;
            eyeTenths[eyeRows] = tenth;
            eyePlaces[eyeRows] = place;
            eyeRows++;
            return eyeRows;
        }

        int addBlink(int looker, int from, int to) {
            if (blinks == MOST_BLINKS) {
                return NONE;
            }
            blinkLookers[blinks] = looker;
            blinkStarts[blinks] = from;
            blinkEnds[blinks] = to;
            blinks++;
            return blinks;
        }

        boolean isKnowing(int looker) {
            return (knowers >> looker & 1) != 0;
        }

        int reply(int looker, int asking) {
            return replies[looker * ASKINGS + asking];
        }

        boolean inGroup(int looker, int scene, int task, int asking) {
            return sceneOf[looker] == scene && taskOf[looker] == task && !isKnowing(looker)
                    && reply(looker, asking) != NONE;
        }

        boolean repliedAll(int looker, int scene, int task) {
            return inGroup(looker, scene, task, 0) && inGroup(looker, scene, task, 1)
                    && inGroup(looker, scene, task, 2);
        }

        /** Of one who replied to all: GONE, or NEVER. */
        boolean isLostTo(int looker, boolean gone) {
            if (reply(looker, 0) == 1) {
                return false;
            }
            return gone ? reply(looker, 2) == 1 : reply(looker, 1) == 0 && reply(looker, 2) == 0;
        }

        int askedOf(int scene, int task, int asking) {
            int found = 0;
            for (int k = 0; k < lookers; k++) {
                found += inGroup(k, scene, task, asking) ? 1 : 0;
            }
            return found;
        }

        int yesOf(int scene, int task, int asking) {
            int found = 0;
            for (int k = 0; k < lookers; k++) {
                found += inGroup(k, scene, task, asking) ? reply(k, asking) : 0;
            }
            return found;
        }

        boolean hasTallied(int looker, int scene, int task) {
            return sceneOf[looker] == scene && taskOf[looker] == task && tallies[looker] != NONE;
        }

        int talliedOf(int scene, int task) {
            int found = 0;
            for (int k = 0; k < lookers; k++) {
                found += hasTallied(k, scene, task) ? 1 : 0;
            }
            return found;
        }

        void copyFrom(Hall other) {
            lookers = other.lookers;
            System.arraycopy(other.sceneOf, 0, sceneOf, 0, MOST_LOOKERS);
            System.arraycopy(other.taskOf, 0, taskOf, 0, MOST_LOOKERS);
            knowers = other.knowers;
            System.arraycopy(other.replies, 0, replies, 0, MOST_LOOKERS * ASKINGS);
            System.arraycopy(other.tallies, 0, tallies, 0, MOST_LOOKERS);
            System.arraycopy(other.hopes, 0, hopes, 0, MOST_LOOKERS);
            eyeRows = other.eyeRows;
            System.arraycopy(other.eyeLookers, 0, eyeLookers, 0, MOST_EYES);
            System.arraycopy(other.eyeTenths, 0, eyeTenths, 0, MOST_EYES);
            System.arraycopy(other.eyePlaces, 0, eyePlaces, 0, MOST_EYES);
            blinks = other.blinks;
            System.arraycopy(other.blinkLookers, 0, blinkLookers, 0, MOST_BLINKS);
            System.arraycopy(other.blinkStarts, 0, blinkStarts, 0, MOST_BLINKS);
            System.arraycopy(other.blinkEnds, 0, blinkEnds, 0, MOST_BLINKS);
            System.arraycopy(other.weights, 0, weights, 0, MOST_LAWS);
            slip = other.slip;
        }
    }

    /** A scene as one who has a task looks at it: where the eyes are, and what names are. */
    private static final class View {
        static final int NAMES = 11;
        private static final int MIDDLE = 20 * ROW + 15;

        Scene scene = new Scene();
        private Task task = new Task();
        private boolean knows = false;
        /** Places of the eyes by tenths, as far as it was opened; NONE: shut. */
        final int[] eyes = new int[TENTHS];
        private final int[] latest = new int[TENTHS];
        final int[] names = new int[NAMES];
        /** Whether the thing that was regarded last is there, and the eyes are open. */
        boolean here = false;
        /** The size instead of the odd one's own, by how much it is nearer, and what divides its pace. */
        private int size = NONE;
        private int nearer = 0;
        private int slower = 1;

        void open(Scene seen, Task kept, boolean knowing, int upTo) {
            scene = seen;
            task = kept;
            knows = knowing;
            bend(NONE, 0);
            follow(upTo);
        }

        /** As least() has it: 0 another size, 1 nearer, 2 slower; NONE as it is. */
        void bend(int what, int by) {
            size = what == 0 ? by : NONE;
            nearer = what == 1 ? by : 0;
            slower = what == 2 && by > 0 ? by : 1;
        }

        private void clearLatest(int upTo) {
            for (int t = 0; t <= upTo && t < TENTHS; t++) {
                latest[t] = NONE;
            }
        }

        /** Who told of no eyes looks at the thing that had the latest throw that counts. */
        private void follow(int upTo) {
            clearLatest(upTo);
            for (int k = 0; k < scene.throwCount && task.tallied != NONE; k++) {
                int row = k * Scene.THROW;
                if (scene.isThrownFrom(row, task.tallied)) {
                    latest[scene.throwRows[row + 2]] = scene.throwRows[row + 1];
                }
            }
            int held = NONE;
            for (int t = 0; t <= upTo && t < TENTHS; t++) {
                held = latest[t] == NONE ? held : latest[t];
                int place = scene.placeAt(held, t);
                eyes[t] = place == NONE ? MIDDLE : place;
            }
        }

        /** Where the eyes of a looker were told to be, and when they are shut. */
        void heed(Hall hall, int looker, int upTo) {
            clearLatest(upTo);
            for (int k = 0; k < hall.eyeRows; k++) {
                if (hall.eyeLookers[k] == looker) {
                    latest[hall.eyeTenths[k]] = hall.eyePlaces[k];
                }
            }
            int held = NONE;
            for (int t = 0; t <= upTo && t < TENTHS; t++) {
                held = latest[t] == NONE ? held : latest[t];
                eyes[t] = held == NONE ? eyes[t] : held;
            }
            for (int k = 0; k < hall.blinks; k++) {
                if (hall.blinkLookers[k] == looker) {
                    shut(hall.blinkStarts[k], Math.min(upTo, hall.blinkEnds[k]));
                }
            }
        }

        private void shut(int from, int to) {
            for (int t = from; t <= to && t < TENTHS; t++) {
                eyes[t] = NONE;
            }
        }

        /** The greater of how far X and Y of two places are, X being nearer by some, but not beyond. */
        static int farther(int place, int other, int nearer) {
            int x = place / ROW - other / ROW;
            int y = place % ROW - other % ROW;
            x = (x < 0 ? -x : x) - nearer;
            y = y < 0 ? -y : y;
            return x > y ? x : y;
        }

        /** Puts all names of a thing in a tenth. */
        void regard(int thing, int tenth) {
            int place = scene.placeAt(thing, tenth);
            int before = scene.placeAt(thing, tenth - 1);
            int tint = scene.tintAt(thing, tenth);
            int eye = eyes[tenth];
            int full = scene.crowd(tenth, task.keeps) - task.room;
            here = place != NONE && eye != NONE;
            names[0] = task.keeps >> tint & 1;
            names[1] = task.drops >> tint & 1;
            names[2] = here ? farther(place, eye, nearer) : FAR_OFF;
            names[3] = size == NONE ? scene.sizes[thing] : size;
            names[4] = place == NONE || before == NONE ? 0 : farther(place, before, 0) / slower;
            names[5] = full > 0 ? full : 0;
            names[6] = thing == scene.oddOne ? 1 : 0;
            names[7] = task.watch;
            names[8] = scene.turned(thing, tenth) ? 1 : 0;
            names[9] = knows ? 1 : 0;
            names[10] = tenth;
        }

        private int nearInTenth(int thing, int tenth) {
            int place = scene.placeAt(thing, tenth);
            return place == NONE || eyes[tenth] == NONE ? FAR_OFF : farther(place, eyes[tenth], 0);
        }

        /** In how many tenths the odd one is within a distance, which is below FAR_OFF. */
        int tenthsWithin(int near) {
            int found = 0;
            for (int t = 0; t <= scene.end; t++) {
                found += nearInTenth(scene.oddOne, t) <= near ? 1 : 0;
            }
            return found;
        }

        private boolean isDropped() {
            for (int t = 0; t <= scene.end; t++) {
                if (scene.placeAt(scene.oddOne, t) != NONE
                        && (task.drops >> scene.tintAt(scene.oddOne, t) & 1) != 0) {
                    return true;
                }
            }
            return false;
        }

        /** Why the odd one was not seen, as miss() tells it. */
        int blindness(int far) {
            if (scene.oddOne == NONE) {
                return 0;
            }
            if (isDropped()) {
                return 5;
            }
            if (tenthsWithin(far - 1) == 0) {
                return 6;
            }
            return tenthsWithin(ON_IT) == 0 ? 1 : 2;
        }
    }

    /** What gets in by a law, in the view that is open. */
    private static final class Sight {
        private static final int STACK = 64;

        private final View view;
        private final int[] stack = new int[STACK];
        private int sum = 0;
        /** How much noise is drawn; NONE: no draws. */
        private int noise = NONE;
        private int seed = 0;
        private boolean changesAlone = false;

        Sight(View view) {
            this.view = view;
        }

        void plain() {
            noise = NONE;
            changesAlone = false;
        }

        void drawBy(int most, int from) {
            noise = most;
            seed = from;
        }

        void heedChangesAlone() {
            changesAlone = true;
        }

        /** The value of some code; of none it is 1, so that a clause without a condition holds. */
        private int work(Law law, int from, int to) {
            int depth = 0;
            for (int k = from; k < to; k++) {
                int what = law.code[k];
                if (what >= Law.LAST_NAME && depth < STACK) {
                    stack[depth] = what >= 0 ? what : view.names[Law.NAME - what];
                    depth++;
                } else if (what == Law.NOT && depth > 0) {
                    stack[depth - 1] = stack[depth - 1] == 0 ? 1 : 0;
                } else if (depth > 1) {
                    depth--;
                    stack[depth - 1] = joined(what, stack[depth - 1], stack[depth]);
                }
            }
            return depth == 0 ? 1 : stack[0];
        }

        private static int joined(int what, int a, int b) {
            switch (what) {
                case Law.PLUS: return a + b;
                case Law.MINUS: return a - b;
                case Law.TIMES: return a * b;
                case Law.BY: return b == 0 ? 0 : a / b;
                case Law.LEAST: return a < b ? a : b;
                case Law.MOST: return a > b ? a : b;
                case Law.LESS: return a < b ? 1 : 0;
                case Law.MORE: return a > b ? 1 : 0;
                case Law.SAME: return a == b ? 1 : 0;
                case Law.AND: return a & b;
                default: return a | b;
            }
        }

        int getsNow(Law law) {
            int together = 0;
            for (int k = 0; k < law.clauses && view.here; k++) {
                if (law.kinds[k] == Law.KIND_GETS && work(law, law.conditions[k], law.ends[k]) != 0) {
                    together += work(law, law.starts[k], law.conditions[k]);
                }
            }
            return Math.max(0, Math.min(1000, together));
        }

        int lineNow(Law law) {
            return lastOf(law, Law.KIND_LINE, 1, 100000, 100);
        }

        /** The value, within bounds, of the last clause of a kind that holds. */
        private int lastOf(Law law, int kind, int low, int high, int without) {
            for (int k = law.clauses - 1; k >= 0; k--) {
                if (law.kinds[k] == kind && work(law, law.conditions[k], law.ends[k]) != 0) {
                    return Math.max(low, Math.min(high, work(law, law.starts[k], law.conditions[k])));
                }
            }
            return without;
        }

        private int drawNow() {
            if (noise == NONE || !view.here) {
                return 0;
            }
            seed = seed * 1103515245 + 12345;
            return (seed >>> 16 & 32767) % (noise + 1);
        }

        int sumTo(Law law, int thing, int upTo) {
            sum = 0;
            addFrom(law, thing, 0, upTo);
            return sum;
        }

        private void addFrom(Law law, int thing, int from, int upTo) {
            for (int t = from; t <= upTo; t++) {
                view.regard(thing, t);
                sum += getsNow(law);
            }
        }

        /** The first tenth in which the sum reaches the line; NONE. */
        int firstSeen(Law law, int thing) {
            sum = 0;
            for (int t = 0; t <= view.scene.end; t++) {
                if (!changesAlone || view.scene.turned(thing, t)) {
                    view.regard(thing, t);
                    sum += getsNow(law) + drawNow();
                    // no line is below 1: without this it would be worked for nothing
                    if (sum > 0 && sum >= lastOf(law, Law.KIND_LINE, 1, 100000, 100)) {
                        return t;
                    }
                }
            }
            return NONE;
        }

        /** The state of the odd one, as bits; 0: not seen. */
        int judge(Law law) {
            int thing = view.scene.oddOne;
            int end = view.scene.end;
            int first = thing == NONE ? NONE : firstSeen(law, thing);
            if (first == NONE) {
                return 0;
            }
            addFrom(law, thing, first + 1, end);
            view.regard(thing, end);
            int state = STATE_SEEN;
            if (end - first > lastOf(law, Law.KIND_KEEPS, 0, 999, 999)) {
                state |= STATE_FORGOTTEN;
            }
            if (sum < lastOf(law, Law.KIND_SURE, 0, 100000, 0)) {
                state |= STATE_UNSURE;
            }
            return state;
        }
    }
}
