import java.util.ArrayList;
import java.util.Arrays;
import java.util.List;
import java.util.NoSuchElementException;

/**
 * Promise by promise: what is refused and by which exception, of several that of the throws told first, what is
 * full, and that a refused call changes nothing but what the document says it changes.
 */
public final class RefusalsTest {
    private static final Class<?> SCENE = NoSuchElementException.class;
    private static final Class<?> INDEX = IndexOutOfBoundsException.class;
    private static final Class<?> BAD = IllegalArgumentException.class;
    private static final int LEAST = Integer.MIN_VALUE;
    private static final int MOST = Integer.MAX_VALUE;

    /** A call that is refused. */
    private interface Call {
        long on(MiddleUnseen x);
    }

    public static void main(String[] args) {
        texts();
        scenesAndTasks();
        lookers();
        names();
        laws();
        lawsOfLookers();
        answers();
        groups();
        pairs();
        odds();
        severalOfOneCall();
        nothingThereYet();
        fullTape();
        fullScenes();
        fullTasks();
        fullLaws();
        fullLookers();
        fullEyes();
        fullBlinks();
        fullImages();
        noImage();
        faultsLeaveNothingBehind();
        refusedAnswersAreNotHeld();
        Due.end("RefusalsTest");
    }

    /** Two scenes (the second without an odd one), two tasks, two laws, three lookers, some of everything. */
    private static MiddleUnseen stage() {
        MiddleUnseen x = emptied();
        Due.feed(x, "abc");
        return x;
    }

    /** The same with an empty tape. */
    private static MiddleUnseen emptied() {
        MiddleUnseen x = new MiddleUnseen();
        Due.scene(x, "thing 0 3;thing 1 2;way 0 0 5 5 9 5 5;way 1 2 20 15 9 22 15;odd 1;throw 0 1 3;turn 1 5 3;");
        Due.scene(x, "thing 0 3;way 0 0 5 5 9 5 5;");
        Due.task(x, "keep 0;drop 1;count 0;room 0;");
        Due.task(x, "watch 2;count 1;");
        Due.law(x, "gets size*10 if near<5;line 60;keeps 3;sure 20;");
        Due.law(x, "gets 5;line 9;");
        x.looker(0, 0, false);
        x.looker(0, 1, true);
        x.looker(1, 0, false);
        x.eyes(0, 4, 7, 8);
        x.blink(1, 3, 3);
        for (int k = 0; k < 3; k++) {
            x.answer(k, 0, k == 1);
            x.counted(k, k);
            x.sure(k, 10 * k);
        }
        x.weigh(1, 3);
        x.wrong(2);
        x.image();
        x.eyes(0, 6, 1, 1);
        Due.law(x, "gets 1 if");
        return x;
    }

    /** All that can be asked without a change, within some 200 calls. */
    private static List<Long> all(MiddleUnseen x) {
        List<Long> told = new ArrayList<>();
        told.add((long) x.fault());
        for (int k = 0; k < 9; k++) {
            told.add((long) x.count(k));
        }
        for (int s = 0; s < Math.min(2, x.count(0)); s++) {
            for (int what = 0; what < 6; what++) {
                told.add((long) x.told(s, what));
            }
            for (int t = 0; t < Math.min(2, x.count(1)); t++) {
                told.add((long) x.throwsOf(s, t));
                told.add((long) x.off(s, t, 0));
                told.add((long) x.cost(s, t, 1 - t));
                for (int what = 0; what < 2; what++) {
                    told.add((long) x.share(s, t, 0, what));
                }
            }
        }
        for (int t = 0; t < Math.min(2, x.count(1)); t++) {
            for (int what = 0; what < 5; what++) {
                told.add((long) x.kept(t, what));
            }
        }
        for (int l = 0; l < Math.min(3, x.count(3)); l++) {
            told.add((long) x.lost(l));
            for (int tenth = 0; tenth < 8; tenth++) {
                told.add((long) x.eye(l, tenth));
            }
            for (int law = 0; law < Math.min(2, x.count(2)); law++) {
                told.add((long) x.seen(law, l, 0));
                told.add((long) x.miss(law, l, 9));
                told.add((long) x.drawn(law, l, 9, 9));
                told.add((long) x.change(law, l));
            }
        }
        for (int law = 0; law < Math.min(2, x.count(2)); law++) {
            told.add(x.odds(law));
            told.add((long) x.yet(law));
            told.add((long) x.knowing(law, 1));
        }
        told.add((long) x.best());
        told.add((long) x.next());
        told.add((long) x.fits(0));
        return told;
    }

    /** On a new object: the call throws just that, and all is as it was, in the image, too. */
    private static void refused(String what, Class<?> due, Call call) {
        MiddleUnseen x = stage();
        List<Long> before = all(x);
        Class<?> got = null;
        try {
            call.on(x);
        } catch (RuntimeException e) {
            got = e.getClass();
        }
        Due.is(what + " threw " + got + ": as due", got == due, true);
        Due.is("all as it was behind " + what, all(x).equals(before), true);
        Due.is("the image is there behind " + what, x.restore(), 0);
        Due.is("rows of the image behind " + what, x.count(4), 1);
    }

    /** A number on both sides of what is allowed, and the two farthest. */
    private interface NumberCall {
        long on(MiddleUnseen x, int n);
    }

    private static void beyond(String what, Class<?> due, int low, int high, NumberCall call) {
        for (int n : new int[] {low - 1, high + 1, LEAST, MOST}) {
            refused(what + " of " + n, due, x -> call.on(x, n));
        }
        for (int n : new int[] {low, high}) {
            MiddleUnseen x = stage();
            boolean stood = true;
            try {
                call.on(x, n);
            } catch (RuntimeException e) {
                stood = false;
            }
            Due.is(what + " of " + n + " stands", stood, true);
        }
    }

    // ---- each promise

    private static void texts() {
        beyond("scene", BAD, 0, 20, (x, n) -> x.scene(n));
        beyond("task", BAD, 0, 20, (x, n) -> x.task(n));
        beyond("law", BAD, 0, 20, (x, n) -> x.law(n));
        MiddleUnseen x = new MiddleUnseen();
        Due.feed(x, " ".repeat(400));
        Due.illegal("task(201) of 400", () -> x.task(201));
        Due.illegal("scene(401) of 400", () -> x.scene(401));
        Due.illegal("law(401) of 400", () -> x.law(401));
        Due.is("the tape stays", x.count(7), 400);
        Due.is("scene(400)", x.scene(400), 0);
        Due.illegal("scene(1) of an empty tape", () -> x.scene(1));
        Due.is("scene(0) of an empty tape", x.scene(0), 1);
    }

    private static void scenesAndTasks() {
        beyond("told's scene", SCENE, 0, 1, (x, n) -> x.told(n, 0));
        beyond("told's what", BAD, 0, 5, (x, n) -> x.told(0, n));
        beyond("thing's scene", SCENE, 0, 1, (x, n) -> x.thing(n, 0, 0, 0));
        beyond("thing's thing", BAD, 0, 1, (x, n) -> x.thing(0, n, 0, 0));
        beyond("thing's thing of scene 1", BAD, 0, 0, (x, n) -> x.thing(1, n, 0, 0));
        beyond("thing's tenth", BAD, 0, 299, (x, n) -> x.thing(0, 0, n, 0));
        beyond("thing's what", BAD, 0, 5, (x, n) -> x.thing(0, 0, 0, n));
        beyond("kept's task", INDEX, 0, 1, (x, n) -> x.kept(n, 0));
        beyond("kept's what", BAD, 0, 4, (x, n) -> x.kept(0, n));
        beyond("throwsOf's scene", SCENE, 0, 1, (x, n) -> x.throwsOf(n, 0));
        beyond("throwsOf's task", INDEX, 0, 1, (x, n) -> x.throwsOf(0, n));
    }

    private static void lookers() {
        beyond("looker's scene", SCENE, 0, 1, (x, n) -> x.looker(n, 0, false));
        beyond("looker's task", INDEX, 0, 1, (x, n) -> x.looker(0, n, true));
        beyond("eyes' looker", BAD, 0, 2, (x, n) -> x.eyes(n, 0, 0, 0));
        beyond("eyes' tenth", BAD, 0, 299, (x, n) -> x.eyes(0, n, 0, 0));
        beyond("eyes' X", BAD, 0, 39, (x, n) -> x.eyes(0, 0, n, 0));
        beyond("eyes' Y", BAD, 0, 29, (x, n) -> x.eyes(0, 0, 0, n));
        beyond("blink's looker", BAD, 0, 2, (x, n) -> x.blink(n, 0, 0));
        beyond("blink's first tenth", BAD, 0, 299, (x, n) -> x.blink(0, n, 299));
        beyond("blink's second tenth", BAD, 0, 299, (x, n) -> x.blink(0, 0, n));
        refused("a blink turned round", BAD, x -> x.blink(0, 8, 7));
        Due.is("a blink of one tenth", stage().blink(0, 8, 8), 2);
        beyond("eye's looker", BAD, 0, 2, (x, n) -> x.eye(n, 0));
        beyond("eye's tenth", BAD, 0, 299, (x, n) -> x.eye(0, n));
        beyond("on's looker", BAD, 0, 2, (x, n) -> x.on(n, 0));
        beyond("on's number", BAD, 0, 40, (x, n) -> x.on(0, n));
    }

    private static void names() {
        beyond("name's looker", BAD, 0, 2, (x, n) -> x.name(n, 0, 0, 0));
        beyond("name's thing", BAD, 0, 1, (x, n) -> x.name(0, n, 0, 0));
        beyond("name's thing of scene 1", BAD, 0, 0, (x, n) -> x.name(2, n, 0, 0));
        beyond("name's tenth", BAD, 0, 299, (x, n) -> x.name(0, 0, n, 0));
        beyond("name's which", BAD, 0, 10, (x, n) -> x.name(0, 0, 0, n));
    }

    private static void laws() {
        beyond("gets' law", INDEX, 0, 1, (x, n) -> x.gets(n, 0, 0, 0, 0));
        beyond("gets' looker", BAD, 0, 2, (x, n) -> x.gets(0, n, 0, 0, 0));
        beyond("gets' thing", BAD, 0, 1, (x, n) -> x.gets(0, 0, n, 0, 0));
        beyond("gets' thing of scene 1", BAD, 0, 0, (x, n) -> x.gets(0, 2, n, 0, 0));
        beyond("gets' tenth", BAD, 0, 299, (x, n) -> x.gets(0, 0, 0, n, 0));
        beyond("gets' what", BAD, 0, 2, (x, n) -> x.gets(0, 0, 0, 0, n));
        beyond("seen's law", INDEX, 0, 1, (x, n) -> x.seen(n, 0, 0));
        beyond("seen's looker", BAD, 0, 2, (x, n) -> x.seen(0, n, 0));
        beyond("seen's thing", BAD, 0, 1, (x, n) -> x.seen(0, 0, n));
        beyond("seen's thing of scene 1", BAD, 0, 0, (x, n) -> x.seen(0, 2, n));
        beyond("says' law", INDEX, 0, 1, (x, n) -> x.says(n, 0, 0) ? 1 : 0);
        beyond("says' looker", BAD, 0, 2, (x, n) -> x.says(0, n, 0) ? 1 : 0);
        beyond("says' asking", BAD, 0, 2, (x, n) -> x.says(0, 0, n) ? 1 : 0);
    }

    private static void lawsOfLookers() {
        beyond("miss' law", INDEX, 0, 1, (x, n) -> x.miss(n, 0, 1));
        beyond("miss' looker", BAD, 0, 2, (x, n) -> x.miss(0, n, 1));
        beyond("miss' number", BAD, 1, 99, (x, n) -> x.miss(0, 0, n));
        beyond("drawn's law", INDEX, 0, 1, (x, n) -> x.drawn(n, 0, 0, 0));
        beyond("drawn's looker", BAD, 0, 2, (x, n) -> x.drawn(0, n, 0, 0));
        beyond("drawn's noise", BAD, 0, 50, (x, n) -> x.drawn(0, 0, n, 0));
        beyond("drawn's noise without an odd one", BAD, 0, 50, (x, n) -> x.drawn(0, 2, n, 0));
        beyond("change's law", INDEX, 0, 1, (x, n) -> x.change(n, 0));
        beyond("change's looker", BAD, 0, 2, (x, n) -> x.change(0, n));
        beyond("yet's law", INDEX, 0, 1, (x, n) -> x.yet(n));
        beyond("least's law", INDEX, 0, 1, (x, n) -> x.least(n, 0, 0));
        beyond("least's looker", BAD, 0, 2, (x, n) -> x.least(0, n, 0));
        beyond("least's what", BAD, 0, 2, (x, n) -> x.least(0, 0, n));
        beyond("least's what without an odd one", BAD, 0, 2, (x, n) -> x.least(0, 2, n));
    }

    private static void answers() {
        beyond("answer's looker", BAD, 0, 2, (x, n) -> x.answer(n, 0, true));
        beyond("answer's asking", BAD, 0, 2, (x, n) -> x.answer(0, n, true));
        beyond("counted's looker", BAD, 0, 2, (x, n) -> x.counted(n, 0));
        beyond("counted's number", BAD, 0, 999, (x, n) -> x.counted(0, n));
        beyond("sure's looker", BAD, 0, 2, (x, n) -> x.sure(n, 0));
        beyond("sure's number", BAD, 0, 100, (x, n) -> x.sure(0, n));
        beyond("lost's looker", BAD, 0, 2, (x, n) -> x.lost(n));
    }

    private static void groups() {
        beyond("share's scene", SCENE, 0, 1, (x, n) -> x.share(n, 0, 0, 0));
        beyond("share's task", INDEX, 0, 1, (x, n) -> x.share(0, n, 0, 0));
        beyond("share's asking", BAD, 0, 2, (x, n) -> x.share(0, 0, n, 0));
        beyond("share's what", BAD, 0, 3, (x, n) -> x.share(0, 0, 0, n));
        beyond("gone's scene", SCENE, 0, 1, (x, n) -> x.gone(n, 0, 0));
        beyond("gone's task", INDEX, 0, 1, (x, n) -> x.gone(0, n, 0));
        beyond("gone's what", BAD, 0, 2, (x, n) -> x.gone(0, 0, n));
        beyond("off's scene", SCENE, 0, 1, (x, n) -> x.off(n, 0, 0));
        beyond("off's task", INDEX, 0, 1, (x, n) -> x.off(0, n, 0));
        beyond("off's what", BAD, 0, 1, (x, n) -> x.off(0, 0, n));
    }

    private static void pairs() {
        beyond("guessed's scene", SCENE, 0, 1, (x, n) -> x.guessed(n, 0, 0, 0));
        beyond("guessed's other scene", SCENE, 0, 1, (x, n) -> x.guessed(0, n, 0, 0));
        beyond("guessed's task", INDEX, 0, 1, (x, n) -> x.guessed(0, 0, n, 0));
        beyond("guessed's asking", BAD, 0, 2, (x, n) -> x.guessed(0, 0, 0, n));
        beyond("apart's scene", SCENE, 0, 1, (x, n) -> x.apart(n, 0, 0, 0, 0, 0));
        beyond("apart's task", INDEX, 0, 1, (x, n) -> x.apart(0, n, 0, 0, 0, 0));
        beyond("apart's other scene", SCENE, 0, 1, (x, n) -> x.apart(0, 0, n, 0, 0, 0));
        beyond("apart's other task", INDEX, 0, 1, (x, n) -> x.apart(0, 0, 0, n, 0, 0));
        beyond("apart's asking", BAD, 0, 2, (x, n) -> x.apart(0, 0, 0, 0, n, 0));
        beyond("apart's what", BAD, 0, 2, (x, n) -> x.apart(0, 0, 0, 0, 0, n));
        beyond("cost's scene", SCENE, 0, 1, (x, n) -> x.cost(n, 0, 0));
        beyond("cost's task", INDEX, 0, 1, (x, n) -> x.cost(0, n, 0));
        beyond("cost's other task", INDEX, 0, 1, (x, n) -> x.cost(0, 0, n));
    }

    private static void odds() {
        beyond("weigh's law", INDEX, 0, 1, (x, n) -> x.weigh(n, 1));
        beyond("weigh's weight", BAD, 1, 9, (x, n) -> x.weigh(0, n));
        beyond("wrong", BAD, 1, 8, (x, n) -> x.wrong(n));
        beyond("odds' law", INDEX, 0, 1, (x, n) -> x.odds(n));
        beyond("fits", BAD, 0, 14, (x, n) -> x.fits(n));
        beyond("knowing's law", INDEX, 0, 1, (x, n) -> x.knowing(n, 0));
        beyond("knowing's what", BAD, 0, 2, (x, n) -> x.knowing(0, n));
        beyond("crossing's scene", SCENE, 0, 1, (x, n) -> x.crossing(n, 0, 0, 0));
        beyond("crossing's task", INDEX, 0, 1, (x, n) -> x.crossing(0, n, 0, 0));
        beyond("crossing's asking", BAD, 0, 2, (x, n) -> x.crossing(0, 0, n, 0));
        beyond("crossing's number", BAD, 0, 14, (x, n) -> x.crossing(0, 0, 0, n));
        for (int what : new int[] {-1, 9, LEAST, MOST}) {
            Due.is("count " + what, stage().count(what), -1);
        }
    }

    // ---- several exceptions of one call

    private static void severalOfOneCall() {
        refused("told", SCENE, x -> x.told(2, 6));
        refused("thing", SCENE, x -> x.thing(-1, 9, 300, 6));
        refused("kept", INDEX, x -> x.kept(2, 5));
        refused("throwsOf", SCENE, x -> x.throwsOf(2, 2));
        refused("looker", SCENE, x -> x.looker(2, 2, false));
        refused("gets", INDEX, x -> x.gets(2, 3, 9, 300, 3));
        refused("gets, wrong looker", INDEX, x -> x.gets(2, 3, 0, 0, 0));
        refused("seen", INDEX, x -> x.seen(2, 3, 9));
        refused("says", INDEX, x -> x.says(2, 3, 3) ? 1 : 0);
        refused("miss", INDEX, x -> x.miss(2, 3, 0));
        refused("drawn", INDEX, x -> x.drawn(2, 3, 51, 0));
        refused("change", INDEX, x -> x.change(2, 3));
        refused("least", INDEX, x -> x.least(2, 3, 3));
        refused("share", SCENE, x -> x.share(2, 2, 3, 4));
        refused("share, task", INDEX, x -> x.share(0, 2, 3, 4));
        refused("guessed", SCENE, x -> x.guessed(2, 2, 2, 3));
        refused("guessed, other scene", SCENE, x -> x.guessed(0, 2, 2, 3));
        refused("guessed, task", INDEX, x -> x.guessed(0, 0, 2, 3));
        refused("apart", SCENE, x -> x.apart(2, 2, 2, 2, 3, 3));
        refused("apart, other scene behind a task", SCENE, x -> x.apart(0, 2, 2, 0, 0, 0));
        refused("apart, task", INDEX, x -> x.apart(0, 2, 0, 0, 3, 3));
        refused("apart, other task", INDEX, x -> x.apart(0, 0, 0, 2, 3, 3));
        refused("gone", SCENE, x -> x.gone(2, 2, 3));
        refused("gone, task", INDEX, x -> x.gone(0, 2, 3));
        refused("cost", SCENE, x -> x.cost(2, 2, 2));
        refused("off", SCENE, x -> x.off(2, 2, 2));
        refused("off, task", INDEX, x -> x.off(0, 2, 2));
        refused("weigh", INDEX, x -> x.weigh(2, 0));
        refused("knowing", INDEX, x -> x.knowing(2, 3));
        refused("crossing", SCENE, x -> x.crossing(2, 2, 3, 15));
        refused("crossing, task", INDEX, x -> x.crossing(0, 2, 3, 15));
    }

    private static void nothingThereYet() {
        MiddleUnseen x = new MiddleUnseen();
        Due.noScene("told", () -> x.told(0, 0));
        Due.noScene("thing", () -> x.thing(0, 0, 0, 0));
        Due.outside("kept", () -> x.kept(0, 0));
        Due.noScene("throwsOf", () -> x.throwsOf(0, 0));
        Due.noScene("looker", () -> x.looker(0, 0, false));
        Due.illegal("eyes", () -> x.eyes(0, 0, 0, 0));
        Due.illegal("blink", () -> x.blink(0, 0, 0));
        Due.illegal("eye", () -> x.eye(0, 0));
        Due.illegal("on", () -> x.on(0, 0));
        Due.illegal("name", () -> x.name(0, 0, 0, 0));
        Due.outside("gets", () -> x.gets(0, 0, 0, 0, 0));
        Due.outside("yet", () -> x.yet(0));
        Due.illegal("answer", () -> x.answer(0, 0, true));
        Due.illegal("counted", () -> x.counted(0, 0));
        Due.illegal("sure", () -> x.sure(0, 0));
        Due.illegal("lost", () -> x.lost(0));
        Due.noScene("share", () -> x.share(0, 0, 0, 0));
        Due.outside("weigh", () -> x.weigh(0, 1));
        Due.outside("odds", () -> x.odds(0));
        Due.noScene("crossing", () -> x.crossing(0, 0, 0, 0));
        x.scene(0);
        Due.illegal("a thing of a scene of none", () -> x.thing(0, 0, 0, 0));
        Due.outside("no task yet", () -> x.looker(0, 0, false));
    }

    // ---- what is full

    private static void fullTape() {
        MiddleUnseen x = stage();
        for (int k = 2; k <= 20; k++) {
            Due.is("feed " + k, x.feed(0x20202020, 0x20202020, 0x20202020, 0x20202020, 0x20202020), 20 * k);
        }
        List<Long> before = all(x);
        Due.is("above 400", x.feed(1, 2, 3, 4, 5), -1);
        Due.is("all as it was", all(x).equals(before), true);
        Due.is("not at its end", x.scene(400), -9);
        // the stage's tape begins with abc
        Due.is("nor at its beginning", x.fault(), 0);
        Due.is("and again", x.feed(1, 2, 3, 4, 5), 20);
    }

    private static void fullScenes() {
        MiddleUnseen x = emptied();
        for (int k = 2; k < 6; k++) {
            Due.is("scene " + k, Due.scene(x, "thing 1 1;"), k);
        }
        Due.scene(x, "x");
        Due.feed(x, "thing 0 1;");
        List<Long> before = all(x);
        Due.illegal("a wrong number comes first", () -> x.scene(21));
        Due.is("the tape stays", all(x).equals(before), true);
        Due.is("a 7th", x.scene(10), -1);
        fullText(x, before);
        Due.feed(x, "nonsense");
        Due.is("nothing is read", x.scene(8), -1);
        fullText(x, before);
        Due.is("not even of no bytes", x.scene(0), -1);
        fullText(x, before);
    }

    /** All as before, but for the tape that is empty, and no fault. */
    private static void fullText(MiddleUnseen x, List<Long> before) {
        List<Long> due = new ArrayList<>(before);
        due.set(0, -1L);
        due.set(8, 0L);
        Due.is("no fault, an empty tape, and all else as it was", all(x).equals(due), true);
    }

    private static void fullTasks() {
        MiddleUnseen x = emptied();
        for (int k = 2; k < 6; k++) {
            Due.is("task " + k, Due.task(x, "room 1;"), k);
        }
        Due.law(x, "x");
        Due.feed(x, " ".repeat(201));
        List<Long> before = all(x);
        Due.illegal("a wrong number comes first", () -> x.task(221));
        Due.illegal("above 200, too", () -> x.task(201));
        Due.is("the tape stays", all(x).equals(before), true);
        Due.is("a 7th", x.task(200), -1);
        fullText(x, before);
        Due.feed(x, "nonsense");
        Due.is("nothing is read", x.task(8), -1);
        fullText(x, before);
    }

    private static void fullLaws() {
        MiddleUnseen x = emptied();
        Due.is("law 2", Due.law(x, ""), 2);
        Due.is("law 3", Due.law(x, ""), 3);
        Due.task(x, "x");
        Due.feed(x, "line 1;");
        List<Long> before = all(x);
        Due.illegal("a wrong number comes first", () -> x.law(21));
        Due.is("the tape stays", all(x).equals(before), true);
        Due.is("a 5th", x.law(7), -1);
        fullText(x, before);
        Due.feed(x, "nonsense");
        Due.is("nothing is read", x.law(8), -1);
        fullText(x, before);
    }

    private static void fullLookers() {
        MiddleUnseen x = stage();
        for (int k = 3; k < 14; k++) {
            Due.is("looker " + k, x.looker(1, 1, true), k);
        }
        List<Long> before = all(x);
        Due.is("a 15th", x.looker(0, 0, false), -1);
        Due.is("all as it was", all(x).equals(before), true);
        Due.noScene("no such scene for all that", () -> x.looker(2, 2, false));
        Due.outside("no such task for all that", () -> x.looker(0, 2, false));
        Due.is("all as it was again", all(x).equals(before), true);
        x.restore();
        Due.is("there is room again", x.looker(0, 0, false), 3);
    }

    private static void fullEyes() {
        MiddleUnseen x = stage();
        for (int k = 3; k <= 60; k++) {
            Due.is("row " + k, x.eyes(k % 3, 100 + k, 1, 1), k);
        }
        List<Long> before = all(x);
        Due.is("a 61st row", x.eyes(0, 0, 2, 2), -1);
        Due.is("of another one", x.eyes(2, 0, 2, 2), -1);
        Due.is("all as it was", all(x).equals(before), true);
        Due.is("the 60th row is there", x.eye(0, 299), 101);
        Due.is("60", x.count(4), 60);
        for (int n : new int[] {-1, 3}) {
            Due.illegal("looker " + n + " for all that", () -> x.eyes(n, 0, 0, 0));
        }
        Due.illegal("tenth 300 for all that", () -> x.eyes(0, 300, 0, 0));
        Due.illegal("X 40 for all that", () -> x.eyes(0, 0, 40, 0));
        Due.illegal("Y 30 for all that", () -> x.eyes(0, 0, 0, 30));
        x.restore();
        Due.is("there is room again", x.eyes(0, 0, 2, 2), 2);
    }

    private static void fullBlinks() {
        MiddleUnseen x = stage();
        for (int k = 2; k <= 40; k++) {
            Due.is("blink " + k, x.blink(k % 3, 100 + k, 100 + k), k);
        }
        List<Long> before = all(x);
        Due.is("a 41st", x.blink(0, 0, 299), -1);
        Due.is("of another one", x.blink(2, 0, 299), -1);
        Due.is("all as it was", all(x).equals(before), true);
        Due.is("the 40th is there", x.eye(40 % 3, 140), -1);
        Due.is("40", x.count(5), 40);
        Due.illegal("looker 3 for all that", () -> x.blink(3, 0, 0));
        Due.illegal("turned round for all that", () -> x.blink(0, 1, 0));
        Due.illegal("tenth 300 for all that", () -> x.blink(0, 0, 300));
        x.restore();
        Due.is("there is room again", x.blink(0, 0, 0), 2);
    }

    private static void fullImages() {
        MiddleUnseen x = stage();
        x.wrong(5);
        Due.is("second", x.image(), 2);
        x.wrong(6);
        Due.is("third", x.image(), 3);
        x.wrong(7);
        List<Long> before = all(x);
        Due.is("a fourth", x.image(), -1);
        Due.is("all as it was", all(x).equals(before), true);
        int[] wrong = {6, 5, 2};
        for (int k = 0; k < 3; k++) {
            Due.is("left", x.restore(), 2 - k);
            Due.is("WRONG of it", x.count(8), wrong[k]);
        }
        Due.is("none is left", x.restore(), -1);
    }

    private static void noImage() {
        MiddleUnseen x = stage();
        Due.is("the one", x.restore(), 0);
        x.looker(0, 0, false);
        x.weigh(0, 7);
        List<Long> before = all(x);
        Due.is("there is none", x.restore(), -1);
        Due.is("all as it was", all(x).equals(before), true);
        Due.is("none of a new object", new MiddleUnseen().restore(), -1);
    }

    // ---- what faults and refused answers leave

    private static void faultsLeaveNothingBehind() {
        MiddleUnseen x = emptied();
        List<Long> before = all(x);
        Due.is("a tape of none", x.count(7), 0);
        Due.scene(x, "thing 5 5;thing 5 5;way 1 0 1 1 99 1 1;odd 1;throw 0 1 9;turn 0 1 1;turn 0 1 9;");
        Due.task(x, "keep 7;drop 7;count 7;room 7;watch 7;watch 10;");
        Due.law(x, "gets 77;line 1;keeps 0;sure 9;gets 10000;");
        List<Long> due = new ArrayList<>(before);
        due.set(0, 35L);
        Due.is("a fault, and all else as it was", all(x).equals(due), true);
        Due.is("scene 2", x.scene(0), 2);
        for (int what = 0; what < 6; what++) {
            Due.is("told " + what, x.told(2, what), what > 3 ? -1 : 0);
        }
        Due.is("task 2", x.task(0), 2);
        int[] kept = {0, 0, -1, 4, 0};
        for (int what = 0; what < 5; what++) {
            Due.is("kept " + what, x.kept(2, what), kept[what]);
        }
        Due.is("law 2", x.law(0), 2);
        Due.is("gets nothing", x.gets(2, 0, 0, 0, 0), 0);
        Due.is("its line", x.gets(2, 0, 0, 0, 2), 100);
        int kinds = 0;
        for (int kind : new int[] {Due.scene(x, "x"), Due.scene(x, "odd 0;"), Due.scene(x, "thing 0 1;".repeat(9))}) {
            Due.is("a fault less 10", kind, -9 + kinds);
            kinds++;
        }
    }

    private static void refusedAnswersAreNotHeld() {
        MiddleUnseen x = stage();
        for (Call call : Arrays.<Call>asList(y -> y.answer(0, 3, true), y -> y.counted(0, 1000), y -> y.sure(0, 101),
                y -> y.weigh(1, 10), y -> y.wrong(9))) {
            Due.illegal("refused", () -> call.on(x));
        }
        Due.is("answered", x.answer(0, 0, true), 0);
        Due.is("nothing to the others", x.answer(0, 1, true), -1);
        Due.is("nothing to the last", x.answer(0, 2, true), -1);
        Due.is("counted", x.counted(0, 1), 0);
        Due.is("sure", x.sure(0, 1), 0);
        Due.is("weight", x.weigh(1, 1), 3);
        Due.is("wrong", x.wrong(1), 2);
    }
}
