import java.lang.reflect.InvocationTargetException;
import java.lang.reflect.Method;
import java.util.ArrayList;
import java.util.Collections;
import java.util.List;
import java.util.Random;

/**
 * One stage on which no two scenes, things, tasks, laws, lookers or askings are alike: every question, of every
 * one of them beside every other, is held against Model, in an order that mixes them all.
 */
public final class CrossTest {
    private static final int CALLS = 512;
    private static final String[] SCENES = {
        "thing 0 3;thing 1 5;thing 2 2;way 0 0 5 5 30 25 5;way 1 4 20 15 24 30 20;way 2 0 0 0 39 39 29;odd 1;throw 0 2 3;"
                + "throw 2 0 12;turn 1 10 2;turn 0 20 1;",
        "thing 1 9;way 0 0 20 15 9 20 15;turn 0 3 2;throw",
        "thing 1 9;way 0 0 20 15 9 20 15;turn 0 3 2;",
        "thing 2 1;thing 0 4;thing 0 2;thing 1 7;way 3 0 20 15 12 20 16;way 1 2 1 1 12 3 3;odd 3;throw 1 3 5;throw 2 1 6;",
        "thing 0 6;thing 3 4;way 1 5 20 10 45 20 25;way 0 0 19 15 50 21 15;odd 0;throw 0 1 8;throw 1 0 30;turn 0 6 3;"};
    private static final String[] TASKS = {"keep 1;drop 2;count 0;room 0;", "keep 0;keep 2;count 1;room 1;watch 3;",
        "drop 1;watch 1;", "keep 3;count 2;room 0;watch 2;", "keep 0;drop 0;count 0;room 2;watch 9;"};
    private static final String[] LAWS = {"gets 3;line 30;keeps 15;sure 60;",
        "gets 20-near+size if not drop=1;line 150-watch*20;keeps 20 if full<1;",
        "gets 5*like+3*odd if pace<2;gets 7 if change=1;line 40;sure 100 if knows=1;",
        "gets 9-full;line 90-tenth if near<9;line 200 if knows=1;"};
    /** Scene, task, and whether it knows (1). */
    private static final int[][] LOOKERS = {{0, 0, 0}, {0, 0, 0}, {0, 1, 1}, {1, 3, 0}, {2, 1, 0}, {3, 2, 0}, {3, 3, 1},
        {0, 0, 0}, {2, 1, 0}, {3, 4, 0}, {0, 4, 1}, {2, 0, 0}, {3, 0, 0}};
    private static final int[] TENTHS = {0, 3, 4, 9, 10, 12, 13, 15, 24, 25, 30, 39, 40, 50, 51, 299};

    private static final List<Object[]> QUESTIONS = new ArrayList<>();

    private final MiddleUnseen real = new MiddleUnseen();
    private final Model model = new Model();
    private int calls = 0;

    public static void main(String[] args) throws Exception {
        ofScenesAndTasks();
        ofLookers();
        ofLaws();
        ofGroups();
        Collections.shuffle(QUESTIONS, new Random(11));
        CrossTest run = null;
        for (Object[] row : QUESTIONS) {
            if (run == null || run.calls == CALLS) {
                run = new CrossTest();
                run.prepare();
            }
            run.both(row);
        }
        Due.end("CrossTest");
    }

    private static void ask(Object... row) {
        QUESTIONS.add(row);
    }

    private static int things(int scene) {
        return new int[] {3, 1, 4, 2}[scene];
    }

    private static void ofScenesAndTasks() {
        for (int s = 0; s < 4; s++) {
            for (int k = 0; k < 6; k++) {
                ask("told", s, k);
                for (int thing = 0; thing < things(s); thing++) {
                    for (int tenth : TENTHS) {
                        ask("thing", s, thing, tenth, k);
                    }
                }
            }
            for (int t = 0; t < 5; t++) {
                ask("throwsOf", s, t);
            }
        }
        for (int t = 0; t < 5; t++) {
            for (int k = 0; k < 5; k++) {
                ask("kept", t, k);
            }
        }
    }

    private static void ofLookers() {
        for (int l = 0; l < LOOKERS.length; l++) {
            for (int tenth : TENTHS) {
                ask("eye", l, tenth);
                for (int thing = 0; thing < things(LOOKERS[l][0]); thing++) {
                    for (int k = 0; k < 11; k++) {
                        ask("name", l, thing, tenth, k);
                    }
                }
            }
            for (int near = 0; near <= 40; near += 2) {
                ask("on", l, near);
            }
            ask("lost", l);
        }
    }

    private static void ofLaws() {
        for (int law = 0; law < 4; law++) {
            for (int l = 0; l < LOOKERS.length; l++) {
                for (int k = 0; k < 3; k++) {
                    ask("says", law, l, k);
                    ask("least", law, l, k);
                    ask("drawn", law, l, 20 * k + 1, 77 * l + k);
                    ask("miss", law, l, 1 + 3 * k);
                    for (int thing = 0; thing < things(LOOKERS[l][0]); thing++) {
                        ask("seen", law, l, thing);
                        for (int tenth : TENTHS) {
                            ask("gets", law, l, thing, tenth, k);
                        }
                    }
                }
                ask("change", law, l);
            }
            for (int k = 0; k < 3; k++) {
                ask("knowing", law, k);
            }
            ask("yet", law);
            ask("odds", law);
        }
        for (int k = 0; k < 9; k++) {
            ask("next");
            ask("best");
            ask("fits", k);
            ask("count", k);
        }
    }

    private static void ofGroups() {
        for (int s = 0; s < 4; s++) {
            for (int t = 0; t < 5; t++) {
                ask("off", s, t, 0);
                ask("off", s, t, 1);
                for (int k = 0; k < 3; k++) {
                    ask("gone", s, t, k);
                    for (int n = 0; n < 4; n++) {
                        ask("share", s, t, k, n);
                        ask("guessed", s, n, t, k);
                        ask("crossing", s, t, k, 2 * n);
                        for (int other = 0; other < 5; other++) {
                            ask("apart", s, t, n, other, k, other % 3);
                        }
                    }
                }
                for (int other = 0; other < 5; other++) {
                    ask("cost", s, t, other);
                }
            }
        }
    }

    private void prepare() throws Exception {
        texts("scene", SCENES);
        texts("task", TASKS);
        texts("law", LAWS);
        for (int[] row : LOOKERS) {
            both("looker", row[0], row[1], row[2] == 1);
        }
        for (int k = 0; k < 9; k++) {
            both("eyes", k * 5 % 13, k * 7 % 20, 18 + k % 5, 13 + k % 4);
            both("blink", k * 3 % 13, 3 * k, 4 * k);
        }
        for (int l = 0; l < LOOKERS.length; l++) {
            for (int asking = 0; asking < 3; asking++) {
                if (l != 6 + asking) {
                    both("answer", l, asking, (l * 5 + asking * 3) % 7 < 3 + asking);
                }
            }
            both(l % 2 == 0 ? "counted" : "sure", l, l * 9 % 11);
            both(l % 3 == 0 ? "counted" : "sure", l, 45 + l);
        }
        both("weigh", 1, 7);
        both("weigh", 3, 4);
        both("wrong", 3);
        Due.is("calls are left for questions", calls < 300, true);
    }

    private void texts(String kind, String[] texts) throws Exception {
        for (String text : texts) {
            byte[] bytes = java.util.Arrays.copyOf(text.getBytes(java.nio.charset.StandardCharsets.ISO_8859_1),
                    (text.length() + 19) / 20 * 20);
            java.nio.ByteBuffer b = java.nio.ByteBuffer.wrap(bytes);
            while (b.hasRemaining()) {
                both("feed", b.getInt(), b.getInt(), b.getInt(), b.getInt(), b.getInt());
            }
            both(kind, text.length());
        }
    }

    private void both(Object... row) throws Exception {
        calls++;
        Object due = answer(model, row);
        Object got = answer(real, row);
        if (!due.equals(got)) {
            Due.is(java.util.Arrays.toString(row) + " answered " + got + ", due is " + due + ": so", false, true);
        }
    }

    private static Object answer(Object on, Object[] row) throws Exception {
        for (Method m : on.getClass().getDeclaredMethods()) {
            if (m.getName().equals(row[0]) && m.getParameterCount() == row.length - 1) {
                m.setAccessible(true);
                try {
                    return m.invoke(on, java.util.Arrays.copyOfRange(row, 1, row.length));
                } catch (InvocationTargetException e) {
                    return e.getCause().getClass().getName();
                }
            }
        }
        throw new IllegalStateException("no method " + row[0]);
    }
}
