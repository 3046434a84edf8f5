import java.nio.ByteBuffer;
import java.nio.charset.StandardCharsets;
import java.util.Arrays;

/** What the tests share: texts put on the tape, and answers held against what is due. */
final class Due {
    private static int wrong = 0;

    private Due() { }

    static void is(String what, long got, long due) {
        if (got != due) {
            wrong++;
            System.out.println(what + " answered " + got + ", due is " + due);
        }
    }

    static void is(String what, boolean got, boolean due) {
        is(what, got ? 1 : 0, due ? 1 : 0);
    }

    /** The very class: what the machine throws is of a class below the document's ones. */
    static void fails(String what, Class<? extends RuntimeException> due, Runnable call) {
        Class<?> got = null;
        try {
            call.run();
        } catch (RuntimeException e) {
            got = e.getClass();
        }
        if (got != due) {
            wrong++;
            System.out.println(what + " threw " + got + ", due is " + due);
        }
    }

    static void illegal(String what, Runnable call) {
        fails(what, IllegalArgumentException.class, call);
    }

    static void noScene(String what, Runnable call) {
        fails(what, java.util.NoSuchElementException.class, call);
    }

    static void outside(String what, Runnable call) {
        fails(what, IndexOutOfBoundsException.class, call);
    }

    static void feed(MiddleUnseen x, String text) {
        byte[] bytes = Arrays.copyOf(text.getBytes(StandardCharsets.ISO_8859_1), (text.length() + 19) / 20 * 20);
        ByteBuffer b = ByteBuffer.wrap(bytes);
        for (int k = 0; k < bytes.length; k += 20) {
            x.feed(b.getInt(), b.getInt(), b.getInt(), b.getInt(), b.getInt());
        }
    }

    static int scene(MiddleUnseen x, String text) {
        feed(x, text);
        return x.scene(text.length());
    }

    static int task(MiddleUnseen x, String text) {
        feed(x, text);
        return x.task(text.length());
    }

    static int law(MiddleUnseen x, String text) {
        feed(x, text);
        return x.law(text.length());
    }

    /** A text of a new object that has a fault: its kind and its place. */
    static void sceneFault(String text, int kind, int place) {
        MiddleUnseen x = new MiddleUnseen();
        is("scene \"" + text + "\"", scene(x, text), kind - 10);
        is("fault of scene \"" + text + "\"", x.fault(), place);
        is("scenes behind \"" + text + "\"", x.count(0), 0);
    }

    static void taskFault(String text, int kind, int place) {
        MiddleUnseen x = new MiddleUnseen();
        is("task \"" + text + "\"", task(x, text), kind - 10);
        is("fault of task \"" + text + "\"", x.fault(), place);
        is("tasks behind \"" + text + "\"", x.count(1), 0);
    }

    static void lawFault(String text, int kind, int place) {
        MiddleUnseen x = new MiddleUnseen();
        is("law \"" + text + "\"", law(x, text), kind - 10);
        is("fault of law \"" + text + "\"", x.fault(), place);
        is("laws behind \"" + text + "\"", x.count(2), 0);
    }

    /** A text of a new object that has no fault. */
    static void sceneStands(String text) {
        MiddleUnseen x = new MiddleUnseen();
        is("scene \"" + text + "\"", scene(x, text), 0);
        is("fault of scene \"" + text + "\"", x.fault(), -1);
        is("scenes behind \"" + text + "\"", x.count(0), 1);
    }

    static void taskStands(String text) {
        MiddleUnseen x = new MiddleUnseen();
        is("task \"" + text + "\"", task(x, text), 0);
        is("fault of task \"" + text + "\"", x.fault(), -1);
        is("tasks behind \"" + text + "\"", x.count(1), 1);
    }

    static void lawStands(String text) {
        MiddleUnseen x = new MiddleUnseen();
        is("law \"" + text + "\"", law(x, text), 0);
        is("fault of law \"" + text + "\"", x.fault(), -1);
        is("laws behind \"" + text + "\"", x.count(2), 1);
    }

    static void end(String name) {
        System.out.println(name + ": " + (wrong == 0 ? "all answers are as due" : wrong + " answers are not as due"));
        System.exit(wrong == 0 ? 0 : 1);
    }
}
