/** Promises 11 to 16: lookers, their eyes and blinks, and names of things to them. */
public final class LookersTest {
    public static void main(String[] args) {
        lookers();
        follow();
        toldEyes();
        blinks();
        limits();
        on();
        names();
        Due.end("LookersTest");
    }

    private static MiddleUnseen stage() {
        MiddleUnseen x = new MiddleUnseen();
        Due.scene(x, "thing 0 3;thing 1 2;way 0 0 5 5 40 5 5;way 1 10 10 20 20 20 20;throw 0 1 12;throw 1 0 30;"
                + "throw 0 1 3;odd 1;");
        x.task(0);
        Due.task(x, "count 0;");
        Due.task(x, "count 1;");
        return x;
    }

    private static void lookers() {
        MiddleUnseen x = stage();
        Due.noScene("no scene comes first", () -> x.looker(1, 9, false));
        Due.noScene("scene -1", () -> x.looker(-1, 0, false));
        Due.outside("task 3", () -> x.looker(0, 3, false));
        Due.outside("task -1", () -> x.looker(0, -1, false));
        for (int k = 0; k < 14; k++) {
            Due.is("looker " + k, x.looker(0, 0, k % 2 == 0), k);
        }
        Due.is("a 15th", x.looker(0, 0, false), -1);
        Due.noScene("behind what throws", () -> x.looker(9, 0, false));
        Due.is("14 there are", x.count(3), 14);
    }

    private static void follow() {
        MiddleUnseen x = stage();
        for (int k = 0; k < 3; k++) {
            x.looker(0, k, false);
        }
        Due.is("nothing counted", x.eye(0, 15), 2015);
        Due.is("no throw yet", x.eye(1, 2), 2015);
        Due.is("who had it is not there", x.eye(1, 9), 2015);
        Due.is("who had it comes", x.eye(1, 10), 1020);
        Due.is("who had the latest", x.eye(1, 15), 1520);
        Due.is("who had it has gone, and none before counts", x.eye(1, 25), 2015);
        Due.is("not of this colour", x.eye(1, 30), 2015);
        Due.is("of the other colour", x.eye(2, 29), 2015);
        Due.is("to thing 0", x.eye(2, 30), 505);
        Due.is("beyond END", x.eye(2, 299), 2015);
        Due.scene(x, "thing 0 1;thing 1 1;thing 1 1;way 1 0 1 1 9 1 1;way 2 0 2 2 9 2 2;throw 0 2 4;throw 0 1 4;turn 0 4 0;");
        x.looker(1, 1, false);
        Due.is("of alike ones the last of the text", x.eye(3, 4), 101);
        Due.scene(x, "thing 0 1;thing 1 1;way 1 0 1 1 9 1 1;throw 0 1 0;");
        x.looker(2, 1, false);
        Due.is("the one throw, in the first tenth", x.eye(4, 0), 101);
        Due.illegal("looker 5", () -> x.eye(5, 0));
        Due.illegal("looker -1", () -> x.eye(-1, 0));
        Due.illegal("tenth 300", () -> x.eye(0, 300));
        Due.illegal("tenth -1", () -> x.eye(0, -1));
    }

    private static void toldEyes() {
        MiddleUnseen x = stage();
        x.looker(0, 1, false);
        x.looker(0, 1, false);
        Due.is("a row", x.eyes(0, 20, 0, 0), 1);
        Due.is("another", x.eyes(0, 14, 39, 29), 2);
        Due.is("alike", x.eyes(0, 20, 1, 2), 3);
        Due.is("another's", x.eyes(1, 0, 7, 8), 4);
        Due.is("before that as by throws", x.eye(0, 13), 1320);
        Due.is("from then on", x.eye(0, 14), 3929);
        Due.is("still", x.eye(0, 19), 3929);
        Due.is("of alike ones told last", x.eye(0, 20), 102);
        Due.is("to the last tenth", x.eye(0, 299), 102);
        Due.is("the other's", x.eye(1, 15), 708);
        Due.illegal("eyes of looker 2", () -> x.eyes(2, 0, 0, 0));
        Due.illegal("eyes tenth 300", () -> x.eyes(0, 300, 0, 0));
        Due.illegal("eyes tenth -1", () -> x.eyes(0, -1, 0, 0));
        Due.illegal("eyes X 40", () -> x.eyes(0, 0, 40, 0));
        Due.illegal("eyes X -1", () -> x.eyes(0, 0, -1, 0));
        Due.illegal("eyes Y 30", () -> x.eyes(0, 0, 0, 30));
        Due.illegal("eyes Y -1", () -> x.eyes(0, 0, 0, -1));
        Due.is("rows", x.count(4), 4);
    }

    private static void blinks() {
        MiddleUnseen x = stage();
        x.looker(0, 1, false);
        x.looker(0, 1, false);
        x.eyes(0, 0, 3, 4);
        Due.is("a blink", x.blink(0, 5, 7), 1);
        Due.is("another's", x.blink(1, 6, 6), 2);
        Due.is("ahead", x.eye(0, 4), 304);
        Due.is("first", x.eye(0, 5), -1);
        Due.is("last", x.eye(0, 7), -1);
        Due.is("behind", x.eye(0, 8), 304);
        Due.is("the other's", x.eye(1, 6), -1);
        Due.is("the other's ahead", x.eye(1, 5), 2015);
        Due.illegal("turned round", () -> x.blink(0, 7, 6));
        Due.illegal("blink from -1", () -> x.blink(0, -1, 6));
        Due.illegal("blink to 300", () -> x.blink(0, 0, 300));
        Due.illegal("blink of looker 2", () -> x.blink(2, 0, 1));
        Due.is("the whole", x.blink(0, 0, 299), 3);
        Due.is("shut at the end", x.eye(0, 299), -1);
        Due.is("blinks", x.count(5), 3);
    }

    private static void limits() {
        MiddleUnseen x = stage();
        x.looker(0, 1, false);
        for (int k = 1; k <= 60; k++) {
            Due.is("eyes " + k, x.eyes(0, k, 1, 1), k);
        }
        Due.is("eyes 61", x.eyes(0, 0, 2, 2), -1);
        Due.is("nothing told", x.eye(0, 0), 2015);
        Due.illegal("behind what throws", () -> x.eyes(0, 0, 40, 2));
        for (int k = 1; k <= 40; k++) {
            Due.is("blink " + k, x.blink(0, 200, 200), k);
        }
        Due.is("blink 41", x.blink(0, 100, 100), -1);
        Due.is("not shut", x.eye(0, 100), 101);
        Due.illegal("behind what throws", () -> x.blink(0, 3, 2));
    }

    private static void on() {
        MiddleUnseen x = stage();
        x.looker(0, 0, false);
        // the odd one goes from 10, 20 to 20, 20 in tenths 10 to 20, eyes are at 20, 15
        Due.is("within 5", x.on(0, 5), 6);
        Due.is("within 4", x.on(0, 4), 0);
        Due.is("within 9", x.on(0, 9), 10);
        Due.is("within 40", x.on(0, 40), 11);
        x.blink(0, 0, 11);
        Due.is("open", x.on(0, 40), 9);
        x.eyes(0, 15, 15, 20);
        Due.is("just there", x.on(0, 0), 1);
        Due.illegal("near 41", () -> x.on(0, 41));
        Due.illegal("near -1", () -> x.on(0, -1));
        Due.illegal("looker 1", () -> x.on(1, 0));
        Due.scene(x, "thing 0 1;way 0 0 20 15 9 20 15;");
        x.looker(1, 0, false);
        Due.is("no odd one", x.on(1, 40), 0);
    }

    private static void namesAre(MiddleUnseen x, int looker, int thing, int tenth, int... due) {
        for (int k = 0; k < 11; k++) {
            Due.is("name " + k + " of " + thing + " in " + tenth + " to " + looker, x.name(looker, thing, tenth, k), due[k]);
        }
    }

    private static void names() {
        MiddleUnseen x = new MiddleUnseen();
        Due.scene(x, "thing 0 3;thing 1 2;thing 2 9;way 0 0 5 5 40 5 5;way 1 10 10 20 20 30 20;way 2 0 1 1 12 1 1;"
                + "odd 1;turn 1 15 2;");
        Due.task(x, "keep 0;keep 2;drop 2;room 1;watch 6;");
        Due.task(x, "keep 1;room 0;");
        x.looker(0, 0, false);
        x.looker(0, 1, true);
        // like, drop, near, size, pace, full, odd, watch, change, knows, tenth
        namesAre(x, 0, 1, 14, 0, 0, 5, 2, 2, 0, 1, 6, 0, 0, 14);
        namesAre(x, 0, 1, 15, 1, 1, 5, 2, 2, 1, 1, 6, 1, 0, 15);
        namesAre(x, 0, 1, 10, 0, 0, 10, 2, 0, 1, 1, 6, 0, 0, 10);
        namesAre(x, 0, 0, 12, 1, 0, 15, 3, 0, 1, 0, 6, 0, 0, 12);
        namesAre(x, 0, 2, 13, 1, 1, 99, 9, 0, 0, 0, 6, 0, 0, 13);
        namesAre(x, 0, 1, 25, 1, 1, 99, 2, 0, 0, 1, 6, 0, 0, 25);
        namesAre(x, 1, 1, 14, 1, 0, 5, 2, 2, 1, 1, 0, 0, 1, 14);
        namesAre(x, 1, 1, 16, 0, 0, 5, 2, 2, 0, 1, 0, 1, 1, 16);
        x.blink(1, 14, 14);
        namesAre(x, 1, 1, 14, 1, 0, 99, 2, 2, 1, 1, 0, 0, 1, 14);
        Due.illegal("name of looker 2", () -> x.name(2, 0, 0, 0));
        Due.illegal("name of thing 3", () -> x.name(0, 3, 0, 0));
        Due.illegal("name of thing -1", () -> x.name(0, -1, 0, 0));
        Due.illegal("name in 300", () -> x.name(0, 0, 300, 0));
        Due.illegal("name in -1", () -> x.name(0, 0, -1, 0));
        Due.illegal("name 11", () -> x.name(0, 0, 0, 11));
        Due.illegal("name -1", () -> x.name(0, 0, 0, -1));
    }
}
