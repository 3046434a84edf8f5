/** Promises 7 to 10: what was told of scenes, things by tenths, tasks, throws that count. */
public final class ScenesTest {
    public static void main(String[] args) {
        told();
        places();
        colours();
        wrongThings();
        kept();
        throwsOf();
        Due.end("ScenesTest");
    }

    private static void toldAre(MiddleUnseen x, int scene, int... due) {
        for (int what = 0; what < 6; what++) {
            Due.is("told(" + scene + ", " + what + ")", x.told(scene, what), due[what]);
        }
    }

    private static void told() {
        MiddleUnseen x = new MiddleUnseen();
        Due.noScene("told of none", () -> x.told(0, 0));
        x.scene(0);
        toldAre(x, 0, 0, 0, 0, 0, -1, -1);
        Due.scene(x, "thing 0 1;thing 1 1;thing 2 1;way 0 5 1 1 40 2 2;way 1 0 1 1 7 2 2;throw 0 1 200;turn 2 250 1;"
                + "turn 1 3 1;odd 2;odd 0;");
        toldAre(x, 1, 3, 2, 1, 40, 0, 2);
        Due.illegal("told(0, 6)", () -> x.told(0, 6));
        Due.illegal("told(0, -1)", () -> x.told(0, -1));
        Due.noScene("told(2, 9)", () -> x.told(2, 9));
        Due.noScene("told(-1, 0)", () -> x.told(-1, 0));
    }

    private static void thingIs(MiddleUnseen x, int thing, int tenth, int placeX, int placeY, int pace) {
        String where = " of " + thing + " in " + tenth;
        Due.is("X" + where, x.thing(0, thing, tenth, 0), placeX);
        Due.is("Y" + where, x.thing(0, thing, tenth, 1), placeY);
        Due.is("pace" + where, x.thing(0, thing, tenth, 3), pace);
    }

    private static void places() {
        MiddleUnseen x = new MiddleUnseen();
        Due.scene(x, "thing 0 3;thing 1 2;thing 1 9;way 0 0 10 10 3 5 8;way 0 3 20 20 3 0 0;way 0 5 1 1 8 10 28;"
                + "way 1 4 0 0 8 8 4;way 1 6 30 9 7 30 9;way 1 299 39 29 299 0 0;");
        thingIs(x, 0, 0, 10, 10, 0);
        thingIs(x, 0, 1, 9, 10, 1);
        thingIs(x, 0, 2, 7, 9, 2);
        // the last way of the text that has this tenth counts: of no tenths it is where it begins
        thingIs(x, 0, 3, 20, 20, 13);
        thingIs(x, 0, 4, -1, -1, 0);
        thingIs(x, 0, 5, 1, 1, 0);
        thingIs(x, 0, 6, 4, 10, 9);
        thingIs(x, 0, 7, 7, 19, 9);
        thingIs(x, 0, 8, 10, 28, 9);
        thingIs(x, 0, 9, -1, -1, 0);
        thingIs(x, 1, 3, -1, -1, 0);
        thingIs(x, 1, 5, 2, 1, 2);
        thingIs(x, 1, 6, 30, 9, 28);
        thingIs(x, 1, 7, 30, 9, 0);
        thingIs(x, 1, 8, 8, 4, 22);
        thingIs(x, 1, 299, 39, 29, 0);
        thingIs(x, 2, 0, -1, -1, 0);
        Due.is("size 3", x.thing(0, 0, 299, 4), 3);
        Due.is("size 9", x.thing(0, 2, 0, 4), 9);
        Due.is("END", x.told(0, 3), 299);
    }

    private static void colours() {
        MiddleUnseen x = new MiddleUnseen();
        Due.scene(x, "thing 0 3;thing 1 2;turn 1 20 3;turn 1 20 4;turn 1 5 6;turn 1 20 5;turn 0 299 7;turn 1 5 6;");
        int[] tenths = {0, 4, 5, 14, 15, 19, 20, 29, 30, 299};
        int[] colours = {1, 1, 6, 6, 6, 6, 5, 5, 5, 5};
        int[] changes = {0, 0, 1, 1, 0, 0, 1, 1, 0, 0};
        for (int k = 0; k < tenths.length; k++) {
            Due.is("colour in " + tenths[k], x.thing(0, 1, tenths[k], 2), colours[k]);
            Due.is("change in " + tenths[k], x.thing(0, 1, tenths[k], 5), changes[k]);
        }
        Due.is("another's own", x.thing(0, 0, 298, 2), 0);
        Due.is("another's turn", x.thing(0, 0, 299, 2), 7);
        Due.is("another's change", x.thing(0, 0, 20, 5), 0);
    }

    private static void wrongThings() {
        MiddleUnseen x = new MiddleUnseen();
        Due.scene(x, "thing 0 3;");
        Due.noScene("no scene comes first", () -> x.thing(1, 9, 300, 9));
        Due.illegal("thing 1", () -> x.thing(0, 1, 0, 0));
        Due.illegal("thing -1", () -> x.thing(0, -1, 0, 0));
        Due.illegal("tenth -1", () -> x.thing(0, 0, -1, 0));
        Due.illegal("tenth 300", () -> x.thing(0, 0, 300, 0));
        Due.illegal("what 6", () -> x.thing(0, 0, 0, 6));
        Due.illegal("what -1", () -> x.thing(0, 0, 0, -1));
    }

    private static void keptAre(MiddleUnseen x, int task, int... due) {
        for (int what = 0; what < 5; what++) {
            Due.is("kept(" + task + ", " + what + ")", x.kept(task, what), due[what]);
        }
    }

    private static void kept() {
        MiddleUnseen x = new MiddleUnseen();
        Due.outside("kept of none", () -> x.kept(0, 9));
        x.task(0);
        keptAre(x, 0, 0, 0, -1, 4, 0);
        Due.task(x, "keep 7;keep 0;keep 7;drop 7;drop 3;count 5;count 2;room 9;room 0;watch 9;watch 8;");
        keptAre(x, 1, 129, 136, 2, 0, 8);
        Due.task(x, "keep 8");
        Due.is("a fault leaves no task", x.count(1), 2);
        Due.task(x, "room 3;");
        keptAre(x, 2, 0, 0, -1, 3, 0);
        Due.illegal("kept(0, 5)", () -> x.kept(0, 5));
        Due.illegal("kept(0, -1)", () -> x.kept(0, -1));
        Due.outside("kept(3, 0)", () -> x.kept(3, 0));
        Due.outside("kept(-1, 0)", () -> x.kept(-1, 0));
    }

    private static void throwsOf() {
        MiddleUnseen x = new MiddleUnseen();
        Due.scene(x, "thing 0 3;thing 1 2;throw 0 1 0;throw 0 1 9;throw 0 1 10;throw 1 0 10;throw 0 1 299;turn 0 10 1;");
        x.task(0);
        Due.task(x, "count 0;");
        Due.task(x, "count 1;");
        Due.task(x, "count 2;");
        Due.is("nothing counted", x.throwsOf(0, 0), 0);
        Due.is("colour 0 as of their tenths", x.throwsOf(0, 1), 2);
        Due.is("colour 1 as of their tenths", x.throwsOf(0, 2), 3);
        Due.is("colour 2", x.throwsOf(0, 3), 0);
        Due.noScene("no scene comes first", () -> x.throwsOf(1, 4));
        Due.noScene("scene -1", () -> x.throwsOf(-1, 0));
        Due.outside("task 4", () -> x.throwsOf(0, 4));
        Due.outside("task -1", () -> x.throwsOf(0, -1));
    }
}
