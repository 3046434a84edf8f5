/** Promises 1 to 6 and 45: a new object, the tape, texts and their faults, counts. */
public final class TextsTest {
    public static void main(String[] args) {
        newObject();
        feed();
        scenes();
        sceneFaults();
        tasks();
        laws();
        lawFaults();
        fault();
        Due.end("TextsTest");
    }

    private static void newObject() {
        MiddleUnseen x = new MiddleUnseen();
        Due.is("NONE", MiddleUnseen.NONE, -1);
        for (int k = 0; k < 8; k++) {
            Due.is("count(" + k + ") of a new object", x.count(k), 0);
        }
        Due.is("WRONG at first", x.count(8), 4);
        Due.is("count(9)", x.count(9), -1);
        Due.is("count(-1)", x.count(-1), -1);
        Due.is("fault at first", x.fault(), -1);
        Due.is("best of none", x.best(), -1);
        Due.is("fits of none", x.fits(14), 0);
        Due.is("next of none", x.next(), -1);
    }

    private static void feed() {
        MiddleUnseen x = new MiddleUnseen();
        for (int k = 1; k <= 20; k++) {
            Due.is("feed " + k, x.feed(0x20202020, 0x20202020, 0x20202020, 0x20202020, 0x20202020), 20 * k);
        }
        Due.is("feed beyond 400", x.feed(0x61616161, 0, 0, 0, 0), -1);
        Due.is("bytes behind it", x.count(7), 400);
        Due.is("400 blanks are a scene", x.scene(400), 0);
        Due.is("the tape is empty then", x.count(7), 0);
        // 0x6f is o: the highest byte of the first number comes first
        x.feed(0x6f646420, 0x303b0000, 0, 0, 0);
        Due.is("highest byte first", x.scene(6), -8);
        Due.is("place of it", x.fault(), 4);
        x.feed(0xff000000, 0, 0, 0, 0);
        Due.is("a byte of 255", x.scene(1), -9);
    }

    private static void scenes() {
        MiddleUnseen x = new MiddleUnseen();
        Due.illegal("scene(-1)", () -> x.scene(-1));
        Due.illegal("scene(1) of an empty tape", () -> x.scene(1));
        Due.feed(x, "thing 0 1;");
        Due.illegal("scene(21) of 20", () -> x.scene(21));
        Due.is("the tape stays", x.count(7), 20);
        Due.is("the first 10 alone", x.scene(10), 0);
        Due.is("the rest is gone", x.count(7), 0);
        Due.is("blanks ahead of all, and at the end", Due.scene(x, "  thing  007 0009  ; way0 1 2 3 4 5 6 ;odd0;   "), 1);
        Due.is("colour with noughts ahead", x.thing(1, 0, 0, 2), 7);
        Due.is("size with noughts ahead", x.thing(1, 0, 0, 4), 9);
        for (int k = 2; k < 6; k++) {
            Due.is("scene " + k, x.scene(0), k);
        }
        Due.feed(x, "nonsense");
        Due.illegal("a wrong number with 6", () -> x.scene(21));
        Due.is("a 7th", x.scene(8), -1);
        Due.is("no fault of a 7th", x.fault(), -1);
        Due.is("the tape is empty behind a 7th", x.count(7), 0);
        Due.is("still 6", x.count(0), 6);
        StringBuilder many = new StringBuilder("thing 0 1;");
        for (int k = 0; k < 23; k++) {
            many.append("odd 0;");
        }
        Due.is("24 clauses", Due.scene(new MiddleUnseen(), many.toString()), 0);
        Due.is("24 clauses and blanks", Due.scene(new MiddleUnseen(), many + "   "), 0);
        Due.sceneFault(many + " odd 0;", 3, 149);
        Due.sceneFault(many + " ode 0;", 1, 149);
        Due.sceneFault(many + "odd 9;", 3, 148);
    }

    private static void sceneFaults() {
        Due.sceneFault("thin 0 1;", 1, 0);
        Due.sceneFault("thingy 0 1;", 1, 0);
        Due.sceneFault("Thing 0 1;", 1, 0);
        Due.sceneFault(";", 1, 0);
        Due.sceneFault("  7", 1, 2);
        Due.sceneFault("thing", 1, 5);
        Due.sceneFault("thing  ", 1, 7);
        Due.sceneFault("thing x 1;", 1, 6);
        Due.sceneFault("thing 01;", 1, 8);
        Due.sceneFault("thing 0 1 ", 1, 10);
        Due.sceneFault("thing 0 1 2;", 1, 10);
        Due.sceneFault("thing 0 10;", 2, 8);
        Due.sceneFault("thing 4294967296 1;", 2, 6);
        Due.sceneFault("thing -1 1;", 1, 6);
        Due.sceneFault("thing\t0 1;", 1, 5);
        Due.sceneFault("thing 0 1;way 1 0 0 0 0 0 0;", 2, 14);
        Due.sceneFault("thing 0 1;way 0 300 0 0 0 0 0;", 2, 16);
        Due.sceneFault("thing 0 1;way 0 0 40 0 0 0 0;", 2, 18);
        Due.sceneFault("thing 0 1;way 0 0 0 30 0 0 0;", 2, 20);
        Due.sceneFault("thing 0 1;way 0 9 0 0 8 0 0;", 2, 22);
        Due.sceneFault("thing 0 1;way 0 9 0 0 300 0 0;", 2, 22);
        Due.sceneFault("thing 0 1;way 0 9 0 0 9 40 0;", 2, 24);
        Due.sceneFault("thing 0 1;way 0 9 0 0 9 0 30;", 2, 26);
        Due.sceneFault("thing 0 1;way 0 9 0 0 9 0;", 1, 25);
        Due.sceneFault("thing 0 1;thing 0 1;throw 2 0 1;", 2, 26);
        Due.sceneFault("thing 0 1;thing 0 1;throw 1 1 1;", 2, 28);
        Due.sceneFault("thing 0 1;thing 0 1;throw 1 2 1;", 2, 28);
        Due.sceneFault("thing 0 1;thing 0 1;throw 1 0 300;", 2, 30);
        Due.sceneFault("thing 0 1;throw 0 1 2;thing 0 1;", 2, 18);
        Due.sceneFault("thing 0 1;odd 1;", 2, 14);
        Due.sceneFault("thing 0 1;turn 1 0 0;", 2, 15);
        Due.sceneFault("thing 0 1;turn 0 300 0;", 2, 17);
        Due.sceneFault("thing 0 1;turn 0 0 8;", 2, 19);
        Due.sceneFault("thing 0 1;turn 0 0 8", 2, 19);
        String eight = "thing 0 1;".repeat(8);
        Due.is("8 things", Due.scene(new MiddleUnseen(), eight), 0);
        Due.sceneFault(eight + "  thing 9 9;", 3, 82);
        Due.is("edges", Due.scene(new MiddleUnseen(),
                "thing 7 9;thing 0 1;way 0 299 39 29 299 39 29;throw 0 1 299;turn 1 299 7;odd 1;"), 0);
    }

    private static void tasks() {
        MiddleUnseen x = new MiddleUnseen();
        Due.illegal("task(-1)", () -> x.task(-1));
        Due.illegal("task(1) of an empty tape", () -> x.task(1));
        Due.feed(x, " ".repeat(220));
        Due.illegal("task(201)", () -> x.task(201));
        Due.is("the tape stays", x.count(7), 220);
        Due.is("task(200)", x.task(200), 0);
        Due.is("blanks", Due.task(x, " keep7;drop 7 ; room 9;watch 9;count 7; "), 1);
        for (int k = 2; k < 6; k++) {
            Due.is("task " + k, x.task(0), k);
        }
        Due.is("a 7th", Due.task(x, "x"), -1);
        Due.is("no fault of a 7th", x.fault(), -1);
        Due.is("tape", x.count(7), 0);
        Due.taskFault("thing 0 1;", 1, 0);
        Due.taskFault("keep 8;", 2, 5);
        Due.taskFault("drop 8;", 2, 5);
        Due.taskFault("count 8;", 2, 6);
        Due.taskFault("room 10;", 2, 5);
        Due.taskFault("watch 10;", 2, 6);
        Due.taskFault("keep 1 2;", 1, 7);
        Due.taskFault("keep", 1, 4);
        Due.taskFault("keep 1", 1, 6);
        String many = "keep 1;".repeat(16);
        Due.is("16 clauses", Due.task(new MiddleUnseen(), many), 0);
        Due.taskFault(many + "keep 1;", 3, 112);
        Due.taskFault(many + "1", 1, 112);
    }

    private static void laws() {
        MiddleUnseen x = new MiddleUnseen();
        Due.illegal("law(-1)", () -> x.law(-1));
        Due.illegal("law(1) of an empty tape", () -> x.law(1));
        Due.feed(x, " ".repeat(400));
        Due.is("law(400)", x.law(400), 0);
        Due.is("all that can stand", Due.law(x, " gets( like+drop )*near/size-least(pace,most ( full,odd))if not[watch<1 or change>2]and knows = tenth ;"
                + "line 9999;keeps 0;sure 00000001 if 1<2;"), 1);
        Due.is("words and numbers side by side", Due.law(x, "gets1if 1<2or2<3and not1<2;"), 2);
        Due.is("nothing", x.law(0), 3);
        Due.is("a 5th", Due.law(x, "gets"), -1);
        Due.is("no fault of a 5th", x.fault(), -1);
        Due.is("tape", x.count(7), 0);
        Due.is("laws", x.count(2), 4);
        String many = "line 1;".repeat(16);
        Due.is("16 clauses", Due.law(new MiddleUnseen(), many), 0);
        Due.lawFault(many + "line 1;", 3, 112);
        Due.lawFault(many + "liner 1;", 1, 112);
    }

    private static void lawFaults() {
        Due.lawFault("get 1;", 1, 0);
        Due.lawFault("gets ;", 1, 5);
        Due.lawFault("gets", 1, 4);
        Due.lawFault("gets 10000;", 2, 5);
        Due.lawFault("gets 1", 1, 6);
        Due.lawFault("gets 1+;", 1, 7);
        Due.lawFault("gets 1 1;", 1, 7);
        Due.lawFault("gets -1;", 1, 5);
        Due.lawFault("gets nears;", 1, 5);
        Due.lawFault("gets least 1,2);", 1, 11);
        Due.lawFault("gets least(1);", 1, 12);
        Due.lawFault("gets least(1,2;", 1, 14);
        Due.lawFault("gets most(1,2,3);", 1, 13);
        Due.lawFault("gets (1;", 1, 7);
        Due.lawFault("gets 1);", 1, 6);
        Due.lawFault("gets [1<2];", 1, 5);
        Due.lawFault("gets not 1;", 1, 5);
        Due.lawFault("gets 1<2;", 1, 6);
        Due.lawFault("gets 1 ifnear<2;", 1, 7);
        Due.lawFault("gets 1 if;", 1, 9);
        Due.lawFault("gets 1 if near;", 1, 14);
        Due.lawFault("gets 1 if near<2<3;", 1, 16);
        Due.lawFault("gets 1 if (near<2);", 1, 15);
        Due.lawFault("gets 1 if [near<2;", 1, 17);
        Due.lawFault("gets 1 if [near];", 1, 15);
        Due.lawFault("gets 1 if near<2 or;", 1, 19);
        Due.lawFault("gets 1 if near<2 and or near<2;", 1, 21);
        Due.lawFault("gets 1 if near<2 if near<2;", 1, 17);
        Due.lawFault("gets 1 if near<10000;", 2, 15);
        Due.lawFault("gets 1 if not not not not not not not 1<2;", 3, 34);
        Due.lawFault("gets 1 if not [not [(((1<2;", 3, 22);
        Due.lawFault("gets 1 if [[[[[[[1<2;", 3, 16);
        Due.lawFault("gets ((((((least(1,2)))))));", 3, 16);
        Due.lawFault("gets ((((((leas(1,2)))))));", 1, 11);
        Due.is("6 open", Due.law(new MiddleUnseen(), "gets ((((((1)))))) + ((((((1))))));"), 0);
        Due.is("5 open and least", Due.law(new MiddleUnseen(), "gets (((((least(1,2))))));"), 0);
        Due.is("a not till its B ends", Due.law(new MiddleUnseen(),
                "gets 1 if not not not not not not 1<2 and not not not not not not 1<2 or not [not [not [1<2]]];"), 0);
        Due.is("not [ and ( together", Due.law(new MiddleUnseen(), "gets 1 if not [not [((1))<2]];"), 0);
        Due.lawFault("gets 1 if not [not [(((1)))<2]];", 3, 22);
    }

    private static void fault() {
        MiddleUnseen x = new MiddleUnseen();
        Due.law(x, "gets 1");
        Due.is("a fault", x.fault(), 6);
        Due.illegal("no text", () -> x.task(1));
        Due.is("it stays, if nothing is read", x.fault(), 6);
        Due.feed(x, "keep");
        Due.is("it stays by feed", x.fault(), 6);
        Due.is("a text without", x.task(0), 0);
        Due.is("no fault", x.fault(), -1);
    }
}
