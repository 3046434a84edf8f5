/** Promises 35 to 45: odds of laws, the scene to deal next, who knows, crossings, images, counts. */
public final class OddsTest {
    public static void main(String[] args) {
        weigh();
        odds();
        fits();
        next();
        knowing();
        crossing();
        images();
        imagesHoldAll();
        imageOfAllThatThereCanBe();
        whatIsSaidIsAsInTheImage();
        counts();
        Due.end("OddsTest");
    }

    /**
     * Scene 0 has an odd one of size 4 in the middle, scene 1 one of size 8 at 0, 0, scene 2 has none.
     * By law 0 all see it, by law 1 none, by law 2 those whose eyes are near, by law 3 if it is large.
     */
    private static MiddleUnseen stage() {
        MiddleUnseen x = new MiddleUnseen();
        Due.scene(x, "thing 0 4;way 0 0 20 15 9 20 15;odd 0;turn 0 5 1;");
        Due.scene(x, "thing 0 8;way 0 0 0 0 9 0 0;odd 0;");
        Due.scene(x, "thing 0 8;way 0 0 0 0 9 0 0;turn 0 5 1;");
        x.task(0);
        Due.task(x, "watch 1;");
        Due.law(x, "gets 99;line 99;");
        Due.law(x, "gets 0;");
        Due.law(x, "gets 99 if near<5;line 99;keeps 0 if watch=1;");
        Due.law(x, "gets 99 if size>5;line 99;sure 9999 if watch=1;");
        return x;
    }

    private static void weigh() {
        MiddleUnseen x = stage();
        Due.is("1 at first", x.weigh(0, 9), 1);
        Due.is("9", x.weigh(0, 1), 9);
        Due.is("another", x.weigh(3, 2), 1);
        Due.outside("no law comes first", () -> x.weigh(4, 0));
        Due.outside("law -1", () -> x.weigh(-1, 1));
        Due.illegal("weight 0", () -> x.weigh(0, 0));
        Due.illegal("weight 10", () -> x.weigh(0, 10));
        Due.is("4 at first", x.wrong(8), 4);
        Due.is("8", x.wrong(1), 8);
        Due.illegal("wrong 0", () -> x.wrong(0));
        Due.illegal("wrong 9", () -> x.wrong(9));
        Due.is("1", x.count(8), 1);
    }

    private static void oddsAre(MiddleUnseen x, long... due) {
        for (int k = 0; k < 4; k++) {
            Due.is("odds(" + k + ")", x.odds(k), due[k]);
        }
    }

    private static void odds() {
        MiddleUnseen x = stage();
        oddsAre(x, 1, 1, 1, 1);
        Due.is("the first of alike ones", x.best(), 0);
        x.answer(x.looker(0, 0, false), 0, true);
        oddsAre(x, 12, 4, 12, 4);
        x.answer(x.looker(1, 0, false), 0, true);
        oddsAre(x, 144, 16, 48, 48);
        x.answer(x.looker(0, 0, true), 0, true);
        x.answer(x.looker(2, 0, false), 0, true);
        x.answer(x.looker(0, 0, false), 1, true);
        oddsAre(x, 144, 16, 48, 48);
        x.answer(1, 0, false);
        oddsAre(x, 48, 48, 144, 16);
        Due.is("the best", x.best(), 2);
        // of task 1 law 2 forgets, and law 3 is not sure
        x.answer(x.looker(1, 1, false), 0, false);
        oddsAre(x, 192, 576, 1728, 192);
        x.wrong(1);
        oddsAre(x, 15, 225, 3375, 15);
        x.weigh(1, 9);
        oddsAre(x, 15, 2025, 3375, 15);
        x.eyes(1, 0, 0, 0);
        oddsAre(x, 15, 2025, 225, 15);
        Due.is("another is best", x.best(), 1);
        x.blink(1, 0, 9);
        oddsAre(x, 225, 2025, 3375, 225);
        Due.outside("law 4", () -> x.odds(4));
        Due.outside("law -1", () -> x.odds(-1));
        MiddleUnseen y = stage();
        for (int k = 0; k < 14; k++) {
            y.answer(y.looker(0, 0, false), 0, true);
        }
        y.wrong(1);
        y.weigh(0, 9);
        oddsAre(y, 9L * 29192926025390625L, 1, 29192926025390625L, 1);
    }

    private static void fits() {
        MiddleUnseen z = stage();
        z.answer(z.looker(0, 1, false), 0, true);
        // law 2 has it forgotten, which is no to asking 0
        oddsAre(z, 12, 4, 4, 4);
        Due.is("forgotten parts", z.fits(0), 1);
        MiddleUnseen x = stage();
        Due.is("nothing parts", x.fits(0), 15);
        x.answer(x.looker(0, 0, false), 0, true);
        x.answer(x.looker(0, 0, false), 0, true);
        x.answer(x.looker(1, 0, false), 0, true);
        Due.is("by 0", x.fits(0), 1);
        Due.is("by 1", x.fits(1), 5);
        Due.is("by 2", x.fits(2), 13);
        Due.is("by 3", x.fits(3), 15);
        Due.is("by 14", x.fits(14), 15);
        Due.illegal("by 15", () -> x.fits(15));
        Due.illegal("by -1", () -> x.fits(-1));
    }

    private static void next() {
        MiddleUnseen x = new MiddleUnseen();
        Due.is("nothing", x.next(), -1);
        Due.law(x, "gets 99;line 99;");
        Due.is("no scene", x.next(), -1);
        x.scene(0);
        x.task(0);
        Due.is("no odd one", x.next(), -1);
        Due.scene(x, "thing 0 8;odd 0;");
        Due.is("one law", x.next(), 10);
        MiddleUnseen y = stage();
        // yes by laws 0 and 2 there; of scene 1 yes by 0 and 3; with task 1 by law 0 alone
        Due.is("the first of alike ones", y.next(), 0);
        y.weigh(1, 9);
        y.weigh(2, 9);
        y.weigh(3, 3);
        // lesser ones: 10 (0, 2 beside 1, 3), 1, 4 (0, 3 beside 1, 2), 1
        Due.is("scene 0", y.next(), 0);
        y.weigh(1, 1);
        y.weigh(0, 9);
        y.weigh(3, 9);
        // 10, 9, 10, 9
        Due.is("alike again", y.next(), 0);
        y.weigh(1, 9);
        y.weigh(3, 1);
        y.weigh(2, 3);
        // 10 (12 beside 10), 9, 10 (10 beside 12)
        y.weigh(1, 2);
        // 3 (12 beside 3), 6 (9 beside 6), 5 (10 beside 5), 6
        Due.is("task 1", y.next(), 1);
        y.weigh(2, 1);
        y.weigh(3, 9);
        y.weigh(0, 1);
        // 2 (2 beside 11), 1, 3 (10 beside 3), 1
        Due.is("scene 1", y.next(), 10);
        for (int k = 0; k < 14; k++) {
            y.looker(1, 0, false);
            y.eyes(k, 0, 0, 0);
        }
        Due.is("a new looker has no eyes told", y.next(), 10);
        y.answer(0, 0, false);
        // odds: 4, 24, 4, 36 of lookers who are near: 8 beside 60, 4 beside 64, 40 beside 28, 4 beside 64
        Due.is("with odds", y.next(), 10);
    }

    private static void knowing() {
        MiddleUnseen x = stage();
        x.looker(0, 0, true);
        x.looker(1, 0, true);
        x.looker(2, 0, true);
        x.looker(0, 0, false);
        x.looker(0, 1, true);
        Due.is("who know", x.knowing(0, 0), 4);
        Due.is("who say yes", x.knowing(0, 1), 3);
        Due.is("of these not the change", x.knowing(0, 2), 1);
        Due.is("none by law 1", x.knowing(1, 1), 0);
        Due.is("by law 2", x.knowing(2, 1), 1);
        x.blink(0, 5, 9);
        Due.is("shut as it turns", x.knowing(0, 2), 2);
        Due.outside("no law comes first", () -> x.knowing(4, 9));
        Due.illegal("what 3", () -> x.knowing(0, 3));
        Due.illegal("what -1", () -> x.knowing(0, -1));
    }

    private static void crossing() {
        MiddleUnseen x = stage();
        Due.is("open", x.crossing(0, 0, 0, 0), 3);
        Due.is("no odd one: not seen", x.crossing(2, 0, 2, 0), 1);
        x.answer(x.looker(0, 0, false), 0, true);
        Due.is("by laws 0 and 2 it is seen", x.crossing(0, 0, 0, 0), 2);
        Due.is("forgotten by law 2", x.crossing(0, 1, 0, 0), 3);
        Due.is("asked for odd ones", x.crossing(0, 1, 1, 0), 2);
        Due.is("and at scene 1", x.crossing(1, 0, 0, 0), 3);
        Due.is("by all", x.crossing(0, 0, 0, 14), 3);
        x.answer(0, 0, false);
        Due.is("by laws 1 and 3 it is not seen", x.crossing(0, 0, 2, 0), 1);
        Due.is("of scene 1", x.crossing(1, 0, 2, 0), 3);
        Due.is("not sure by law 3", x.crossing(1, 1, 1, 0), 1);
        Due.is("but a what", x.crossing(1, 1, 2, 0), 3);
        x.answer(x.looker(0, 0, false), 0, true);
        Due.is("none fits", x.crossing(0, 0, 0, 0), 0);
        Due.is("by one", x.crossing(0, 0, 0, 1), 3);
        Due.noScene("no scene comes first", () -> x.crossing(3, 9, 9, 99));
        Due.outside("no task comes next", () -> x.crossing(0, 2, 9, 99));
        Due.illegal("asking 3", () -> x.crossing(0, 0, 3, 0));
        Due.illegal("asking -1", () -> x.crossing(0, 0, -1, 0));
        Due.illegal("by 15", () -> x.crossing(0, 0, 0, 15));
        Due.illegal("by -1", () -> x.crossing(0, 0, 0, -1));
        MiddleUnseen y = new MiddleUnseen();
        y.scene(0);
        y.task(0);
        Due.is("no laws", y.crossing(0, 0, 0, 0), 0);
    }

    private static void images() {
        MiddleUnseen x = stage();
        Due.is("none to restore", x.restore(), -1);
        Due.is("first", x.image(), 1);
        x.looker(0, 0, false);
        Due.is("second", x.image(), 2);
        x.looker(0, 0, true);
        Due.is("third", x.image(), 3);
        x.looker(0, 0, false);
        Due.is("a fourth", x.image(), -1);
        Due.is("images", x.count(6), 3);
        Due.is("back to the third", x.restore(), 2);
        Due.is("two lookers", x.count(3), 2);
        Due.is("back to the second", x.restore(), 1);
        Due.is("one looker", x.count(3), 1);
        x.looker(1, 1, true);
        Due.is("an image again", x.image(), 2);
        x.answer(1, 0, true);
        Due.is("back", x.restore(), 1);
        Due.is("nothing answered", x.answer(1, 0, true), -1);
        Due.is("back to the first", x.restore(), 0);
        Due.is("no lookers", x.count(3), 0);
        Due.is("gone", x.restore(), -1);
    }

    private static void imagesHoldAll() {
        MiddleUnseen x = stage();
        x.looker(0, 0, false);
        x.eyes(0, 0, 1, 1);
        x.blink(0, 7, 7);
        x.counted(0, 5);
        x.sure(0, 6);
        x.weigh(1, 7);
        x.wrong(3);
        Due.is("not near", x.says(2, 0, 0), false);
        x.image();
        x.eyes(0, 0, 20, 15);
        x.blink(0, 3, 3);
        x.answer(0, 0, true);
        x.counted(0, 8);
        x.sure(0, 9);
        x.weigh(1, 2);
        x.weigh(0, 5);
        x.wrong(2);
        x.scene(0);
        x.task(0);
        Due.feed(x, "abc");
        Due.is("near", x.says(2, 0, 0), true);
        x.restore();
        Due.is("as it was", x.says(2, 0, 0), false);
        Due.is("eyes", x.eye(0, 3), 101);
        Due.is("rows", x.count(4), 1);
        Due.is("blinks", x.count(5), 1);
        Due.is("the blink", x.eye(0, 7), -1);
        Due.is("answer", x.answer(0, 0, true), -1);
        Due.is("counted", x.counted(0, 1), 5);
        Due.is("sure", x.sure(0, 1), 6);
        Due.is("weight 1", x.weigh(1, 1), 7);
        Due.is("weight 0", x.weigh(0, 1), 1);
        Due.is("wrong", x.wrong(1), 3);
        Due.is("scenes stay", x.count(0), 4);
        Due.is("tasks stay", x.count(1), 3);
        Due.is("laws stay", x.count(2), 4);
        Due.is("the tape stays", x.count(7), 20);
        MiddleUnseen y = new MiddleUnseen();
        y.image();
        y.law(0);
        y.weigh(0, 9);
        y.restore();
        Due.is("a law told since weighs as at first", y.weigh(0, 1), 1);
        y.scene(0);
        y.task(0);
        y.image();
        y.looker(0, 0, true);
        y.answer(0, 0, true);
        y.sure(0, 1);
        y.restore();
        Due.is("a new looker in its place", y.looker(0, 0, false), 0);
        Due.is("has not answered", y.answer(0, 0, true), -1);
        Due.is("nor was it sure", y.sure(0, 1), -1);
        Due.is("nor does it know", y.knowing(0, 0), 0);
    }

    private static int kept(int k) {
        return k * 7 % 5 % 3 - 1;
    }

    private static void answerAll(MiddleUnseen x) {
        for (int k = 0; k < 14; k++) {
            for (int asking = 0; asking < 3; asking++) {
                if (kept(3 * k + asking) >= 0) {
                    x.answer(k, asking, kept(3 * k + asking) == 1);
                }
            }
            x.counted(k, 10 + k);
            x.sure(k, 50 + k);
        }
    }

    /** Fourteen lookers, 60 rows of eyes, 40 blinks, four weights: all is as it was. */
    private static void imageOfAllThatThereCanBe() {
        MiddleUnseen x = stage();
        for (int k = 0; k < 14; k++) {
            x.looker(k % 3, k % 2, k % 4 == 3);
        }
        answerAll(x);
        for (int k = 0; k < 59; k++) {
            x.eyes(k % 14, k, k % 40, k % 30);
        }
        for (int k = 0; k < 39; k++) {
            x.blink(k % 14, 100 + k, 100 + k);
        }
        for (int law = 0; law < 4; law++) {
            x.weigh(law, 2 + law);
        }
        x.wrong(7);
        Due.is("the image", x.image(), 1);
        for (int k = 0; k < 14; k++) {
            for (int asking = 0; asking < 3; asking++) {
                x.answer(k, asking, kept(3 * k + asking) != 1);
            }
            x.counted(k, 0);
            x.sure(k, 0);
        }
        Due.is("the 60th row", x.eyes(13, 0, 1, 1), 60);
        Due.is("the 40th blink", x.blink(13, 0, 1), 40);
        for (int law = 0; law < 4; law++) {
            x.weigh(law, 9);
        }
        x.wrong(1);
        Due.is("back", x.restore(), 0);
        for (int k = 0; k < 14; k++) {
            for (int asking = 0; asking < 3; asking++) {
                Due.is("answer of " + k + " to " + asking, x.answer(k, asking, true), kept(3 * k + asking));
            }
            Due.is("counted by " + k, x.counted(k, 1), 10 + k);
            Due.is("how sure " + k + " was", x.sure(k, 1), 50 + k);
        }
        Due.is("rows", x.count(4), 59);
        Due.is("blinks", x.count(5), 39);
        Due.is("eyes that were told since", x.eye(13, 0), 2015);
        Due.is("the 59th row", x.eye(58 % 14, 58), 1828);
        Due.is("the 39th blink", x.eye(38 % 14, 138), -1);
        for (int law = 0; law < 4; law++) {
            Due.is("weight of " + law, x.weigh(law, 1), 2 + law);
        }
        Due.is("wrong", x.count(8), 7);
    }

    /** What each looker says by each law goes back with its eyes and blinks. */
    private static void whatIsSaidIsAsInTheImage() {
        MiddleUnseen x = new MiddleUnseen();
        Due.scene(x, "thing 0 4;way 0 0 20 15 9 20 15;odd 0;");
        x.task(0);
        for (int k = 0; k < 4; k++) {
            Due.law(x, "gets 1 if near<" + (k + 1) + ";line 10;");
        }
        for (int k = 0; k < 14; k++) {
            x.looker(0, 0, false);
            x.eyes(k, 0, 20 + k % 5, 15);
        }
        theySay(x, 0, 14);
        x.image();
        for (int k = 0; k < 14; k++) {
            x.eyes(k, 0, 20 + (k + 2) % 5, 15);
        }
        theySay(x, 2, 14);
        x.restore();
        theySay(x, 0, 14);
        x.image();
        x.blink(13, 5, 5);
        x.blink(7, 9, 9);
        Due.is("13 by a blink", x.says(3, 13, 2), false);
        Due.is("7 by a blink", x.says(2, 7, 2), false);
        x.restore();
        theySay(x, 0, 14);
    }

    private static void theySay(MiddleUnseen x, int moved, int lookers) {
        for (int k = 0; k < lookers; k++) {
            for (int law = 0; law < 4; law++) {
                Due.is("looker " + k + " by law " + law, x.says(law, k, 2), (k + moved) % 5 <= law);
            }
        }
    }

    private static void counts() {
        MiddleUnseen x = stage();
        x.looker(0, 0, false);
        x.looker(0, 0, false);
        for (int k = 0; k < 5; k++) {
            x.eyes(0, k, 1, 1);
        }
        for (int k = 0; k < 6; k++) {
            x.blink(1, k, k);
        }
        x.image();
        x.wrong(8);
        Due.feed(x, "x");
        int[] due = {3, 2, 4, 2, 5, 6, 1, 20, 8};
        for (int k = 0; k < 9; k++) {
            Due.is("count(" + k + ")", x.count(k), due[k]);
        }
        Due.is("count(9)", x.count(9), -1);
        Due.is("count(-1)", x.count(-1), -1);
        Due.is("count of the least", x.count(Integer.MIN_VALUE), -1);
    }
}
