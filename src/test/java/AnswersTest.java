/** Promises 25 to 34: what lookers answered, and what groups of them come to. */
public final class AnswersTest {
    public static void main(String[] args) {
        answers();
        share();
        guessed();
        apart();
        gone();
        lost();
        cost();
        off();
        Due.end("AnswersTest");
    }

    private static MiddleUnseen stage() {
        MiddleUnseen x = new MiddleUnseen();
        Due.scene(x, "thing 0 1;thing 1 1;throw 0 1 1;throw 0 1 2;throw 1 0 3;throw 0 1 4;");
        x.scene(0);
        Due.task(x, "count 0;");
        Due.task(x, "count 1;");
        x.task(0);
        return x;
    }

    /** Some new lookers who were asked, of whom some said yes. */
    private static void group(MiddleUnseen x, int scene, int task, int asking, int asked, int yes) {
        for (int k = 0; k < asked; k++) {
            x.answer(x.looker(scene, task, false), asking, k < yes);
        }
    }

    private static void answers() {
        MiddleUnseen x = stage();
        x.looker(0, 0, false);
        x.looker(0, 0, true);
        Due.is("nothing yet", x.answer(0, 0, true), -1);
        Due.is("it was yes", x.answer(0, 0, false), 1);
        Due.is("it was no", x.answer(0, 0, false), 0);
        Due.is("another asking", x.answer(0, 2, true), -1);
        Due.is("another looker", x.answer(1, 0, true), -1);
        Due.illegal("looker 2", () -> x.answer(2, 0, true));
        Due.illegal("looker -1", () -> x.answer(-1, 0, true));
        Due.illegal("asking 3", () -> x.answer(0, 3, true));
        Due.illegal("asking -1", () -> x.answer(0, -1, true));
        Due.is("counted nothing", x.counted(0, 0), -1);
        Due.is("counted 0", x.counted(0, 999), 0);
        Due.is("counted 999", x.counted(0, 5), 999);
        Due.illegal("counted 1000", () -> x.counted(0, 1000));
        Due.illegal("counted -1", () -> x.counted(0, -1));
        Due.illegal("counted by 2", () -> x.counted(2, 1));
        Due.is("sure of nothing", x.sure(0, 0), -1);
        Due.is("sure 0", x.sure(0, 100), 0);
        Due.is("sure 100", x.sure(0, 5), 100);
        Due.illegal("sure 101", () -> x.sure(0, 101));
        Due.illegal("sure -1", () -> x.sure(0, -1));
        Due.illegal("sure by 2", () -> x.sure(2, 1));
    }

    private static void shareIs(MiddleUnseen x, int asking, int... due) {
        for (int k = 0; k < 4; k++) {
            Due.is("share " + asking + ", " + k, x.share(0, 0, asking, k), due[k]);
        }
    }

    private static void share() {
        MiddleUnseen x = stage();
        group(x, 0, 0, 0, 9, 4);
        x.answer(x.looker(0, 0, true), 0, true);
        x.answer(x.looker(0, 1, false), 0, true);
        x.answer(x.looker(1, 0, false), 0, true);
        x.looker(0, 0, false);
        x.answer(0, 1, false);
        x.answer(1, 1, true);
        shareIs(x, 0, 9, 4, 1, 7);
        shareIs(x, 1, 2, 1, 0, 2);
        shareIs(x, 2, 0, 0, 0, 0);
        x.answer(0, 0, false);
        // 3: the root is 1
        shareIs(x, 0, 9, 3, 1, 5);
        for (int k = 0; k < 9; k++) {
            x.answer(k, 0, true);
        }
        shareIs(x, 0, 9, 9, 5, 9);
        x.answer(8, 0, false);
        shareIs(x, 0, 9, 8, 5, 9);
        for (int k = 0; k < 9; k++) {
            x.answer(k, 0, false);
        }
        shareIs(x, 0, 9, 0, 0, 1);
        Due.noScene("no scene comes first", () -> x.share(2, 9, 9, 9));
        Due.outside("no task comes next", () -> x.share(0, 3, 9, 9));
        Due.illegal("asking 3", () -> x.share(0, 0, 3, 0));
        Due.illegal("asking -1", () -> x.share(0, 0, -1, 0));
        Due.illegal("what 4", () -> x.share(0, 0, 0, 4));
        Due.illegal("what -1", () -> x.share(0, 0, 0, -1));
    }

    private static void guessed() {
        MiddleUnseen x = stage();
        group(x, 0, 0, 0, 7, 3);
        Due.is("the other has none", x.guessed(0, 1, 0, 0), -1);
        Due.is("none here", x.guessed(1, 0, 0, 0), -1);
        group(x, 1, 0, 0, 3, 1);
        // 1000 (3 3 - 1 7) by 7 (3 - 1)
        Due.is("cut", x.guessed(0, 1, 0, 0), 142);
        Due.is("by itself", x.guessed(0, 0, 0, 0), 0);
        // 1000 (1 7 - 3 3) by 3 (7 - 3) is below 0
        Due.is("0 at least", x.guessed(1, 0, 0, 0), 0);
        for (int k = 7; k < 10; k++) {
            x.answer(k, 0, true);
        }
        Due.is("all guess it", x.guessed(0, 1, 0, 0), -1);
        for (int k = 7; k < 10; k++) {
            x.answer(k, 0, false);
        }
        Due.is("none guesses it", x.guessed(0, 1, 0, 0), 428);
        Due.is("another task", x.guessed(0, 1, 1, 0), -1);
        Due.noScene("no scene comes first", () -> x.guessed(2, 0, 9, 9));
        Due.noScene("nor the other one", () -> x.guessed(0, 2, 9, 9));
        Due.outside("no task comes next", () -> x.guessed(0, 1, 3, 9));
        Due.illegal("asking", () -> x.guessed(0, 1, 0, 3));
    }

    private static void apart() {
        MiddleUnseen x = stage();
        group(x, 0, 0, 1, 5, 4);
        group(x, 1, 1, 1, 6, 2);
        Due.is("apart", x.apart(0, 0, 1, 1, 1, 0), 4 * 6 - 2 * 5);
        Due.is("turned round", x.apart(1, 1, 0, 0, 1, 0), -14);
        // of 11 with 6 yes, 5 are chosen: with 4 yes 15 times 5, with 5 yes 6
        Due.is("ways", x.apart(0, 0, 1, 1, 1, 1), 81);
        Due.is("all", x.apart(0, 0, 1, 1, 1, 2), 462);
        // 6 are chosen: with 2 yes or more all but the one with 1 yes and all 5 no, 6 ways
        Due.is("ways turned round", x.apart(1, 1, 0, 0, 1, 1), 456);
        Due.is("none at all", x.apart(0, 0, 1, 1, 0, 0), 0);
        Due.is("one way", x.apart(0, 0, 1, 1, 0, 1), 1);
        Due.is("of one", x.apart(0, 0, 1, 1, 0, 2), 1);
        Due.is("by itself", x.apart(0, 0, 0, 0, 1, 2), 252);
        Due.noScene("no scene comes first", () -> x.apart(2, 9, 0, 9, 9, 9));
        Due.noScene("nor the other one", () -> x.apart(0, 9, -1, 9, 9, 9));
        Due.outside("no task", () -> x.apart(0, 3, 0, 0, 9, 9));
        Due.outside("nor the other one", () -> x.apart(0, 0, 0, 3, 9, 9));
        Due.illegal("asking", () -> x.apart(0, 0, 0, 0, 3, 0));
        Due.illegal("what 3", () -> x.apart(0, 0, 0, 0, 0, 3));
        Due.illegal("what -1", () -> x.apart(0, 0, 0, 0, 0, -1));
        MiddleUnseen y = stage();
        group(y, 0, 0, 0, 14, 7);
        Due.is("the most there can be", y.apart(0, 0, 0, 0, 0, 2), 40116600);
        // 7 yes of 14 and 7 of 14 more: half of all ways, and half of those with 7, which are 3432 times 3432
        Due.is("ways of them", y.apart(0, 0, 0, 0, 0, 1), (40116600 + 3432 * 3432) / 2);
    }

    private static void gone() {
        MiddleUnseen x = stage();
        for (int bits = 0; bits < 8; bits++) {
            x.looker(0, 0, false);
            for (int k = 0; k < 3; k++) {
                x.answer(bits, k, (bits >> k & 1) != 0);
            }
        }
        // gone are 100 and 110 (from asking 2 down), never is 000
        Due.is("gone", x.gone(0, 0, 0), 2);
        Due.is("never", x.gone(0, 0, 1), 1);
        Due.is("all three", x.gone(0, 0, 2), 8);
        int knows = x.looker(0, 0, true);
        int part = x.looker(0, 0, false);
        int other = x.looker(0, 1, false);
        for (int k = 0; k < 3; k++) {
            x.answer(knows, k, k == 2);
            x.answer(other, k, false);
        }
        x.answer(part, 0, false);
        x.answer(part, 2, true);
        Due.is("who knows, or was not asked all", x.gone(0, 0, 0), 2);
        Due.is("nor here", x.gone(0, 0, 2), 8);
        x.answer(part, 1, false);
        int late = x.looker(0, 0, false);
        x.answer(late, 1, false);
        x.answer(late, 2, true);
        Due.is("asked all", x.gone(0, 0, 0), 3);
        Due.is("who was not asked 0", x.gone(0, 0, 2), 9);
        Due.is("of another task", x.gone(0, 1, 1), 1);
        Due.is("of another scene", x.gone(1, 0, 2), 0);
        Due.noScene("no scene comes first", () -> x.gone(2, 9, 9));
        Due.outside("no task comes next", () -> x.gone(0, 3, 9));
        Due.illegal("what 3", () -> x.gone(0, 0, 3));
        Due.illegal("what -1", () -> x.gone(0, 0, -1));
    }

    private static void lost() {
        MiddleUnseen x = stage();
        x.looker(0, 0, false);
        x.looker(0, 1, true);
        x.looker(0, 2, false);
        Due.is("told no number", x.lost(0), -1);
        x.counted(0, 1);
        x.counted(1, 5);
        x.counted(2, 1);
        Due.is("2 of 3", x.lost(0), 2);
        Due.is("4 too many", x.lost(1), 4);
        Due.is("nothing is counted", x.lost(2), -1);
        x.counted(0, 3);
        Due.is("none", x.lost(0), 0);
        Due.illegal("looker 3", () -> x.lost(3));
        Due.illegal("looker -1", () -> x.lost(-1));
    }

    private static void cost() {
        MiddleUnseen x = stage();
        int[] tasks = {0, 0, 0, 1, 1, 2};
        for (int k = 0; k < 6; k++) {
            x.looker(0, tasks[k], k == 1);
            x.counted(k, k);
        }
        x.looker(0, 0, false);
        x.counted(x.looker(1, 0, false), 50);
        // the first ones lost 3, 2 and 1 of 3 throws, the others 2 and 3 more than the one
        Due.is("cost", x.cost(0, 0, 1), 6 * 2 - 5 * 3);
        Due.is("turned round", x.cost(0, 1, 0), 3);
        Due.is("by itself", x.cost(0, 0, 0), 0);
        Due.is("the other counts nothing", x.cost(0, 0, 2), 0);
        Due.is("the first counts nothing", x.cost(0, 2, 0), 0);
        Due.is("at another scene", x.cost(1, 0, 1), 0);
        x.counted(x.looker(1, 1, true), 4);
        Due.is("no throws there", x.cost(1, 0, 1), 50 - 4);
        Due.noScene("no scene comes first", () -> x.cost(2, 9, 9));
        Due.outside("no task", () -> x.cost(0, 3, 0));
        Due.outside("nor the other one", () -> x.cost(0, 0, -1));
    }

    private static void off() {
        MiddleUnseen x = stage();
        int[] sure = {50, 49, 80, 100, -1, 60, 70};
        for (int k = 0; k < 7; k++) {
            x.looker(0, 0, k == 6);
            if (k != 5) {
                x.answer(k, 0, k == 2 || k == 4);
            }
            if (sure[k] >= 0) {
                x.sure(k, sure[k]);
            }
        }
        Due.is("off", x.off(0, 0, 0), 50 + 49 + 80 + 100 - 100);
        Due.is("bold", x.off(0, 0, 1), 2);
        x.answer(0, 0, true);
        x.answer(1, 0, true);
        x.answer(3, 0, true);
        Due.is("below 0", x.off(0, 0, 0), 279 - 400);
        Due.is("none is bold", x.off(0, 0, 1), 0);
        Due.is("another task", x.off(0, 1, 0), 0);
        Due.noScene("no scene comes first", () -> x.off(2, 9, 9));
        Due.outside("no task comes next", () -> x.off(0, 3, 9));
        Due.illegal("what 2", () -> x.off(0, 0, 2));
        Due.illegal("what -1", () -> x.off(0, 0, -1));
    }
}
