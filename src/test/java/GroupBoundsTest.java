/** Terms 4, sentence by sentence: groups, what is apart, lost, off, odds of laws, crossings, at each bound. */
public final class GroupBoundsTest {
    public static void main(String[] args) {
        answersOfThreeAskings();
        countedIs0To999();
        sureIs0To100();
        groupOfASceneAndATask();
        groupOfWhoDoNotKnow();
        groupOfWhoAnsweredTheAsking();
        groupsOfNone();
        spanAtItsEnds();
        spanOfFewAsked();
        guessedOfNone();
        guessedIsCut();
        guessedIs0AtLeast();
        guessedOfThatAsking();
        apartOfTwoGroups();
        waysHaveAsManyYesOrMore();
        allWays();
        goneSaidNoAndYes();
        neverSaidNoToAllThree();
        goneIsOfAllThreeAskings();
        lostEitherWay();
        lostOfNothing();
        costOfOneBesideAnother();
        costOfWhoKnowToo();
        costIfOneCountsNothing();
        offLess100TimesYes();
        offOfThoseWhoToldBoth();
        boldBy50OrMore();
        weightIs1To9();
        wrongIs1To8();
        oddsAreOfWhoAreHeard();
        oddsOfFourteen();
        bestOfAlikeOddsIsTheFirst();
        fitsByNoMoreThan();
        nextIsTheFirstOfTheGreatest();
        nextOfANewLooker();
        nextWithoutLawsOrScenes();
        nextOfMoreTasksThanScenes();
        nextOfMoreScenesThanTasks();
        knowingOfWhoKnow();
        knowingNotTheChange();
        crossingSeenOrNotOrOpen();
        crossingOfWhatFits();
        crossingWithoutAnOddOne();
        newLookersOfEachSceneAndTask();
        newLookersByEachLaw();
        newLookersDrawNothing();
        Due.end("GroupBoundsTest");
    }

    /** Scene 0 has throws, scene 1 has none; task 0 counts colour 0, task 1 colour 1, task 2 nothing. */
    private static MiddleUnseen stage() {
        MiddleUnseen x = new MiddleUnseen();
        Due.scene(x, "thing 0 1;thing 1 1;throw 0 1 1;throw 0 1 2;throw 1 0 3;throw 0 1 4;");
        x.scene(0);
        Due.task(x, "count 0;");
        Due.task(x, "count 1;");
        x.task(0);
        return x;
    }

    /** Some new lookers who were asked, of whom some said yes. */
    private static void group(MiddleUnseen x, int scene, int task, int asking, int asked, int yes) {
        for (int k = 0; k < asked; k++) {
            x.answer(x.looker(scene, task, false), asking, k < yes);
        }
    }

    // ---- answers

    private static void answersOfThreeAskings() {
        MiddleUnseen x = stage();
        for (int k = 0; k < 14; k++) {
            x.looker(0, 0, k % 2 == 0);
        }
        for (int k = 0; k < 14; k++) {
            for (int asking = 0; asking < 3; asking++) {
                Due.is("nothing yet", x.answer(k, asking, (k + asking) % 2 == 0), -1);
            }
        }
        for (int k = 0; k < 14; k++) {
            for (int asking = 0; asking < 3; asking++) {
                Due.is("what " + k + " answered " + asking, x.answer(k, asking, true), 1 - (k + asking) % 2);
            }
        }
        Due.illegal("asking -1", () -> x.answer(0, -1, true));
        Due.illegal("asking 3", () -> x.answer(0, 3, true));
    }

    private static void countedIs0To999() {
        MiddleUnseen x = stage();
        x.looker(0, 0, false);
        Due.illegal("-1", () -> x.counted(0, -1));
        Due.is("0", x.counted(0, 0), -1);
        Due.is("999", x.counted(0, 999), 0);
        Due.illegal("1000", () -> x.counted(0, 1000));
        Due.is("it had told 999", x.counted(0, 1), 999);
    }

    private static void sureIs0To100() {
        MiddleUnseen x = stage();
        x.looker(0, 0, false);
        Due.illegal("-1", () -> x.sure(0, -1));
        Due.is("0", x.sure(0, 0), -1);
        Due.is("100", x.sure(0, 100), 0);
        Due.illegal("101", () -> x.sure(0, 101));
        Due.is("it had told 100", x.sure(0, 1), 100);
    }

    private static void sharesAre(MiddleUnseen x, int scene, int task, int asking, int... due) {
        for (int what = 0; what < 4; what++) {
            Due.is("share " + what + " of scene " + scene + ", task " + task + ", asking " + asking,
                    x.share(scene, task, asking, what), due[what]);
        }
    }

    private static void groupOfASceneAndATask() {
        MiddleUnseen x = stage();
        group(x, 0, 0, 0, 3, 3);
        group(x, 0, 1, 0, 2, 1);
        group(x, 1, 0, 0, 4, 0);
        sharesAre(x, 0, 0, 0, 3, 3, 1, 3);
        sharesAre(x, 0, 1, 0, 2, 1, 0, 2);
        sharesAre(x, 1, 0, 0, 4, 0, 0, 1);
        sharesAre(x, 1, 1, 0, 0, 0, 0, 0);
    }

    private static void groupOfWhoDoNotKnow() {
        MiddleUnseen x = stage();
        for (int k = 0; k < 4; k++) {
            x.answer(x.looker(0, 0, k < 2), 0, k % 2 == 0);
            x.answer(k, 1, true);
            x.answer(k, 2, true);
            x.sure(k, 60);
        }
        sharesAre(x, 0, 0, 0, 2, 1, 0, 2);
        Due.is("gone of who do not know", x.gone(0, 0, 0), 1);
        Due.is("who answered all three", x.gone(0, 0, 2), 2);
        Due.is("off of who do not know", x.off(0, 0, 0), 20);
        Due.is("bold of who do not know", x.off(0, 0, 1), 1);
    }

    private static void groupOfWhoAnsweredTheAsking() {
        MiddleUnseen x = stage();
        for (int k = 0; k < 3; k++) {
            x.looker(0, 0, false);
            for (int asking = 0; asking <= k; asking++) {
                x.answer(k, asking, asking != 1);
            }
        }
        sharesAre(x, 0, 0, 0, 3, 3, 1, 3);
        sharesAre(x, 0, 0, 1, 2, 0, 0, 1);
        sharesAre(x, 0, 0, 2, 1, 1, 0, 1);
    }

    private static void groupsOfNone() {
        MiddleUnseen x = stage();
        x.looker(0, 0, false);
        for (int asking = 0; asking < 3; asking++) {
            sharesAre(x, 0, 0, asking, 0, 0, 0, 0);
            Due.is("guessed off", x.guessed(0, 1, 0, asking), -1);
            Due.is("apart", x.apart(0, 0, 1, 1, asking, 0), 0);
            Due.is("ways", x.apart(0, 0, 1, 1, asking, 1), 1);
            Due.is("all", x.apart(0, 0, 1, 1, asking, 2), 1);
        }
        for (int what = 0; what < 3; what++) {
            Due.is("gone " + what, x.gone(0, 0, what), 0);
        }
        Due.is("lost", x.lost(0), -1);
        Due.is("cost", x.cost(0, 0, 1), 0);
        Due.is("off", x.off(0, 0, 0), 0);
        Due.is("bold", x.off(0, 0, 1), 0);
    }

    private static void spanAtItsEnds() {
        // of 14: yes, the least, the greatest, r being 1, 2 from 1 on, 3 from 4 on, 4 from 9 on
        int[][] due = {{0, 0, 1}, {1, 0, 3}, {2, 0, 4}, {3, 1, 5}, {4, 1, 7}, {5, 2, 8}, {6, 3, 9}, {7, 4, 10}, {8, 5, 11},
            {9, 5, 13}, {10, 6, 14}, {11, 7, 14}, {12, 8, 14}, {13, 9, 14}, {14, 10, 14}};
        MiddleUnseen x = stage();
        group(x, 0, 0, 1, 14, 0);
        for (int[] row : due) {
            if (row[0] > 0) {
                x.answer(row[0] - 1, 1, true);
            }
            sharesAre(x, 0, 0, 1, 14, row[0], row[1], row[2]);
        }
    }

    private static void spanOfFewAsked() {
        MiddleUnseen x = stage();
        group(x, 0, 0, 0, 1, 0);
        sharesAre(x, 0, 0, 0, 1, 0, 0, 1);
        x.answer(0, 0, true);
        sharesAre(x, 0, 0, 0, 1, 1, 0, 1);
        group(x, 0, 0, 0, 2, 0);
        sharesAre(x, 0, 0, 0, 3, 1, 0, 3);
        group(x, 0, 0, 0, 1, 0);
        sharesAre(x, 0, 0, 0, 4, 1, 0, 3);
        x.answer(3, 0, true);
        sharesAre(x, 0, 0, 0, 4, 2, 0, 4);
        group(x, 0, 0, 0, 1, 0);
        sharesAre(x, 0, 0, 0, 5, 2, 0, 4);
    }

    private static void guessedOfNone() {
        MiddleUnseen x = stage();
        Due.is("none at all", x.guessed(0, 1, 0, 0), -1);
        group(x, 0, 0, 0, 2, 1);
        Due.is("none of the other", x.guessed(0, 1, 0, 0), -1);
        Due.is("none of the first", x.guessed(1, 0, 0, 0), -1);
        group(x, 1, 0, 0, 2, 2);
        Due.is("all of the other said yes", x.guessed(0, 1, 0, 0), -1);
        x.answer(2, 0, false);
        Due.is("all but one", x.guessed(0, 1, 0, 0), 0);
        x.answer(3, 0, false);
        Due.is("none said yes", x.guessed(0, 1, 0, 0), 500);
    }

    private static void guessedIsCut() {
        MiddleUnseen x = stage();
        group(x, 0, 0, 0, 7, 6);
        group(x, 1, 0, 0, 7, 1);
        // 1,000 times (6 7 - 1 7), by 7 6: 833 and a third
        Due.is("833", x.guessed(0, 1, 0, 0), 833);
        x.answer(6, 0, true);
        Due.is("all of the first", x.guessed(0, 1, 0, 0), 1000);
        for (int k = 1; k < 7; k++) {
            x.answer(k, 0, false);
        }
        x.answer(7, 0, false);
        Due.is("1 of 7, none guessed", x.guessed(0, 1, 0, 0), 142);
        Due.is("of the other asking", x.guessed(0, 1, 0, 1), -1);
    }

    private static void guessedIs0AtLeast() {
        MiddleUnseen x = stage();
        group(x, 0, 0, 0, 4, 1);
        group(x, 1, 0, 0, 8, 2);
        Due.is("just as many", x.guessed(0, 1, 0, 0), 0);
        x.answer(6, 0, true);
        Due.is("fewer", x.guessed(0, 1, 0, 0), 0);
        x.answer(6, 0, false);
        x.answer(5, 0, false);
        // 1,000 times (1 8 - 1 4), by 4 7: 142 and six sevenths
        Due.is("more", x.guessed(0, 1, 0, 0), 142);
    }

    /** Of four who were asked 0, three were asked 1 and two were asked 2; of five of the other scene four and three. */
    private static void guessedOfThatAsking() {
        MiddleUnseen x = stage();
        for (int k = 0; k < 9; k++) {
            x.looker(k < 4 ? 0 : 1, 0, false);
        }
        for (int asking = 0; asking < 3; asking++) {
            for (int k = 0; k < 4 - asking; k++) {
                x.answer(k, asking, k < 2);
            }
            for (int k = 4; k < 9 - asking; k++) {
                x.answer(k, asking, k < 5);
            }
        }
        // 1,000 times (2 5 - 1 4), by 4 4; (2 4 - 1 3), by 3 3; (2 3 - 1 2), by 2 2
        int[] due = {375, 555, 1000};
        for (int asking = 0; asking < 3; asking++) {
            Due.is("guessed of asking " + asking, x.guessed(0, 1, 0, asking), due[asking]);
        }
    }

    // ---- apart

    private static void apartAre(int asked, int yes, int otherAsked, int otherYes, int apart, int ways, int all) {
        MiddleUnseen x = stage();
        group(x, 0, 0, 2, asked, yes);
        group(x, 1, 1, 2, otherAsked, otherYes);
        String of = " of " + yes + " in " + asked + " and " + otherYes + " in " + otherAsked;
        Due.is("apart" + of, x.apart(0, 0, 1, 1, 2, 0), apart);
        Due.is("ways" + of, x.apart(0, 0, 1, 1, 2, 1), ways);
        Due.is("all" + of, x.apart(0, 0, 1, 1, 2, 2), all);
        Due.is("turned round" + of, x.apart(1, 1, 0, 0, 2, 0), -apart);
        Due.is("all turned round" + of, x.apart(1, 1, 0, 0, 2, 2), all);
    }

    private static void apartOfTwoGroups() {
        apartAre(1, 1, 0, 0, 0, 1, 1);
        apartAre(0, 0, 1, 1, 0, 1, 1);
        apartAre(1, 1, 1, 0, 1, 1, 2);
        apartAre(1, 0, 1, 1, -1, 2, 2);
        apartAre(1, 1, 1, 1, 0, 2, 2);
        apartAre(1, 0, 1, 0, 0, 2, 2);
        apartAre(7, 7, 7, 0, 49, 1, 3432);
        apartAre(7, 0, 7, 7, -49, 3432, 3432);
    }

    private static void waysHaveAsManyYesOrMore() {
        // 3 of 6 are chosen, 3 of them said yes: with 0 to 3 yes 1, 9, 9, 1 ways
        apartAre(3, 3, 3, 0, 9, 1, 20);
        apartAre(3, 2, 3, 1, 3, 10, 20);
        apartAre(3, 1, 3, 2, -3, 19, 20);
        apartAre(3, 0, 3, 3, -9, 20, 20);
        // 2 of 6, 5 of them said yes: with 1 yes 5, with 2 yes 10
        apartAre(2, 2, 4, 3, 2, 10, 15);
        apartAre(2, 1, 4, 4, -4, 15, 15);
        // 4 of 6, 1 of them said yes: with it 10, without it 5
        apartAre(4, 1, 2, 0, 2, 10, 15);
        apartAre(4, 0, 2, 1, -4, 15, 15);
        // 5 of 9, 4 of them said yes: with 4 yes 5, with 3 yes 4 times 10
        apartAre(5, 4, 4, 0, 16, 5, 126);
        apartAre(5, 3, 4, 1, 7, 45, 126);
    }

    private static void allWays() {
        apartAre(14, 5, 0, 0, 0, 1, 1);
        apartAre(0, 0, 14, 5, 0, 1, 1);
        apartAre(13, 0, 1, 0, 0, 14, 14);
        apartAre(10, 0, 4, 0, 0, 1001, 1001);
        apartAre(8, 8, 6, 6, 0, 3003, 3003);
    }

    // ---- gone, lost, cost, off

    private static void goneSaidNoAndYes() {
        MiddleUnseen x = stage();
        x.looker(0, 0, false);
        int[] gone = {0, 0, 0, 0, 1, 0, 1, 0};
        int[] never = {1, 0, 0, 0, 0, 0, 0, 0};
        for (int bits = 0; bits < 8; bits++) {
            for (int asking = 0; asking < 3; asking++) {
                x.answer(0, asking, (bits >> asking & 1) != 0);
            }
            Due.is("gone of " + bits, x.gone(0, 0, 0), gone[bits]);
            Due.is("never of " + bits, x.gone(0, 0, 1), never[bits]);
            Due.is("all three of " + bits, x.gone(0, 0, 2), 1);
        }
    }

    private static void neverSaidNoToAllThree() {
        MiddleUnseen x = stage();
        for (int k = 0; k < 14; k++) {
            x.looker(0, 0, false);
            for (int asking = 0; asking < 3; asking++) {
                x.answer(k, asking, false);
            }
            Due.is("never", x.gone(0, 0, 1), k + 1);
        }
        Due.is("none is gone", x.gone(0, 0, 0), 0);
    }

    private static void goneIsOfAllThreeAskings() {
        for (int missing = 0; missing < 3; missing++) {
            MiddleUnseen x = stage();
            x.looker(0, 0, false);
            x.looker(0, 0, false);
            for (int asking = 0; asking < 3; asking++) {
                if (asking != missing) {
                    x.answer(0, asking, asking == 2);
                    x.answer(1, asking, false);
                }
            }
            for (int what = 0; what < 3; what++) {
                Due.is("without " + missing + ", what " + what, x.gone(0, 0, what), 0);
            }
            x.answer(0, missing, missing == 2);
            x.answer(1, missing, false);
            Due.is("gone with " + missing, x.gone(0, 0, 0), 1);
            Due.is("never with " + missing, x.gone(0, 0, 1), 1);
            Due.is("all with " + missing, x.gone(0, 0, 2), 2);
        }
    }

    private static void lostEitherWay() {
        MiddleUnseen x = stage();
        x.looker(0, 0, false);
        int[][] due = {{0, 3}, {1, 2}, {2, 1}, {3, 0}, {4, 1}, {999, 996}};
        for (int[] row : due) {
            x.counted(0, row[0]);
            Due.is("lost by " + row[0] + " of 3", x.lost(0), row[1]);
        }
        x.counted(x.looker(1, 0, true), 999);
        Due.is("no throws there", x.lost(1), 999);
    }

    private static void lostOfNothing() {
        MiddleUnseen x = stage();
        x.looker(0, 0, false);
        x.looker(0, 2, false);
        Due.is("it told no number", x.lost(0), -1);
        x.counted(0, 0);
        Due.is("it told 0", x.lost(0), 3);
        Due.is("neither", x.lost(1), -1);
        x.counted(1, 0);
        Due.is("the task counts nothing", x.lost(1), -1);
    }

    private static void costOfOneBesideAnother() {
        MiddleUnseen x = stage();
        x.counted(x.looker(0, 0, false), 1);
        Due.is("none of the other", x.cost(0, 0, 1), 0);
        x.looker(0, 1, false);
        Due.is("none who told of the other", x.cost(0, 0, 1), 0);
        x.counted(1, 1);
        Due.is("2 beside 0", x.cost(0, 0, 1), 2);
        Due.is("turned round", x.cost(0, 1, 0), -2);
        x.counted(x.looker(0, 1, false), 6);
        // 2 times 2, less 5 times 1
        Due.is("by how many of the other told", x.cost(0, 0, 1), -1);
        x.looker(0, 0, false);
        x.looker(0, 1, false);
        Due.is("who told nothing do not matter", x.cost(0, 0, 1), -1);
        Due.is("nor at another scene", x.cost(1, 0, 1), 0);
    }

    private static void costOfWhoKnowToo() {
        MiddleUnseen x = stage();
        x.counted(x.looker(0, 0, true), 1);
        x.counted(x.looker(0, 1, true), 1);
        Due.is("who know, too", x.cost(0, 0, 1), 2);
    }

    private static void costIfOneCountsNothing() {
        MiddleUnseen x = stage();
        x.counted(x.looker(0, 0, false), 9);
        x.counted(x.looker(0, 2, false), 9);
        Due.is("the other", x.cost(0, 0, 2), 0);
        Due.is("the first", x.cost(0, 2, 0), 0);
        Due.is("both", x.cost(0, 2, 2), 0);
    }

    private static void offLess100TimesYes() {
        MiddleUnseen x = stage();
        group(x, 0, 0, 0, 3, 0);
        for (int k = 0; k < 3; k++) {
            x.sure(k, 100);
        }
        int[] due = {300, 200, 100, 0};
        for (int yes = 0; yes <= 3; yes++) {
            if (yes > 0) {
                x.answer(yes - 1, 0, true);
            }
            Due.is("off with " + yes + " yes", x.off(0, 0, 0), due[yes]);
        }
        for (int k = 0; k < 3; k++) {
            x.sure(k, 0);
        }
        Due.is("below 0", x.off(0, 0, 0), -300);
    }

    private static void offOfThoseWhoToldBoth() {
        MiddleUnseen x = stage();
        group(x, 0, 0, 0, 2, 2);
        x.sure(0, 70);
        Due.is("who told no answer 1 how sure", x.off(0, 0, 0), -30);
        x.sure(x.looker(0, 0, false), 80);
        Due.is("who did not answer", x.off(0, 0, 0), -30);
        x.answer(2, 1, false);
        Due.is("who answered another asking", x.off(0, 0, 0), -30);
        Due.is("nor is it bold", x.off(0, 0, 1), 0);
        x.answer(2, 0, false);
        Due.is("who told both", x.off(0, 0, 0), 50);
        Due.is("is bold", x.off(0, 0, 1), 1);
    }

    private static void boldBy50OrMore() {
        MiddleUnseen x = stage();
        group(x, 0, 0, 0, 2, 1);
        int[][] due = {{0, 0}, {49, 0}, {50, 1}, {51, 1}, {100, 1}};
        for (int[] row : due) {
            x.sure(0, row[0]);
            x.sure(1, row[0]);
            Due.is("bold by " + row[0], x.off(0, 0, 1), row[1]);
        }
    }

    // ---- odds

    /** By law 0 it is seen, by law 1 it is not, by law 2 it is if the task watches, by law 3 it is forgotten. */
    private static MiddleUnseen lawful() {
        MiddleUnseen x = new MiddleUnseen();
        Due.scene(x, "thing 0 4;way 0 0 20 15 9 20 15;odd 0;turn 0 9 1;");
        Due.scene(x, "thing 0 4;way 0 0 20 15 9 20 15;turn 0 9 1;");
        x.task(0);
        Due.task(x, "watch 1;");
        Due.law(x, "gets 9;line 9;");
        Due.law(x, "gets 9;line 91;");
        Due.law(x, "gets 9 if watch=1;line 9;");
        Due.law(x, "gets 9;line 9;keeps 8;");
        return x;
    }

    private static void weightIs1To9() {
        MiddleUnseen x = lawful();
        Due.illegal("0", () -> x.weigh(3, 0));
        Due.illegal("10", () -> x.weigh(3, 10));
        Due.is("1 at first", x.odds(3), 1);
        for (int v = 1; v <= 9; v++) {
            Due.is("what it was", x.weigh(3, v), Math.max(1, v - 1));
            Due.is("odds of none but the weight", x.odds(3), v);
        }
    }

    private static void wrongIs1To8() {
        MiddleUnseen x = lawful();
        x.answer(x.looker(0, 0, false), 0, true);
        Due.illegal("0", () -> x.wrong(0));
        Due.illegal("9", () -> x.wrong(9));
        Due.is("as it did", x.odds(0), 12);
        Due.is("not as it did", x.odds(1), 4);
        for (int v = 1; v <= 8; v++) {
            Due.is("what it was", x.wrong(v), v == 1 ? 4 : v - 1);
            Due.is("as it did", x.odds(0), 16 - v);
            Due.is("not as it did", x.odds(1), v);
        }
    }

    private static void oddsAreOfWhoAreHeard() {
        MiddleUnseen x = lawful();
        x.answer(x.looker(0, 0, true), 0, true);
        Due.is("who knows", x.odds(0), 1);
        x.answer(x.looker(1, 0, false), 0, true);
        Due.is("no odd one", x.odds(0), 1);
        x.looker(0, 0, false);
        Due.is("who did not answer", x.odds(0), 1);
        x.answer(2, 1, true);
        x.answer(2, 2, true);
        Due.is("who answered another asking", x.odds(0), 1);
        x.answer(2, 0, true);
        Due.is("who is heard", x.odds(0), 12);
        Due.is("forgotten is no to asking 0", x.odds(3), 4);
        x.answer(2, 0, false);
        Due.is("no", x.odds(0), 4);
        Due.is("no as the law", x.odds(3), 12);
    }

    private static void oddsOfFourteen() {
        MiddleUnseen x = lawful();
        group(x, 0, 0, 0, 14, 14);
        x.wrong(1);
        x.weigh(0, 9);
        long most = 9;
        for (int k = 0; k < 14; k++) {
            most *= 15;
        }
        Due.is("9 times 15 to the 14th", x.odds(0), most);
        Due.is("1 to the 14th", x.odds(1), 1);
        x.wrong(8);
        Due.is("8 to the 14th", x.odds(1), 1L << 42);
        Due.is("9 times 8 to the 14th", x.odds(0), 9L << 42);
    }

    private static void bestOfAlikeOddsIsTheFirst() {
        MiddleUnseen x = lawful();
        Due.is("all alike", x.best(), 0);
        x.weigh(3, 2);
        Due.is("the last", x.best(), 3);
        x.weigh(2, 2);
        Due.is("of two the first", x.best(), 2);
        x.weigh(0, 2);
        Due.is("of three", x.best(), 0);
        x.answer(x.looker(0, 0, false), 0, false);
        Due.is("by 3 laws it is no: 24 of laws 2 and 3", x.best(), 2);
        Due.is("none without laws", new MiddleUnseen().best(), -1);
    }

    private static void fitsByNoMoreThan() {
        MiddleUnseen x = lawful();
        Due.is("without lookers all fit", x.fits(0), 15);
        for (int k = 0; k < 14; k++) {
            x.answer(x.looker(0, 1, false), 0, true);
            Due.is("laws 1 and 3 part in " + (k + 1), x.fits(k), 5);
            Due.is("by one more", x.fits(Math.min(14, k + 1)), 15);
        }
        Due.is("by 0", x.fits(0), 5);
        x.answer(0, 0, false);
        Due.is("by 0, if one says no", x.fits(0), 0);
        Due.is("by 1", x.fits(1), 5);
        Due.is("by 12", x.fits(12), 5);
        Due.is("by 13", x.fits(13), 15);
        Due.illegal("by -1", () -> x.fits(-1));
        Due.illegal("by 15", () -> x.fits(15));
        Due.is("no laws", new MiddleUnseen().fits(0), 0);
    }

    private static void nextIsTheFirstOfTheGreatest() {
        MiddleUnseen x = lawful();
        // task 0: yes by law 0 alone; task 1: yes by laws 0 and 2
        Due.is("1 of 4, 2 of 4", x.next(), 1);
        x.weigh(0, 3);
        Due.is("3 of 6, 2 of 6", x.next(), 0);
        x.weigh(1, 2);
        Due.is("3 of 7, 3 of 7", x.next(), 0);
        Due.scene(x, "thing 0 4;way 0 0 20 15 9 20 15;odd 0;");
        Due.is("another one is not ahead", x.next(), 0);
        x.weigh(2, 2);
        Due.is("3 of 8, 3 of 8", x.next(), 0);
        x.weigh(0, 2);
        Due.is("2 of 7, 3 of 7", x.next(), 1);
    }

    private static void nextOfANewLooker() {
        MiddleUnseen x = new MiddleUnseen();
        Due.scene(x, "thing 0 4;way 0 0 39 29 9 39 29;odd 0;");
        Due.scene(x, "thing 0 4;way 0 0 20 15 9 20 15;odd 0;");
        x.task(0);
        Due.law(x, "gets 1 if near<3 and knows=0;line 1;");
        Due.law(x, "line 1;");
        x.looker(0, 0, true);
        x.eyes(0, 0, 39, 29);
        x.looker(1, 0, true);
        x.eyes(1, 0, 0, 0);
        Due.is("who does not know, with no eyes told", x.next(), 10);
        Due.is("so of a crossing", x.crossing(1, 0, 2, 0), 3);
        Due.is("and of the other", x.crossing(0, 0, 2, 0), 1);
    }

    private static void nextWithoutLawsOrScenes() {
        MiddleUnseen x = new MiddleUnseen();
        Due.is("nothing", x.next(), -1);
        Due.scene(x, "thing 0 1;odd 0;");
        Due.is("no task", x.next(), -1);
        x.task(0);
        Due.is("no laws", x.next(), -1);
        x.law(0);
        Due.is("one of each", x.next(), 0);
        MiddleUnseen y = new MiddleUnseen();
        y.scene(0);
        y.task(0);
        y.law(0);
        Due.is("no odd one", y.next(), -1);
        Due.scene(y, "thing 0 1;");
        Due.is("nor another", y.next(), -1);
        Due.scene(y, "thing 0 1;odd 0;");
        Due.is("the third has one", y.next(), 20);
        MiddleUnseen z = new MiddleUnseen();
        z.task(0);
        z.law(0);
        Due.is("no scene", z.next(), -1);
    }

    private static void nextOfMoreTasksThanScenes() {
        MiddleUnseen x = new MiddleUnseen();
        Due.scene(x, "thing 0 4;way 0 0 20 15 9 20 15;odd 0;");
        for (int k = 0; k < 6; k++) {
            Due.task(x, "watch " + k + ";");
        }
        Due.law(x, "gets 9 if watch=5;line 9;");
        Due.law(x, "line 9;");
        Due.is("the last task of one scene", x.next(), 5);
        Due.law(x, "gets 9 if watch=3;line 9;");
        Due.law(x, "gets 9 if watch=3 or watch=5;line 9;");
        Due.is("2 of 4 twice: the first", x.next(), 3);
    }

    private static void nextOfMoreScenesThanTasks() {
        MiddleUnseen x = new MiddleUnseen();
        for (int k = 1; k <= 6; k++) {
            Due.scene(x, "thing 0 " + k + ";way 0 0 20 15 9 20 15;odd 0;");
        }
        Due.task(x, "watch 1;");
        Due.law(x, "gets 9 if size=6 or watch=0;line 9;");
        Due.law(x, "line 9;");
        Due.is("the one task of the last scene", x.next(), 50);
    }

    private static void knowingOfWhoKnow() {
        MiddleUnseen x = lawful();
        for (int k = 0; k < 14; k++) {
            x.looker(0, 0, k % 2 == 0);
        }
        Due.is("who know", x.knowing(0, 0), 7);
        Due.is("by another law, too", x.knowing(1, 0), 7);
        Due.is("yes by law 0", x.knowing(0, 1), 7);
        Due.is("yes by law 1", x.knowing(1, 1), 0);
        Due.is("forgotten is no", x.knowing(3, 1), 0);
        x.blink(0, 0, 9);
        x.blink(1, 0, 9);
        Due.is("but the one whose eyes are shut", x.knowing(0, 1), 6);
    }

    private static void knowingNotTheChange() {
        MiddleUnseen x = lawful();
        x.looker(0, 0, true);
        Due.is("it sees the change", x.knowing(0, 2), 0);
        x.blink(0, 9, 9);
        Due.is("it says yes", x.knowing(0, 1), 1);
        Due.is("but does not see the change", x.knowing(0, 2), 1);
        x.blink(0, 0, 8);
        Due.is("it says no", x.knowing(0, 1), 0);
        Due.is("of these none", x.knowing(0, 2), 0);
        Due.scene(x, "thing 0 4;way 0 0 20 15 9 20 15;odd 0;");
        x.looker(2, 0, true);
        Due.is("it says yes where nothing turns", x.knowing(0, 1), 1);
        Due.is("nor if nothing turns", x.knowing(0, 2), 1);
    }

    private static void crossingSeenOrNotOrOpen() {
        MiddleUnseen x = lawful();
        int[][] due = {{0, 0, 3}, {0, 1, 3}, {0, 2, 3}, {1, 0, 3}};
        for (int[] row : due) {
            Due.is("by all laws", x.crossing(0, row[0], row[1], 0), row[2]);
        }
        x.answer(x.looker(0, 1, false), 0, true);
        // laws 0 and 2 fit
        Due.is("task 0, asking 0", x.crossing(0, 0, 0, 0), 3);
        Due.is("task 1, asking 0", x.crossing(0, 1, 0, 0), 2);
        x.answer(0, 0, false);
        // laws 1 and 3 fit
        Due.is("not seen by both", x.crossing(0, 1, 0, 0), 1);
        Due.is("forgotten is yes to asking 1", x.crossing(0, 1, 1, 0), 3);
        Due.is("and to asking 2", x.crossing(0, 1, 2, 0), 3);
        x.answer(x.looker(0, 0, false), 0, true);
        // law 0 parts in one, law 1 in one, law 2 in two, law 3 in one
        Due.is("none fits", x.crossing(0, 0, 0, 0), 0);
        Due.is("by 1", x.crossing(0, 0, 0, 1), 3);
    }

    private static void crossingOfWhatFits() {
        MiddleUnseen x = new MiddleUnseen();
        Due.scene(x, "thing 0 4;way 0 0 20 15 9 20 15;odd 0;");
        x.task(0);
        Due.is("no laws", x.crossing(0, 0, 0, 14), 0);
        Due.law(x, "gets 9;line 9;");
        Due.is("one by which it is seen", x.crossing(0, 0, 0, 0), 2);
        Due.law(x, "gets 9;line 9;keeps 8;");
        Due.is("one by which it is forgotten", x.crossing(0, 0, 0, 0), 3);
        Due.is("both by asking 2", x.crossing(0, 0, 2, 0), 2);
        x.answer(x.looker(0, 0, false), 0, false);
        Due.is("the latter fits", x.crossing(0, 0, 0, 0), 1);
        Due.is("by 1 both do", x.crossing(0, 0, 0, 1), 3);
        for (int by = 0; by <= 14; by++) {
            Due.is("by " + by, x.crossing(0, 0, 0, by), by == 0 ? 1 : 3);
        }
    }

    private static void crossingWithoutAnOddOne() {
        MiddleUnseen x = lawful();
        for (int asking = 0; asking < 3; asking++) {
            Due.is("asking " + asking, x.crossing(1, 0, asking, 0), 1);
        }
        x.answer(x.looker(1, 0, false), 0, true);
        Due.is("who has no odd one parts from none", x.crossing(1, 0, 0, 0), 1);
    }

    /** Six scenes (by size) and six tasks (by watch) are numbered 0 to 35; by the law one sees those with a bit. */
    private static void newLookersOfEachSceneAndTask() {
        for (int bit = 1; bit < 64; bit *= 2) {
            MiddleUnseen x = new MiddleUnseen();
            for (int k = 0; k < 6; k++) {
                Due.scene(x, "thing 0 " + (k + 1) + ";way 0 0 1 1 0 1 1;odd 0;");
                Due.task(x, "watch " + k + ";");
            }
            String number = "((size-1)*6+watch)/" + bit;
            Due.law(x, "gets 1 if " + number + "-" + number + "/2*2=1;line 1;");
            for (int k = 0; k < 14; k++) {
                x.looker(k % 6, k % 5, false);
            }
            lookersSay(x, bit);
            for (int n = 35; n >= 0; n--) {
                Due.is("crossing of " + n + " by " + bit, x.crossing(n / 6, n % 6, 2, 14), (n & bit) != 0 ? 2 : 1);
            }
            lookersSay(x, bit);
            Due.is("the first one of all", x.next(), 0);
        }
    }

    private static void lookersSay(MiddleUnseen x, int bit) {
        for (int k = 0; k < 14; k++) {
            Due.is("looker " + k + " by " + bit, x.says(0, k, 2), (k % 6 * 6 + k % 5 & bit) != 0);
        }
    }

    private static void newLookersByEachLaw() {
        for (int law = 0; law < 4; law++) {
            MiddleUnseen x = new MiddleUnseen();
            for (int k = 0; k < 6; k++) {
                Due.scene(x, "thing 0 4;way 0 0 20 15 9 20 15;odd 0;");
                x.task(0);
            }
            for (int k = 0; k < 4; k++) {
                Due.law(x, k == law ? "gets 9;line 9;" : "gets 8;line 81;");
            }
            for (int k = 0; k < 14; k++) {
                x.blink(x.looker(5, 5, false), 0, 9);
            }
            for (int k = 0; k < 4; k++) {
                Due.is("looker 0, whose eyes are shut, by " + k, x.says(k, 0, 0), false);
                Due.is("looker 13, whose eyes are shut, by " + k, x.says(k, 13, 0), false);
            }
            Due.is("open at the first scene, by " + law, x.crossing(0, 0, 0, 0), 3);
            Due.is("open at the last scene, by " + law, x.crossing(5, 5, 0, 0), 3);
            x.weigh(law, 9);
            Due.is("3 beside 9", x.next(), 0);
        }
    }

    /** Draws, changes and what would be needed, asked just ahead, have nothing to do with a new looker. */
    private static void newLookersDrawNothing() {
        String scene = "thing 0 4;way 0 0 20 15 9 20 15;odd 0;turn 0 9 1;";
        for (int before = 0; before < 5; before++) {
            MiddleUnseen x = new MiddleUnseen();
            Due.scene(x, scene);
            x.task(0);
            Due.law(x, "line 1;gets size-8;gets 1 if pace>9;");
            Due.law(x, "gets 1;line 9;");
            x.looker(0, 0, true);
            x.eyes(0, 0, 0, 0);
            x.blink(0, 0, 3);
            switch (before) {
                case 0: Due.is("drawn", x.drawn(0, 0, 50, 0), 5); break;
                case 1: Due.is("change", x.change(0, 0), -1); break;
                case 2: Due.is("change", x.change(1, 0), -1); break;
                case 3: Due.is("large", x.least(0, 0, 0), 9); break;
                default: Due.is("nearer", x.least(1, 0, 1), -1); break;
            }
            Due.is("law 0 says no, law 1 yes, behind " + before, x.crossing(0, 0, 0, 0), 3);
            x.answer(x.looker(0, 0, false), 0, true);
            Due.is("law 1 alone fits, behind " + before, x.crossing(0, 0, 0, 0), 2);
        }
    }
}
