/** Terms 2, sentence by sentence: where things and eyes are, what gets in, and what is said, at each bound. */
public final class SightBoundsTest {
    public static void main(String[] args) {
        thereAtBothEndsOfItsWay();
        thereInAWayOfNoTenths();
        theLastSuchWayCounts();
        farthersAreCut();
        theLongestWay();
        paceIsTheGreater();
        paceIs0IfItWasNotThere();
        colourOfTheLatestTurnByThatTenth();
        endIsTheGreatestTenthOfWays();
        endWithoutWaysIs0();
        theOddOneIsTheLastToldSo();
        whatTurnsIsOfTheFirstTurn();
        fourteenLookersAtMost();
        eyesAreShutByBlinks();
        eyesAtThePlaceOfTheLatestTenth();
        eyesOfAlikeTenths();
        eyesBeforeAnyAreTold();
        eyesAtWhatHadTheLatestThrow();
        eyesByThrowsOfThatTenthsColour();
        eyesIfItIsNotThere();
        eyesIfNothingIsCounted();
        likeAndDropAreOfThatTenth();
        nearIsTheGreater();
        nearOfWhatIsNotThereOrNotLookedAt();
        fullIsLessRoom();
        changeIsOfTenTenths();
        oddKnowsWatchTenth();
        getsIs0To1000();
        getsOfAllThatHold();
        getsIs0IfNotThereOrShut();
        sumIsOfAllUpToATenth();
        lineIs1To100000();
        lineIsTheLastThatHolds();
        lineOfWhatIsNotThere();
        seenIfSumIsLineOrMore();
        seenToEnd();
        seenByALineOf100000();
        forgottenAboveKeeps();
        keepsIs0To999();
        keepsIsTheLastThatHoldsAtEnd();
        unsureBelowSure();
        sureIs0To100000();
        sureIsTheLastThatHoldsAtEnd();
        saysOfSeenForgottenUnsure();
        withoutAnOddOneNo();
        eachSceneToItsOwnEnd();
        Due.end("SightBoundsTest");
    }

    private static MiddleUnseen of(String scene, String task, String... laws) {
        MiddleUnseen x = new MiddleUnseen();
        Due.is("scene " + scene, Due.scene(x, scene), 0);
        Due.is("task " + task, Due.task(x, task), 0);
        for (String law : laws) {
            Due.is("law " + law, Due.law(x, law), x.count(2) - 1);
        }
        x.looker(0, 0, false);
        return x;
    }

    // ---- things by tenths

    private static void placesAre(String scene, int thing, int first, int... due) {
        MiddleUnseen x = of(scene, "");
        for (int k = 0; k < due.length; k++) {
            int t = first + k;
            Due.is("X in " + t + " of " + scene, x.thing(0, thing, t, 0), due[k] < 0 ? -1 : due[k] / 100);
            Due.is("Y in " + t + " of " + scene, x.thing(0, thing, t, 1), due[k] < 0 ? -1 : due[k] % 100);
        }
    }

    private static void thereAtBothEndsOfItsWay() {
        placesAre("thing 0 1;way 0 5 7 8 7 9 10;", 0, 4, -1, 708, 809, 910, -1);
        placesAre("thing 0 1;way 0 0 7 8 1 9 10;", 0, 0, 708, 910, -1);
        placesAre("thing 0 1;way 0 298 7 8 299 9 10;", 0, 297, -1, 708, 910);
        placesAre("thing 0 1;thing 0 1;way 0 0 7 8 299 9 10;", 1, 0, -1, -1, -1);
        placesAre("thing 0 1;way 0 0 0 0 1 39 29;", 0, 0, 0, 3929, -1);
    }

    private static void thereInAWayOfNoTenths() {
        placesAre("thing 0 1;way 0 5 7 8 5 9 10;", 0, 4, -1, 708, -1);
        placesAre("thing 0 1;way 0 0 7 8 0 9 10;", 0, 0, 708, -1);
        placesAre("thing 0 1;way 0 299 7 8 299 9 10;", 0, 298, -1, 708);
    }

    private static void theLastSuchWayCounts() {
        placesAre("thing 0 1;way 0 2 1 1 6 1 1;way 0 4 2 2 8 2 2;way 0 6 3 3 6 3 3;", 0, 1, -1, 101, 101, 202, 202, 303, 202, 202,
                -1);
        placesAre("thing 0 1;way 0 4 2 2 8 2 2;way 0 2 1 1 6 1 1;", 0, 1, -1, 101, 101, 101, 101, 101, 202, 202, -1);
        placesAre("thing 0 1;thing 0 1;way 0 0 1 1 3 1 1;way 1 0 2 2 3 2 2;", 0, 0, 101, 101, 101, 101, -1);
    }

    private static void farthersAreCut() {
        placesAre("thing 0 1;way 0 0 0 0 3 10 7;", 0, 0, 0, 302, 604, 1007);
        placesAre("thing 0 1;way 0 0 10 7 3 0 0;", 0, 0, 1007, 705, 403, 0);
        placesAre("thing 0 1;way 0 10 10 7 13 0 7;", 0, 10, 1007, 707, 407, 7);
        placesAre("thing 0 1;way 0 10 10 7 13 10 0;", 0, 10, 1007, 1005, 1003, 1000);
        placesAre("thing 0 1;way 0 0 5 5 4 4 6;", 0, 0, 505, 505, 505, 505, 406);
    }

    private static void theLongestWay() {
        placesAre("thing 0 1;way 0 0 0 29 299 39 0;", 0, 0, 29);
        // 39 times 7 is 273, times 8 is 312; 29 times 10 is 290, times 11 is 319
        placesAre("thing 0 1;way 0 0 0 29 299 39 0;", 0, 7, 29, 129, 129, 129, 128);
        placesAre("thing 0 1;way 0 0 0 29 299 39 0;", 0, 298, 3801, 3900);
    }

    private static void pacesAre(String scene, int thing, int first, int... due) {
        MiddleUnseen x = of(scene, "");
        for (int k = 0; k < due.length; k++) {
            Due.is("pace in " + (first + k) + " of " + scene, x.thing(0, thing, first + k, 3), due[k]);
            Due.is("name pace in " + (first + k) + " of " + scene, x.name(0, thing, first + k, 4), due[k]);
        }
    }

    private static void paceIsTheGreater() {
        pacesAre("thing 0 1;way 0 0 0 0 2 6 4;", 0, 0, 0, 3, 3, 0);
        pacesAre("thing 0 1;way 0 0 0 0 2 4 6;", 0, 0, 0, 3, 3, 0);
        pacesAre("thing 0 1;way 0 0 6 4 2 0 0;", 0, 0, 0, 3, 3, 0);
        pacesAre("thing 0 1;way 0 0 4 6 2 0 0;", 0, 0, 0, 3, 3, 0);
        pacesAre("thing 0 1;way 0 0 0 6 2 4 0;", 0, 0, 0, 3, 3, 0);
        pacesAre("thing 0 1;way 0 0 5 5 2 5 5;", 0, 0, 0, 0, 0, 0);
        // from the end of one way to the beginning of another
        pacesAre("thing 0 1;way 0 0 0 0 4 0 0;way 0 5 39 29 9 39 29;", 0, 4, 0, 39, 0);
        pacesAre("thing 0 1;way 0 0 9 0 4 9 0;way 0 5 0 29 9 0 29;", 0, 4, 0, 29, 0);
    }

    private static void paceIs0IfItWasNotThere() {
        pacesAre("thing 0 1;way 0 5 0 0 6 9 9;", 0, 4, 0, 0, 9, 0);
        pacesAre("thing 0 1;way 0 5 0 0 5 0 0;way 0 7 9 9 7 9 9;", 0, 5, 0, 0, 0);
        pacesAre("thing 0 1;way 0 298 0 0 299 9 9;", 0, 298, 0, 9);
    }

    private static void coloursAre(String scene, int thing, int first, int... due) {
        MiddleUnseen x = of(scene, "");
        for (int k = 0; k < due.length; k++) {
            Due.is("colour in " + (first + k) + " of " + scene, x.thing(0, thing, first + k, 2), due[k]);
        }
    }

    private static void colourOfTheLatestTurnByThatTenth() {
        coloursAre("thing 1 1;turn 0 5 2;", 0, 4, 1, 2, 2);
        coloursAre("thing 1 1;turn 0 0 2;", 0, 0, 2, 2);
        coloursAre("thing 1 1;turn 0 299 2;", 0, 298, 1, 2);
        coloursAre("thing 1 1;turn 0 5 2;turn 0 5 3;", 0, 4, 1, 3, 3);
        coloursAre("thing 1 1;turn 0 6 2;turn 0 5 3;", 0, 4, 1, 3, 2, 2);
        coloursAre("thing 1 1;turn 0 5 2;turn 0 6 0;turn 0 6 7;turn 0 5 4;", 0, 4, 1, 4, 7, 7);
        coloursAre("thing 1 1;thing 4 1;turn 1 5 2;", 0, 4, 1, 1, 1);
        coloursAre("thing 1 1;turn 0 5 1;turn 0 7 0;", 0, 4, 1, 1, 1, 0);
    }

    private static void endIs(String scene, int due) {
        Due.is("END of " + scene, of(scene, "").told(0, 3), due);
    }

    private static void endIsTheGreatestTenthOfWays() {
        endIs("thing 0 1;way 0 0 0 0 0 0 0;", 0);
        endIs("thing 0 1;way 0 0 0 0 1 0 0;", 1);
        endIs("thing 0 1;way 0 0 0 0 9 0 0;way 0 0 0 0 8 0 0;", 9);
        endIs("thing 0 1;way 0 0 0 0 8 0 0;way 0 0 0 0 9 0 0;", 9);
        endIs("thing 0 1;thing 0 1;way 1 0 0 0 299 0 0;way 0 0 0 0 8 0 0;", 299);
    }

    private static void endWithoutWaysIs0() {
        endIs("", 0);
        endIs("thing 0 1;thing 0 1;throw 0 1 299;turn 0 299 1;odd 0;", 0);
    }

    private static void toldIs(String scene, int what, int due) {
        Due.is("told " + what + " of " + scene, of(scene, "").told(0, what), due);
    }

    private static void theOddOneIsTheLastToldSo() {
        toldIs("thing 0 1;thing 0 1;thing 0 1;", 4, -1);
        toldIs("thing 0 1;thing 0 1;thing 0 1;odd 0;", 4, 0);
        toldIs("thing 0 1;thing 0 1;thing 0 1;odd 0;odd 2;odd 1;", 4, 1);
        toldIs("thing 0 1;thing 0 1;thing 0 1;odd 2;odd 0;", 4, 0);
    }

    private static void whatTurnsIsOfTheFirstTurn() {
        toldIs("thing 0 1;thing 0 1;thing 0 1;odd 1;", 5, -1);
        toldIs("thing 0 1;thing 0 1;thing 0 1;turn 0 9 0;", 5, 0);
        toldIs("thing 0 1;thing 0 1;thing 0 1;turn 2 9 0;turn 0 0 0;turn 1 9 1;", 5, 2);
    }

    // ---- eyes

    private static void fourteenLookersAtMost() {
        MiddleUnseen x = of("", "");
        for (int k = 1; k < 14; k++) {
            Due.is("looker " + k, x.looker(0, 0, true), k);
        }
        Due.is("a 15th", x.looker(0, 0, true), -1);
        Due.is("the 14th is there", x.eye(13, 0), 2015);
        Due.illegal("the 15th is not", () -> x.eye(14, 0));
    }

    private static void eyesAre(MiddleUnseen x, String what, int first, int... due) {
        for (int k = 0; k < due.length; k++) {
            Due.is("eye in " + (first + k) + ", " + what, x.eye(0, first + k), due[k]);
        }
    }

    private static void eyesAreShutByBlinks() {
        MiddleUnseen x = of("", "");
        x.eyes(0, 0, 1, 1);
        x.blink(0, 5, 7);
        eyesAre(x, "a blink", 4, 101, -1, -1, -1, 101);
        x.blink(0, 9, 9);
        eyesAre(x, "a blink of one tenth", 8, 101, -1, 101);
        x.blink(0, 7, 8);
        eyesAre(x, "blinks that meet", 4, 101, -1, -1, -1, -1, -1, 101);
        x.eyes(0, 6, 2, 2);
        eyesAre(x, "shut for all that", 5, -1, -1, -1, -1, -1, 202);
        x.blink(0, 0, 0);
        x.blink(0, 299, 299);
        eyesAre(x, "the first tenth", 0, -1, 101);
        eyesAre(x, "the last tenth", 298, 202, -1);
    }

    private static void eyesAtThePlaceOfTheLatestTenth() {
        MiddleUnseen x = of("", "");
        x.eyes(0, 20, 2, 2);
        x.eyes(0, 10, 1, 1);
        eyesAre(x, "the earlier", 9, 2015, 101, 101);
        eyesAre(x, "the later", 19, 101, 202, 202);
        x.eyes(0, 0, 0, 0);
        x.eyes(0, 299, 39, 29);
        eyesAre(x, "from the first on", 0, 0, 0);
        eyesAre(x, "in the last", 298, 202, 3929);
    }

    private static void eyesOfAlikeTenths() {
        MiddleUnseen x = of("", "");
        x.eyes(0, 10, 1, 1);
        x.eyes(0, 10, 2, 2);
        eyesAre(x, "told last", 9, 2015, 202, 202);
        x.eyes(0, 10, 1, 1);
        eyesAre(x, "told last again", 10, 101, 101);
    }

    private static final String THROWN = "thing 0 1;thing 1 1;thing 2 1;way 0 0 1 1 99 1 1;way 1 0 2 2 99 2 2;way 2 0 3 3 99 3 3;";

    private static void eyesBeforeAnyAreTold() {
        MiddleUnseen x = of(THROWN + "throw 0 1 5;throw 0 2 12;", "count 0;");
        x.eyes(0, 10, 9, 9);
        eyesAre(x, "as by throws", 4, 2015, 202, 202, 202, 202, 202, 909, 909);
        eyesAre(x, "throws matter no more", 12, 909, 909);
        MiddleUnseen y = of(THROWN + "throw 0 1 0;", "count 0;");
        y.looker(0, 0, false);
        y.eyes(1, 0, 9, 9);
        eyesAre(y, "told for another one", 0, 202, 202);
    }

    private static void eyesAtWhatHadTheLatestThrow() {
        eyesAre(of(THROWN + "throw 0 1 5;", "count 0;"), "who had it", 4, 2015, 202, 202);
        eyesAre(of(THROWN + "throw 0 1 0;", "count 0;"), "in the first tenth", 0, 202);
        eyesAre(of(THROWN + "throw 0 1 5;throw 0 2 7;", "count 0;"), "the latest by then", 4, 2015, 202, 202, 303, 303);
        eyesAre(of(THROWN + "throw 0 2 7;throw 0 1 5;", "count 0;"), "not the last of the text", 4, 2015, 202, 202, 303, 303);
        eyesAre(of(THROWN + "throw 0 2 5;throw 0 1 5;", "count 0;"), "of alike ones the last", 4, 2015, 202, 202);
        eyesAre(of(THROWN + "throw 0 1 5;throw 0 2 5;", "count 0;"), "of alike ones the last", 4, 2015, 303, 303);
        eyesAre(of(THROWN + "throw 1 2 3;throw 0 1 5;throw 2 0 7;", "count 0;"), "of that colour alone", 2, 2015, 2015, 2015, 202,
                202, 202, 202);
    }

    private static void eyesByThrowsOfThatTenthsColour() {
        eyesAre(of(THROWN + "throw 0 1 5;turn 0 5 1;", "count 0;"), "it has turned", 4, 2015, 2015, 2015);
        eyesAre(of(THROWN + "throw 0 1 5;turn 0 5 1;", "count 1;"), "it has just turned", 4, 2015, 202, 202);
        eyesAre(of(THROWN + "throw 0 1 5;turn 0 6 1;", "count 0;"), "it turns behind it", 4, 2015, 202, 202, 202);
        eyesAre(of(THROWN + "throw 0 1 5;turn 0 6 1;", "count 1;"), "it turns too late", 4, 2015, 2015, 2015, 2015);
        eyesAre(of(THROWN + "throw 0 1 5;turn 1 5 0;", "count 0;"), "whatever that one has", 4, 2015, 202);
    }

    private static void eyesIfItIsNotThere() {
        MiddleUnseen x = of("thing 0 1;thing 1 1;thing 2 1;way 1 7 2 2 8 4 4;way 1 10 5 5 10 5 5;way 2 0 3 3 99 3 3;"
                + "throw 0 2 2;throw 0 1 5;", "count 0;");
        eyesAre(x, "there or not", 2, 303, 303, 303, 2015, 2015, 202, 404, 2015, 505, 2015);
    }

    private static void eyesIfNothingIsCounted() {
        eyesAre(of(THROWN + "throw 0 1 5;", ""), "no count", 4, 2015, 2015, 2015);
        eyesAre(of(THROWN + "throw 0 1 5;", "count 3;"), "another colour", 4, 2015, 2015, 2015);
        eyesAre(of(THROWN + "throw 0 1 5;", "count 1;count 0;"), "the last count", 4, 2015, 202, 202);
    }

    // ---- names

    private static void namesAre(MiddleUnseen x, int which, int first, int... due) {
        for (int k = 0; k < due.length; k++) {
            Due.is("name " + which + " in " + (first + k), x.name(0, 0, first + k, which), due[k]);
        }
    }

    private static void likeAndDropAreOfThatTenth() {
        MiddleUnseen x = of("thing 0 1;turn 0 5 7;turn 0 7 2;", "keep 0;keep 7;drop 7;drop 2;");
        namesAre(x, 0, 4, 1, 1, 1, 0, 0);
        namesAre(x, 1, 4, 0, 1, 1, 1, 1);
    }

    private static void nearIsTheGreater() {
        MiddleUnseen x = of("thing 0 1;way 0 0 10 10 0 0 0;way 0 1 39 29 1 0 0;way 0 2 0 0 2 0 0;", "");
        int[][] due = {{10, 10, 0, 29, 10}, {13, 6, 4, 26, 13}, {6, 13, 4, 33, 13}, {10, 15, 5, 29, 15}, {15, 10, 5, 24, 15},
            {0, 0, 10, 39, 0}, {39, 29, 29, 0, 39}};
        for (int[] row : due) {
            x.eyes(0, 0, row[0], row[1]);
            namesAre(x, 2, 0, row[2], row[3], row[4]);
        }
    }

    private static void nearOfWhatIsNotThereOrNotLookedAt() {
        MiddleUnseen x = of("thing 0 1;way 0 5 20 15 9 20 15;", "");
        x.blink(0, 7, 7);
        namesAre(x, 2, 4, 99, 0, 0, 99, 0, 0, 99);
        namesAre(x, 2, 299, 99);
    }

    private static void fullIsLessRoom() {
        String scene = "thing 0 1;thing 0 1;thing 3 1;way 0 2 1 1 9 1 1;way 1 4 1 1 9 1 1;way 2 0 1 1 9 1 1;turn 1 7 3;";
        namesAre(of(scene, "keep 0;room 0;"), 5, 0, 0, 0, 1, 1, 2, 2, 2, 1, 1, 1, 0);
        namesAre(of(scene, "keep 0;room 1;"), 5, 0, 0, 0, 0, 0, 1, 1, 1, 0, 0, 0, 0);
        namesAre(of(scene, "keep 0;room 2;"), 5, 0, 0, 0, 0, 0, 0, 0, 0, 0, 0, 0, 0);
        namesAre(of(scene, "keep 3;keep 0;room 0;"), 5, 0, 1, 1, 2, 2, 3, 3, 3, 3, 3, 3, 0);
        namesAre(of(scene, "drop 0;room 0;"), 5, 0, 0, 0, 0, 0, 0, 0, 0, 0, 0, 0, 0);
        String eight = "thing 5 1;".repeat(8);
        for (int k = 0; k < 8; k++) {
            eight += "way " + k + " 0 1 1 0 1 1;";
        }
        namesAre(of(eight, "keep 5;"), 5, 0, 4, 0);
        namesAre(of(eight, "keep 5;room 0;"), 5, 0, 8, 0);
        namesAre(of(eight, "keep 5;room 7;"), 5, 0, 1, 0);
        namesAre(of(eight, "keep 5;room 8;"), 5, 0, 0, 0);
        namesAre(of(eight, "keep 5;room 9;"), 5, 0, 0, 0);
    }

    private static void changeIsOfTenTenths() {
        MiddleUnseen x = of("thing 0 1;thing 0 1;turn 0 5 0;turn 1 1 1;turn 0 29 0;turn 0 20 0;", "");
        for (int t = 0; t < 50; t++) {
            int due = t >= 5 && t <= 14 || t >= 20 && t <= 38 ? 1 : 0;
            Due.is("change in " + t, x.thing(0, 0, t, 5), due);
            Due.is("name change in " + t, x.name(0, 0, t, 8), due);
        }
        namesAre(of("thing 0 1;turn 0 0 0;", ""), 8, 0, 1);
        namesAre(of("thing 0 1;turn 0 0 0;", ""), 8, 9, 1, 0);
        namesAre(of("thing 0 1;turn 0 299 0;", ""), 8, 298, 0, 1);
        namesAre(of("thing 0 1;turn 0 290 0;", ""), 8, 289, 0, 1);
        namesAre(of("thing 0 1;turn 0 290 0;", ""), 8, 299, 1);
    }

    private static void oddKnowsWatchTenth() {
        MiddleUnseen x = of("thing 0 1;thing 0 9;odd 1;", "watch 9;");
        x.looker(0, 0, true);
        for (int thing = 0; thing < 2; thing++) {
            Due.is("odd of " + thing, x.name(0, thing, 0, 6), thing);
            Due.is("size of " + thing, x.name(0, thing, 0, 3), 1 + 8 * thing);
            Due.is("watch", x.name(0, thing, 0, 7), 9);
            Due.is("knows not", x.name(0, thing, 0, 9), 0);
            Due.is("knows", x.name(1, thing, 0, 9), 1);
            Due.is("tenth 0", x.name(0, thing, 0, 10), 0);
            Due.is("tenth 299", x.name(0, thing, 299, 10), 299);
        }
        Due.is("no odd one", of("thing 0 1;", "").name(0, 0, 0, 6), 0);
    }

    // ---- gets, sums, lines

    /** One thing, the odd one, at 20, 15 in all tenths. */
    private static final String ALL = "thing 0 1;way 0 0 20 15 299 20 15;odd 0;";

    private static void getsAre(String law, int due) {
        Due.is("gets of " + law, of(ALL, "", law).gets(0, 0, 0, 0, 0), due);
    }

    private static void getsIs0To1000() {
        getsAre("gets 0-1;", 0);
        getsAre("gets 0;", 0);
        getsAre("gets 1;", 1);
        getsAre("gets 999;", 999);
        getsAre("gets 1000;", 1000);
        getsAre("gets 1001;", 1000);
        getsAre("gets 8192*8192*31;", 1000);
        getsAre("gets 8192*8192*32;", 0);
        getsAre("", 0);
        getsAre("line 5;keeps 5;sure 5;", 0);
    }

    private static void getsOfAllThatHold() {
        getsAre("gets 400;gets 599;", 999);
        getsAre("gets 400;gets 601;", 1000);
        getsAre("gets 1400;gets 0-600;", 800);
        getsAre("gets 0-600;gets 1400;", 800);
        getsAre("gets 3;gets 0-4;", 0);
        getsAre("gets 3;gets 5 if 2<1;", 3);
        getsAre("gets 3 if 2<1;gets 5 if 1<2;", 5);
        getsAre("gets 3 if 1<2;gets 5 if 1<2;gets 7;", 15);
        getsAre("gets 3 if 2<1;", 0);
        // together they wrap
        getsAre("gets 8192*8192*31;gets 8192*8192;", 0);
        getsAre("gets 8192*8192*32;gets 8192*8192*32;gets 5;", 5);
    }

    private static void getsIs0IfNotThereOrShut() {
        MiddleUnseen x = of("thing 0 1;way 0 5 20 15 9 20 15;", "", "gets 7;");
        x.blink(0, 7, 8);
        int[] due = {0, 7, 7, 0, 0, 7, 0};
        int[] sums = {0, 7, 14, 14, 14, 21, 21};
        for (int k = 0; k < due.length; k++) {
            Due.is("gets in " + (4 + k), x.gets(0, 0, 0, 4 + k, 0), due[k]);
            Due.is("sum in " + (4 + k), x.gets(0, 0, 0, 4 + k, 1), sums[k]);
        }
    }

    private static void sumIsOfAllUpToATenth() {
        MiddleUnseen x = of(ALL, "", "gets tenth+1;", "gets 1000;");
        Due.is("of the first", x.gets(0, 0, 0, 0, 1), 1);
        Due.is("of two", x.gets(0, 0, 0, 1, 1), 3);
        Due.is("of ten", x.gets(0, 0, 0, 9, 1), 55);
        Due.is("of all", x.gets(0, 0, 0, 299, 1), 300 * 301 / 2);
        Due.is("the greatest", x.gets(1, 0, 0, 299, 1), 300000);
    }

    private static void linesAre(String law, int due) {
        Due.is("line of " + law, of(ALL, "", law).gets(0, 0, 0, 0, 2), due);
    }

    private static void lineIs1To100000() {
        linesAre("line 0-1;", 1);
        linesAre("line 0;", 1);
        linesAre("line 1;", 1);
        linesAre("line 2;", 2);
        linesAre("line 9999*10+9;", 99999);
        linesAre("line 9999*10+10;", 100000);
        linesAre("line 9999*10+11;", 100000);
        linesAre("line 8192*8192*31;", 100000);
        linesAre("line 8192*8192*32;", 1);
        linesAre("", 100);
        linesAre("gets 5;keeps 5;sure 5;", 100);
    }

    private static void lineIsTheLastThatHolds() {
        linesAre("line 5;line 7;", 7);
        linesAre("line 5;line 7 if 1<2;", 7);
        linesAre("line 5;line 7 if 2<1;", 5);
        linesAre("line 5 if 1<2;line 7 if 2<1;line 9 if 2<1;", 5);
        linesAre("line 5 if 2<1;", 100);
        linesAre("line 7;line 0-5;", 1);
    }

    private static void lineOfWhatIsNotThere() {
        MiddleUnseen x = of("thing 0 3;way 0 5 20 15 8 26 15;odd 0;", "", "line near+10;", "line pace+10;", "line size*10+tenth;");
        x.blink(0, 7, 7);
        int[] near = {109, 10, 12, 109, 16, 109};
        int[] pace = {10, 10, 12, 12, 12, 10};
        for (int k = 0; k < near.length; k++) {
            Due.is("near in the line in " + (4 + k), x.gets(0, 0, 0, 4 + k, 2), near[k]);
            Due.is("pace in the line in " + (4 + k), x.gets(1, 0, 0, 4 + k, 2), pace[k]);
            Due.is("size in the line in " + (4 + k), x.gets(2, 0, 0, 4 + k, 2), 34 + k);
        }
    }

    // ---- seen, forgotten, unsure

    private static void seenIs(String scene, String law, int due) {
        Due.is("seen by " + law + " at " + scene, of(scene, "", law).seen(0, 0, 0), due);
    }

    private static void seenIfSumIsLineOrMore() {
        seenIs(ALL, "gets 5;line 1;", 0);
        seenIs(ALL, "gets 5;line 4;", 0);
        seenIs(ALL, "gets 5;line 5;", 0);
        seenIs(ALL, "gets 5;line 6;", 1);
        seenIs(ALL, "gets 5;line 10;", 1);
        seenIs(ALL, "gets 5;line 11;", 2);
        seenIs(ALL, "gets 1;", 99);
        seenIs(ALL, "gets 0;line 0;", -1);
        seenIs(ALL, "gets 1 if tenth=7;line 0;", 7);
        seenIs(ALL, "gets 0;line 0-5;", -1);
        seenIs(ALL, "gets 5;line 3 if tenth=4;line 0 if tenth=2;", 2);
    }

    private static void seenToEnd() {
        String to29 = "thing 0 1;thing 0 1;way 0 0 20 15 9 20 15;way 1 0 0 0 29 0 0;";
        seenIs(to29, "gets 1;line 10;", 9);
        seenIs(to29, "gets 1;line 11;", -1);
        seenIs(to29, "gets 1;line 999;line 10 if tenth=29;", 29);
        seenIs(to29, "gets 1;line 999;line 10 if tenth>29;", -1);
        seenIs(ALL, "gets 1;line 300;", 299);
        seenIs(ALL, "gets 1;line 301;", -1);
        seenIs("thing 0 1;odd 0;", "gets 1;line 1;", -1);
        seenIs("thing 0 1;way 0 0 1 1 0 1 1;", "gets 1;line 1;", 0);
    }

    private static void seenByALineOf100000() {
        seenIs(ALL, "gets 1000;line 9999*11;", 99);
        seenIs(ALL, "gets 1000;gets 0-1 if tenth=0;line 9999*11;", 100);
        seenIs(ALL, "gets 1000;gets 0-1 if tenth=0;line 9999*10+9;", 99);
        seenIs(ALL, "gets 1 if tenth<99;line 0-5 if tenth=200;", 200);
        seenIs(ALL, "gets 1 if tenth<100;", 99);
        seenIs(ALL, "gets 1 if tenth<99;", -1);
    }

    private static void saysAre(String scene, String law, boolean anything, boolean odd, boolean what) {
        MiddleUnseen x = of(scene, "", law);
        Due.is("anything by " + law, x.says(0, 0, 0), anything);
        Due.is("odd by " + law, x.says(0, 0, 1), odd);
        Due.is("what by " + law, x.says(0, 0, 2), what);
    }

    /** Seen in tenth 9, END is 29, and the sum there is 20. */
    private static final String TO_29 = "thing 0 1;thing 0 1;way 0 0 20 15 19 20 15;way 1 0 0 0 29 0 0;odd 0;";

    private static void forgottenAboveKeeps() {
        saysAre(TO_29, "gets 1;line 10;keeps 19;", false, true, true);
        saysAre(TO_29, "gets 1;line 10;keeps 20;", true, true, true);
        saysAre(TO_29, "gets 1;line 10;keeps 21;", true, true, true);
        saysAre(TO_29, "gets 1;line 10;", true, true, true);
        saysAre(ALL, "gets 1;line 1;", true, true, true);
        saysAre(ALL, "gets 1;line 1;keeps 298;", false, true, true);
        saysAre(ALL, "gets 1;line 1;keeps 299;", true, true, true);
    }

    private static void keepsIs0To999() {
        saysAre(ALL, "gets 1;line 300;keeps 0;", true, true, true);
        saysAre(ALL, "gets 1;line 300;keeps 0-1;", true, true, true);
        saysAre(ALL, "gets 1;line 299;keeps 0-1;", false, true, true);
        saysAre(ALL, "gets 1;line 299;keeps 0;", false, true, true);
        saysAre(ALL, "gets 1;line 299;keeps 1;", true, true, true);
        saysAre(ALL, "gets 1;line 1;keeps 8192*8192*31;", true, true, true);
        saysAre(ALL, "gets 1;line 1;keeps 8192*8192*32;", false, true, true);
    }

    private static void keepsIsTheLastThatHoldsAtEnd() {
        saysAre(TO_29, "gets 1;line 10;keeps 19;keeps 20;", true, true, true);
        saysAre(TO_29, "gets 1;line 10;keeps 20;keeps 19;", false, true, true);
        saysAre(TO_29, "gets 1;line 10;keeps 20;keeps 19 if tenth=29;", false, true, true);
        saysAre(TO_29, "gets 1;line 10;keeps 20;keeps 19 if tenth=9;", true, true, true);
        saysAre(TO_29, "gets 1;line 10;keeps 19 if tenth<29;", true, true, true);
        // it is gone at END: near is 99, pace is 0
        saysAre(TO_29, "gets 1;line 10;keeps 19 if near=99 and pace=0;", false, true, true);
        saysAre(ALL, "gets 1;line 10;keeps 19 if near=99;", true, true, true);
    }

    private static void unsureBelowSure() {
        saysAre(TO_29, "gets 1;line 10;sure 19;", true, true, true);
        saysAre(TO_29, "gets 1;line 10;sure 20;", true, true, true);
        saysAre(TO_29, "gets 1;line 10;sure 21;", false, false, true);
        saysAre(TO_29, "gets 1;line 10;", true, true, true);
    }

    private static void sureIs0To100000() {
        saysAre(TO_29, "gets 1;line 10;sure 0-1;", true, true, true);
        saysAre(TO_29, "gets 1;line 10;sure 8192*8192*32;", true, true, true);
        String to100000 = "gets 1000 if tenth<100;line 10;sure ";
        saysAre(ALL, to100000 + "9999*10+10;", true, true, true);
        saysAre(ALL, to100000 + "9999*10+11;", true, true, true);
        saysAre(ALL, to100000 + "8192*8192*31;", true, true, true);
        String to99999 = "gets 1000 if tenth<100;gets 0-1 if tenth=0;line 10;sure ";
        saysAre(ALL, to99999 + "9999*10+9;", true, true, true);
        saysAre(ALL, to99999 + "9999*10+10;", false, false, true);
        saysAre(ALL, to99999 + "8192*8192*31;", false, false, true);
    }

    private static void sureIsTheLastThatHoldsAtEnd() {
        saysAre(TO_29, "gets 1;line 10;sure 20;sure 21;", false, false, true);
        saysAre(TO_29, "gets 1;line 10;sure 21;sure 20;", true, true, true);
        saysAre(TO_29, "gets 1;line 10;sure 20;sure 21 if tenth=29;", false, false, true);
        saysAre(TO_29, "gets 1;line 10;sure 20;sure 21 if tenth<29;", true, true, true);
        saysAre(TO_29, "gets 1;line 10;sure 21 if near=99 and pace=0;", false, false, true);
    }

    private static void saysOfSeenForgottenUnsure() {
        saysAre(TO_29, "gets 1;line 10;keeps 19;sure 21;", false, false, true);
        saysAre(TO_29, "gets 1;line 21;", false, false, false);
        saysAre(TO_29, "gets 1;line 21;keeps 0;sure 99;", false, false, false);
    }

    /** Scene k ends in tenth 60 k, and its odd one comes near in that tenth alone. */
    private static void eachSceneToItsOwnEnd() {
        for (int ask = 0; ask < 6; ask++) {
            MiddleUnseen x = new MiddleUnseen();
            for (int k = 0; k < 5; k++) {
                int end = 60 * k;
                Due.scene(x, "thing 0 1;way 0 0 1 1 " + end + " 1 1;way 0 " + end + " 20 15 " + end + " 20 15;odd 0;turn 0 "
                        + end + " 1;");
            }
            x.task(0);
            Due.law(x, "gets 5 if near<3;line 5;");
            Due.law(x, "gets 5 if near<2;line 6;");
            for (int k = 0; k < 5; k++) {
                x.looker(k, 0, true);
            }
            for (int k = 4; k >= 0; k--) {
                switch (ask) {
                    case 0: Due.is("seen", x.seen(0, k, 0), 60 * k); break;
                    case 1: Due.is("says", x.says(0, k, 0), true); break;
                    case 2: Due.is("new one", x.crossing(k, 0, 2, 14), 3); break;
                    case 3: Due.is("change", x.change(0, k), 60 * k); break;
                    case 4: Due.is("drawn", x.drawn(0, k, 0, 1), 60 * k); break;
                    default: Due.is("near", x.on(k, 2), 1); break;
                }
            }
            Due.is("all were on it", x.yet(1), 31);
            for (int k = 4; k >= 0; k--) {
                Due.is("it says so", x.miss(0, k, 1), 7);
                Due.is("it was on it", x.miss(1, k, 1), 2);
                Due.is("as it is", x.least(0, k, 2), 1);
            }
        }
    }

    private static void withoutAnOddOneNo() {
        saysAre("thing 0 1;way 0 0 20 15 9 20 15;", "gets 1;line 1;", false, false, false);
        saysAre("", "gets 1;line 1;", false, false, false);
        // what is not the odd one does not matter
        saysAre("thing 0 1;thing 0 1;way 0 0 20 15 9 20 15;odd 1;", "gets 1;line 1;", false, false, false);
        saysAre("thing 0 1;thing 0 1;way 1 0 20 15 9 20 15;odd 1;", "gets 1;line 1;", true, true, true);
    }
}
