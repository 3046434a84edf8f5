import java.util.List;

/** Terms 1, sentence by sentence: each bound of scenes, tasks and laws as texts, and what is just beyond it. */
public final class TextBoundsTest {
    private static final String THINGS = "thing 0 1;thing 0 1;";

    public static void main(String[] args) {
        sixScenesAtMost();
        scenesOfUpTo400Bytes();
        twentyFourClausesAtMost();
        colourIs0To7();
        sizeIs1To9();
        eightThingsAtMost();
        wayFromAPlaceAtATenth();
        wayToATenthNotAhead();
        throwFromAThingToAnotherOne();
        oddThingWasToldAhead();
        turnHasThatColour();
        sixTasksAtMost();
        tasksOfUpTo200Bytes();
        sixteenClausesOfATask();
        coloursOfATask();
        roomAndWatchAre0To9();
        lastOfCountRoomWatchCounts();
        withoutThem();
        keepAndDropAll();
        fourLawsAtMost();
        lawsOfUpTo400Bytes();
        sixteenClausesOfALaw();
        numberOfALawIs0To9999();
        eachNameAndEachKind();
        numbersAreDigitsAsManyAsStandThere();
        wordsAreSmallLettersAsManyAsStandThere();
        blanksMayStandAheadAndAtTheEnd();
        nothingElseIsABlank();
        textsThatEndTooEarly();
        whatCanNotStandThere();
        numbersThatAreNoneSuch();
        theFirstFaultFromTheLeft();
        ofOneByteTheLeast();
        sevenThatAreOpenAtOneTime();
        sevenOfAllTogether();
        aNotIsOpenTillItsBEnds();
        valuesWrap();
        divisionCuts();
        divisionBy0Is0();
        bothSidesAreWorked();
        leastAndMostOfTwo();
        notOfABInItsPlace();
        faultyLawsLeaveRoom();
        faultyTasksLeaveNothing();
        Due.end("TextBoundsTest");
    }

    // ---- scenes

    private static void sixScenesAtMost() {
        MiddleUnseen x = new MiddleUnseen();
        for (int k = 0; k < 6; k++) {
            Due.is("scene of " + k + " things", Due.scene(x, "thing 1 1;".repeat(k)), k);
            Due.is("its things", x.told(k, 0), k);
        }
        Due.is("a 7th scene", Due.scene(x, "thing 1 1;"), -1);
        Due.is("six", x.count(0), 6);
    }

    private static void scenesOfUpTo400Bytes() {
        String blanks = " ".repeat(390);
        Due.sceneStands(blanks + "thing 7 9;");
        MiddleUnseen x = new MiddleUnseen();
        Due.scene(x, blanks + "thing 7 9;");
        Due.is("the last bytes are read", x.told(0, 0), 1);
        Due.sceneFault(blanks + "thing 7 9x", 1, 399);
        Due.sceneFault(blanks + " thing 7 9", 1, 400);
    }

    private static void twentyFourClausesAtMost() {
        String things = "thing 0 1;".repeat(4);
        Due.sceneStands(things + "odd 3;".repeat(19));
        Due.sceneStands(things + "odd 3;".repeat(20));
        Due.sceneStands(things + "odd 3;".repeat(20) + "   ");
        Due.sceneFault(things + "odd 3;".repeat(21), 3, 40 + 6 * 20);
        Due.sceneFault(things + "odd 3;".repeat(20) + "  turn 0 0 0;", 3, 40 + 6 * 20 + 2);
        String ways = "way 0 0 0 0 0 0 0;";
        Due.sceneFault("thing 0 1;" + "odd 0;".repeat(10) + ways.repeat(13) + ways, 3, 10 + 60 + 18 * 13);
        Due.sceneStands("thing 0 1;" + "odd 0;".repeat(10) + ways.repeat(13));
        Due.sceneStands(THINGS + "throw 0 1 9;".repeat(22));
        Due.sceneFault(THINGS + "throw 0 1 9;".repeat(23), 3, 20 + 12 * 22);
        Due.sceneStands(THINGS + "turn 0 1 7;".repeat(22));
        Due.sceneFault(THINGS + "turn 0 1 7;".repeat(23), 3, 20 + 11 * 22);
    }

    private static void colourIs0To7() {
        Due.sceneStands("thing 0 5;");
        Due.sceneStands("thing 7 5;");
        Due.sceneFault("thing 8 5;", 2, 6);
    }

    private static void sizeIs1To9() {
        Due.sceneFault("thing 0 0;", 2, 8);
        Due.sceneStands("thing 0 1;");
        Due.sceneStands("thing 0 9;");
        Due.sceneFault("thing 0 10;", 2, 8);
    }

    private static void eightThingsAtMost() {
        Due.sceneStands("thing 0 1;".repeat(7) + "odd 6;");
        Due.sceneFault("thing 0 1;".repeat(7) + "odd 7;", 2, 74);
        Due.sceneStands("thing 0 1;".repeat(8) + "odd 7;");
        Due.sceneFault("thing 0 1;".repeat(8) + "odd 8;", 2, 84);
        Due.sceneFault("thing 0 1;".repeat(9), 3, 80);
        Due.sceneFault("thing 0 1;".repeat(8) + " odd 0; thing 0 1;", 3, 88);
    }

    private static void wayFromAPlaceAtATenth() {
        Due.sceneStands("thing 0 1;way 0 0 0 0 0 0 0;");
        Due.sceneStands("thing 0 1;way 0 299 39 29 299 39 29;");
        Due.sceneFault("thing 0 1;way 1 0 0 0 0 0 0;", 2, 14);
        Due.sceneFault("thing 0 1;way 0 300 0 0 300 0 0;", 2, 16);
        Due.sceneFault("thing 0 1;way 0 0 40 0 0 0 0;", 2, 18);
        Due.sceneFault("thing 0 1;way 0 0 0 30 0 0 0;", 2, 20);
        Due.sceneFault("thing 0 1;way 0 0 0 0 300 0 0;", 2, 22);
        Due.sceneFault("thing 0 1;way 0 0 0 0 0 40 0;", 2, 24);
        Due.sceneFault("thing 0 1;way 0 0 0 0 0 0 30;", 2, 26);
        Due.sceneFault("way 0 0 0 0 0 0 0;thing 0 1;", 2, 4);
        Due.sceneStands("thing 0 1;thing 0 1;way 1 0 0 0 0 0 0;");
    }

    private static void wayToATenthNotAhead() {
        Due.sceneFault("thing 0 1;way 0 7 0 0 6 0 0;", 2, 22);
        Due.sceneStands("thing 0 1;way 0 7 0 0 7 0 0;");
        Due.sceneStands("thing 0 1;way 0 7 0 0 8 0 0;");
        Due.sceneFault("thing 0 1;way 0 299 0 0 298 0 0;", 2, 24);
    }

    private static void throwFromAThingToAnotherOne() {
        Due.sceneStands(THINGS + "throw 0 1 0;");
        Due.sceneStands(THINGS + "throw 1 0 299;");
        Due.sceneFault(THINGS + "throw 0 1 300;", 2, 30);
        Due.sceneFault(THINGS + "throw 0 0 0;", 2, 28);
        Due.sceneFault(THINGS + "throw 1 1 0;", 2, 28);
        Due.sceneFault(THINGS + "throw 2 0 0;", 2, 26);
        Due.sceneFault(THINGS + "throw 0 2 0;", 2, 28);
        Due.sceneFault(THINGS + "throw 2 2 0;", 2, 26);
        Due.sceneFault(THINGS + "throw 0 2 0;thing 0 1;", 2, 28);
        Due.sceneFault(THINGS + "throw 0 00 0;", 2, 28);
    }

    private static void oddThingWasToldAhead() {
        Due.sceneFault("odd 0;", 2, 4);
        Due.sceneFault("odd 0;thing 0 1;", 2, 4);
        Due.sceneStands("thing 0 1;odd 0;");
        Due.sceneFault("thing 0 1;odd 1;", 2, 14);
    }

    private static void turnHasThatColour() {
        Due.sceneStands("thing 0 1;turn 0 0 0;");
        Due.sceneStands("thing 0 1;turn 0 299 7;");
        Due.sceneFault("thing 0 1;turn 1 0 0;", 2, 15);
        Due.sceneFault("thing 0 1;turn 0 300 0;", 2, 17);
        Due.sceneFault("thing 0 1;turn 0 0 8;", 2, 19);
        Due.sceneFault("turn 0 0 0;thing 0 1;", 2, 5);
    }

    // ---- tasks

    private static void sixTasksAtMost() {
        MiddleUnseen x = new MiddleUnseen();
        for (int k = 0; k < 6; k++) {
            Due.is("task of room " + k, Due.task(x, "room " + k + ";"), k);
            Due.is("its room", x.kept(k, 3), k);
        }
        Due.is("a 7th task", Due.task(x, "room 9;"), -1);
        Due.is("six", x.count(1), 6);
    }

    private static void tasksOfUpTo200Bytes() {
        MiddleUnseen x = new MiddleUnseen();
        Due.feed(x, " ".repeat(193) + "room 7;" + "room 8;");
        Due.illegal("a task of 201", () -> x.task(201));
        Due.is("a task of 200", x.task(200), 0);
        Due.is("the last bytes are read", x.kept(0, 3), 7);
        Due.taskFault(" ".repeat(193) + "room 7x", 1, 199);
        Due.taskFault(" ".repeat(194) + "room 7", 1, 200);
    }

    private static void sixteenClausesOfATask() {
        Due.taskStands("room 1;".repeat(15));
        Due.taskStands("room 1;".repeat(16));
        Due.taskStands("room 1;".repeat(16) + "  ");
        Due.taskFault("room 1;".repeat(17), 3, 112);
        Due.taskFault("room 1;".repeat(16) + " keep 9;", 3, 113);
    }

    private static void coloursOfATask() {
        for (String word : List.of("keep ", "drop ", "count ")) {
            Due.taskStands(word + "0;");
            Due.taskStands(word + "7;");
            Due.taskFault(word + "8;", 2, word.length());
        }
    }

    private static void roomAndWatchAre0To9() {
        for (String word : List.of("room ", "watch ")) {
            Due.taskStands(word + "0;");
            Due.taskStands(word + "9;");
            Due.taskFault(word + "10;", 2, word.length());
        }
    }

    private static void keptAre(String text, int... due) {
        MiddleUnseen x = new MiddleUnseen();
        Due.is("task " + text, Due.task(x, text), 0);
        for (int k = 0; k < 5; k++) {
            Due.is("kept " + k + " of " + text, x.kept(0, k), due[k]);
        }
    }

    private static void lastOfCountRoomWatchCounts() {
        keptAre("count 3;room 2;watch 1;count 0;room 0;watch 0;", 0, 0, 0, 0, 0);
        keptAre("count 0;room 0;watch 0;count 7;room 9;watch 9;", 0, 0, 7, 9, 9);
    }

    private static void withoutThem() {
        keptAre("", 0, 0, -1, 4, 0);
        keptAre("keep 1;drop 2;", 2, 4, -1, 4, 0);
        keptAre("count 5;", 0, 0, 5, 4, 0);
        keptAre("room 5;", 0, 0, -1, 5, 0);
        keptAre("watch 5;", 0, 0, -1, 4, 5);
    }

    private static void keepAndDropAll() {
        keptAre("keep 0;keep 7;keep 3;drop 7;drop 0;drop 6;", 1 + 8 + 128, 1 + 64 + 128, -1, 4, 0);
        keptAre("keep 2;keep 2;drop 2;drop 2;", 4, 4, -1, 4, 0);
    }

    // ---- laws

    private static void fourLawsAtMost() {
        MiddleUnseen x = new MiddleUnseen();
        for (int k = 0; k < 4; k++) {
            Due.is("law " + k, Due.law(x, "line " + k + ";"), k);
        }
        Due.is("a 5th law", Due.law(x, "line 9;"), -1);
        Due.is("four", x.count(2), 4);
    }

    private static void lawsOfUpTo400Bytes() {
        Due.lawStands(" ".repeat(393) + "line 1;");
        Due.lawFault(" ".repeat(393) + "line 1x", 1, 399);
        Due.lawFault(" ".repeat(394) + "line 1", 1, 400);
        // the longest sum and the longest condition that a law can have: 197 and 98 that are joined
        Due.lawStands("line 1" + "+1".repeat(196) + " ;");
        Due.lawStands("gets 1 if 1<2" + "or 1<2".repeat(64) + " ;");
        Due.lawStands("gets 1 if 1<2" + "and1<2".repeat(64) + " ;");
        Due.lawStands("line 1" + "*1".repeat(196) + " ;");
    }

    private static void sixteenClausesOfALaw() {
        for (String clause : List.of("gets 1;", "line 1;", "keeps 1;", "sure 1;")) {
            Due.lawStands(clause.repeat(15));
            Due.lawStands(clause.repeat(16));
            Due.lawStands(clause.repeat(16) + " ");
            Due.lawFault(clause.repeat(17), 3, 16 * clause.length());
            Due.lawFault(clause.repeat(16) + "  gets x;", 3, 16 * clause.length() + 2);
        }
    }

    private static void numberOfALawIs0To9999() {
        Due.lawStands("gets 0;");
        Due.lawStands("gets 9999;");
        Due.lawFault("gets 10000;", 2, 5);
        Due.lawFault("gets 1 if 1<10000;", 2, 12);
        Due.lawFault("gets 1 if 10000<1;", 2, 10);
        Due.lawFault("gets least(1,10000);", 2, 13);
        Due.lawFault("line 1+10000;", 2, 7);
    }

    private static void eachNameAndEachKind() {
        for (String name : List.of("like", "drop", "near", "size", "pace", "full", "odd", "watch", "change", "knows",
                "tenth")) {
            Due.lawStands("gets " + name + " if " + name + "=" + name + ";");
            Due.lawFault("gets " + name + "s;", 1, 5);
            Due.lawFault("gets " + name.substring(1) + ";", 1, 5);
        }
        for (String word : List.of("gets", "line", "keeps", "sure")) {
            Due.lawStands(word + " 1;" + word + " 1 if 1<2;");
        }
        for (String word : List.of("least", "most")) {
            Due.lawStands("gets " + word + "(1,2);");
            Due.lawFault("gets " + word + ";", 1, 5 + word.length());
            Due.lawFault("gets " + word + " 1;", 1, 6 + word.length());
            Due.lawFault("gets " + word + "(1);", 1, 7 + word.length());
            Due.lawFault("gets " + word + "(1,2,3);", 1, 9 + word.length());
        }
        for (String sign : List.of("<", ">", "=")) {
            Due.lawStands("gets 1 if 1" + sign + "2;");
            Due.lawFault("gets 1 if 1" + sign + sign + "2;", 1, 12);
        }
    }

    // ---- numbers, words, blanks

    private static void numbersAreDigitsAsManyAsStandThere() {
        String noughts = "0".repeat(300);
        Due.sceneStands("thing " + noughts + "7 " + "0009;");
        Due.sceneFault("thing " + noughts + "8 1;", 2, 6);
        Due.sceneFault("thing 1" + noughts + " 1;", 2, 6);
        // numbers that would wrap to 0, and to 1
        Due.sceneFault("thing 4294967296 1;", 2, 6);
        Due.sceneFault("thing 0 4294967297;", 2, 8);
        Due.sceneFault("thing 0 18446744073709551617;", 2, 8);
        Due.sceneFault("thing 00;", 1, 8);
        Due.sceneFault("thing 0 1 1;", 1, 10);
        Due.sceneFault("thing 0 1.;", 1, 9);
        Due.sceneFault("thing +1 1;", 1, 6);
        Due.sceneFault("thing 0 :;", 1, 8);
        Due.sceneFault("thing 0 /;", 1, 8);
        Due.lawStands("gets 0000000000000000000009999;");
        Due.lawFault("gets 100000000000000000000000;", 2, 5);
        Due.lawFault("gets 4294967297;", 2, 5);
    }

    private static void wordsAreSmallLettersAsManyAsStandThere() {
        Due.sceneFault("thin 0 1;", 1, 0);
        Due.sceneFault("things 0 1;", 1, 0);
        Due.sceneFault("th ing 0 1;", 1, 0);
        Due.sceneFault("THING 0 1;", 1, 0);
        Due.sceneFault("thinG 0 1;", 1, 0);
        Due.sceneFault("thing`0 1;", 1, 5);
        Due.sceneFault("thing{0 1;", 1, 5);
        Due.sceneFault("keep 1;", 1, 0);
        Due.taskFault("odd 1;", 1, 0);
        Due.taskFault("gets 1;", 1, 0);
        Due.lawFault("keep 1;", 1, 0);
        Due.sceneStands("thing0 1;way0 1 2 3 4 5 6;odd0;");
        Due.taskStands("keep1;");
        Due.lawStands("gets1if1<2and2<3or not3<4;");
        Due.lawFault("gets1ifnot1<2;", 1, 5);
        Due.lawFault("gets1if1<2andnot1<2;", 1, 10);
        Due.lawFault("gets 1 if near<5 if near<5;", 1, 17);
        Due.lawFault("gets 1 and 1<2;", 1, 7);
        Due.lawFault("gets 1 near;", 1, 7);
    }

    private static void blanksMayStandAheadAndAtTheEnd() {
        Due.sceneStands("");
        Due.sceneStands("   ");
        Due.sceneStands("  thing   0   1  ;  way  0 1  2 3  4 5  6  ;  odd  0  ;  ");
        Due.taskStands("");
        Due.taskStands(" ");
        Due.taskStands("  keep  1  ;  ");
        Due.lawStands("");
        Due.lawStands(" ");
        Due.lawStands("  gets  (  1  +  2  )  *  least  (  3  ,  4  )  if  not  [  1  <  2  or  3  =  4  ]  and  5  >  6  ;  ");
        Due.sceneFault("  thing 0 1;  ;", 1, 14);
        Due.sceneFault("thing 0 1;   9", 1, 13);
        Due.lawFault("gets   10000;", 2, 7);
        Due.lawFault("gets 1   ]  ;", 1, 9);
    }

    private static void nothingElseIsABlank() {
        for (char sign : new char[] {0, 9, 10, 13, 31, 33, 95, 127, 128, 160, 255}) {
            Due.sceneFault(sign + "thing 0 1;", 1, 0);
            Due.sceneFault("thing 0" + sign + "1;", 1, 7);
            Due.sceneFault("thing 0 1;" + sign, 1, 10);
            Due.taskFault("keep " + sign + "1;", 1, 5);
            Due.lawFault("gets 1" + sign + ";", 1, 6);
        }
    }

    // ---- faults

    private static final String SCENE = "thing 0 1;thing 7 9;way 0 1 2 3 4 5 6;throw 0 1 2;odd 0;turn 1 2 3;";
    private static final String TASK = "keep 1;drop 2;count 3;room 4;watch 5;";
    private static final String LAW = "gets size*5+(9-near)/3;line most(60,least(tenth,watch));keeps 5 if not[pace>2 or odd=0]"
            + "and full<3;sure 7 if knows=1 and not like=drop;";

    private static boolean isLetter(String text, int at) {
        return at >= 0 && at < text.length() && text.charAt(at) >= 'a' && text.charAt(at) <= 'z';
    }

    private static int wordStart(String text, int at) {
        int start = at;
        while (isLetter(text, start - 1)) {
            start--;
        }
        return start;
    }

    private static void fault(String kind, String text, int due, int place) {
        switch (kind) {
            case "scene": Due.sceneFault(text, due, place); break;
            case "task": Due.taskFault(text, due, place); break;
            default: Due.lawFault(text, due, place); break;
        }
    }

    /** Cut within a word, what is left of it can't stand there; else the text ends too early. */
    private static void cutShort(String kind, String text) {
        for (int k = 1; k < text.length(); k++) {
            String cut = text.substring(0, k);
            boolean inWord = isLetter(text, k - 1) && isLetter(text, k);
            if (!cut.endsWith(";")) {
                fault(kind, cut, 1, inWord ? wordStart(text, k - 1) : k);
                if (!inWord) {
                    fault(kind, cut + "   ", 1, k + 3);
                }
            }
        }
    }

    private static void textsThatEndTooEarly() {
        cutShort("scene", SCENE);
        cutShort("task", TASK);
        cutShort("law", LAW);
    }

    /** One byte of it is a sign that stands nowhere: a word that it breaks can't stand there, else it can't. */
    private static void spoilt(String kind, String text) {
        for (int k = 0; k < text.length(); k++) {
            String spoilt = text.substring(0, k) + "!" + text.substring(k + 1);
            boolean inWord = isLetter(text, k) && isLetter(text, k - 1);
            fault(kind, spoilt, 1, inWord ? wordStart(text, k) : k);
        }
    }

    private static void whatCanNotStandThere() {
        Due.sceneStands(SCENE);
        Due.taskStands(TASK);
        Due.lawStands(LAW);
        spoilt("scene", SCENE);
        spoilt("task", TASK);
        spoilt("law", LAW);
        Due.sceneFault(";", 1, 0);
        Due.sceneFault("thing 0 1;;", 1, 10);
        Due.sceneFault("thing thing 0 1;", 1, 6);
        Due.sceneFault("0 thing 0 1;", 1, 0);
        Due.lawFault("gets ();", 1, 6);
        Due.lawFault("gets (1));", 1, 8);
        Due.lawFault("gets (1];", 1, 7);
        Due.lawFault("gets [1];", 1, 5);
        Due.lawFault("gets 1 if (1<2);", 1, 12);
        Due.lawFault("gets 1 if [1<2;", 1, 14);
        Due.lawFault("gets 1 if [1<2));", 1, 14);
        Due.lawFault("gets 1 if [1<2]];", 1, 15);
        Due.lawFault("gets 1 if [1]<2;", 1, 12);
        Due.lawFault("gets 1 if 1;", 1, 11);
        Due.lawFault("gets 1 if 1<2<3;", 1, 13);
        Due.lawFault("gets 1 if;", 1, 9);
        Due.lawFault("gets 1 if not;", 1, 13);
        Due.lawFault("gets 1 if or 1<2;", 1, 10);
        Due.lawFault("gets not 1<2;", 1, 5);
        Due.lawFault("gets 1,2;", 1, 6);
        Due.lawFault("gets *2;", 1, 5);
        Due.lawFault("gets 1*-2;", 1, 7);
        Due.lawFault("gets if 1<2;", 1, 5);
    }

    private static void numbersThatAreNoneSuch() {
        Due.sceneFault("thing 0 1;way 0 5 0 0 4 40 30;odd 9;", 2, 22);
        Due.sceneFault("thing 0 1;odd 00001;", 2, 14);
        Due.sceneFault("thing 0 1;odd   7  ;", 2, 16);
        Due.taskFault("room   10  ;", 2, 7);
    }

    private static void theFirstFaultFromTheLeft() {
        Due.sceneFault("thing 8 x;", 2, 6);
        Due.sceneFault("thing x 10;", 1, 6);
        Due.sceneFault("thing 0 10", 2, 8);
        Due.sceneFault("thing 0 1;".repeat(9) + "nonsense", 3, 80);
        Due.sceneFault("thing 0 1;".repeat(7) + "odd 7;" + "thing 0 1;".repeat(2), 2, 74);
        Due.taskFault("keep 8;room 10;x", 2, 5);
        Due.taskFault("x keep 8;", 1, 0);
        Due.lawFault("gets 10000+(;", 2, 5);
        Due.lawFault("gets +10000;", 1, 5);
        Due.lawFault("gets (((((((10000;", 3, 11);
        Due.lawFault("gets ((((((10000;", 2, 11);
    }

    private static void ofOneByteTheLeast() {
        // a 25th clause that is none at all is what can't stand there
        Due.sceneFault("thing 0 1;" + "odd 0;".repeat(23) + "thin 0 1;", 1, 10 + 6 * 23);
        Due.sceneFault("thing 0 1;" + "odd 0;".repeat(23) + "9", 1, 10 + 6 * 23);
        Due.sceneFault("thing 0 1;" + "odd 0;".repeat(23) + "odd 9;", 3, 10 + 6 * 23);
        Due.sceneFault("thing 0 1;".repeat(8) + "odd 0;".repeat(16) + "thing 0 1;", 3, 80 + 6 * 16);
        Due.taskFault("room 1;".repeat(16) + "odd 0;", 1, 112);
        Due.taskFault("room 1;".repeat(16) + ";", 1, 112);
        Due.lawFault("line 1;".repeat(16) + "watch 1;", 1, 112);
        Due.lawFault("gets 1 if not not not not not not (1<2);", 3, 34);
        // a 7th ( where none can stand
        Due.lawFault("gets ((((((1(;", 1, 12);
    }

    private static void sevenThatAreOpenAtOneTime() {
        Due.lawStands("gets " + "(".repeat(5) + "1" + ")".repeat(5) + ";");
        Due.lawStands("gets " + "(".repeat(6) + "1" + ")".repeat(6) + ";");
        Due.lawFault("gets " + "(".repeat(7) + "1" + ")".repeat(7) + ";", 3, 11);
        Due.lawStands("gets 1 if " + "[".repeat(6) + "1<2" + "]".repeat(6) + ";");
        Due.lawFault("gets 1 if " + "[".repeat(7) + "1<2" + "]".repeat(7) + ";", 3, 16);
        Due.lawStands("gets 1 if " + "not ".repeat(6) + "1<2;");
        Due.lawFault("gets 1 if " + "not ".repeat(7) + "1<2;", 3, 34);
        Due.lawStands("gets " + "most(1,".repeat(6) + "1" + ")".repeat(6) + ";");
        Due.lawFault("gets " + "most(1,".repeat(7) + "1" + ")".repeat(7) + ";", 3, 5 + 42 + 4);
        Due.lawStands("gets " + "least(".repeat(6) + "1" + ",1)".repeat(6) + ";");
        Due.lawFault("gets " + "least(".repeat(7) + "1" + ",1)".repeat(7) + ";", 3, 5 + 36 + 5);
    }

    private static void sevenOfAllTogether() {
        Due.lawStands("gets 1 if not [not [(least(1,2))<3]];");
        Due.lawStands("gets 1 if not [not [1<(least(1,2))]];");
        Due.lawFault("gets 1 if not [not [((least(1,2)))<3]];", 3, 27);
        Due.lawFault("gets 1 if not [not [1<((least(1,2)))]];", 3, 29);
        Due.lawFault("gets 1 if not [not [not [not 1<2]]];", 3, 25);
        Due.lawStands("gets 1 if not [not [not [1<2]]];");
        Due.lawFault("gets least(1,((((((1))))));", 3, 18);
        Due.lawStands("gets least(1,(((((1))))));");
        Due.lawFault("gets least(((((((1)))))),1);", 3, 16);
        Due.lawStands("gets least((((((1))))),1);");
        // those that are closed are open no more
        Due.lawStands("gets ((((((1))))))+((((((2))))))*least(((((1)))),((((2)))));");
        Due.lawStands("gets 1 if [[[[[[1<2]]]]]] and [[[[[[1<2]]]]]] or ((((((1))))))<((((((2))))));");
        Due.lawStands("gets ((((((1)))))) if [[[[[[1<2]]]]]];");
    }

    private static void aNotIsOpenTillItsBEnds() {
        String six = "not ".repeat(6);
        Due.lawStands("gets 1 if " + six + "1<2 and " + six + "1<2 or " + six + "1<2;");
        Due.lawStands("gets 1 if " + six + "1<2 and ((((((1))))))<2 or [[[[[[1<2]]]]]];");
        Due.lawFault("gets 1 if " + six + "(1)<2;", 3, 34);
        Due.lawFault("gets 1 if " + six + "1<(2);", 3, 36);
        Due.lawFault("gets 1 if " + six + "1<least(1,2);", 3, 41);
        Due.lawFault("gets 1 if " + six + "[1<2];", 3, 34);
        Due.lawStands("gets 1 if [" + "not ".repeat(5) + "1<2 and " + "not ".repeat(5) + "1<2];");
        Due.lawFault("gets 1 if [" + "not ".repeat(5) + "1<2 and " + six + "1<2];", 3, 11 + 20 + 8 + 20);
    }

    // ---- values

    private static void holdsIs(String condition, boolean due) {
        MiddleUnseen x = new MiddleUnseen();
        Due.scene(x, "thing 0 3;way 0 0 20 15 9 20 15;");
        x.task(0);
        Due.is("law of " + condition, Due.law(x, "gets 7 if " + condition + ";"), 0);
        x.looker(0, 0, false);
        Due.is("if " + condition, x.gets(0, 0, 0, 0, 0), due ? 7 : 0);
    }

    private static final String LOWEST = "8192*8192*32";

    private static void valuesWrap() {
        holdsIs(LOWEST + "<0", true);
        holdsIs(LOWEST + "-1>0", true);
        holdsIs(LOWEST + "-1+1=" + LOWEST, true);
        holdsIs("0-" + LOWEST + "=" + LOWEST, true);
        holdsIs("8192*8192*64=0", true);
        holdsIs("8192*8192*64+1=1", true);
        holdsIs("8192*8192*31>0", true);
        // 999,700,029,999 less 233 times 4,294,967,296
        holdsIs("9999*9999*9999=0-(1027*1000*1000+349*1000+969)", true);
    }

    private static void divisionCuts() {
        holdsIs("7/2=3", true);
        holdsIs("(0-7)/2=0-3", true);
        holdsIs("7/(0-2)=0-3", true);
        holdsIs("(0-7)/(0-2)=3", true);
        holdsIs("1/2=0", true);
        holdsIs("(0-1)/2=0", true);
        holdsIs(LOWEST + "/(0-1)=" + LOWEST, true);
    }

    private static void divisionBy0Is0() {
        holdsIs("5/0=0", true);
        holdsIs("0/0=0", true);
        holdsIs("(0-5)/0=0", true);
        holdsIs("5/0+3=3", true);
        holdsIs("5/(size-3)*2=0", true);
        holdsIs("5/(size-2)=5", true);
    }

    private static void bothSidesAreWorked() {
        holdsIs("1<2 or 1/0=1", true);
        holdsIs("1/0=1 or 1<2", true);
        holdsIs("2<1 or 1/0=0", true);
        holdsIs("2<1 and 1/0=0", false);
        holdsIs("1<2 and 1/0=0", true);
        holdsIs("2<1 or 2<1", false);
    }

    private static void leastAndMostOfTwo() {
        holdsIs("least(2,7)=2", true);
        holdsIs("least(7,2)=2", true);
        holdsIs("least(7,7)=7", true);
        holdsIs("least(0-2,0-7)=0-7", true);
        holdsIs("least(0-7,2)=0-7", true);
        holdsIs("most(2,7)=7", true);
        holdsIs("most(7,2)=7", true);
        holdsIs("most(7,7)=7", true);
        holdsIs("most(0-2,0-7)=0-2", true);
        holdsIs("most(0-7,2)=2", true);
        holdsIs("most(" + LOWEST + ",1)=1", true);
        holdsIs("least(1," + LOWEST + ")<0", true);
        holdsIs("least(most(1,5),most(4,2))=4", true);
    }

    private static void notOfABInItsPlace() {
        holdsIs("1<2 and not 2<1", true);
        holdsIs("not 2<1 and 1<2", true);
        holdsIs("not 2<1 and not 2<1", true);
        holdsIs("not 2<1 and not 1<2", false);
        holdsIs("not not not 2<1 and 1<2", true);
        holdsIs("not [not 2<1 and not 2<1] or 2<1", false);
        holdsIs("2<1 or not 2<1", true);
        holdsIs("1<2 or not 1<2", true);
        holdsIs("2<1 or not 1<2", false);
    }

    private static void faultyLawsLeaveRoom() {
        MiddleUnseen x = new MiddleUnseen();
        Due.scene(x, "thing 0 3;way 0 0 20 15 9 20 15;");
        x.task(0);
        x.looker(0, 0, false);
        for (int k = 0; k < 4; k++) {
            Due.is("a long one, cut short", Due.law(x, "gets 1" + "+1".repeat(197)), -9);
            Due.is("its fault", x.fault(), 400);
            Due.is("sixteen and one", Due.law(x, "gets 1;".repeat(17)), -7);
            Due.is("law " + k, Due.law(x, "gets 1" + "+1".repeat(190) + ";line 2" + "*1;"), k);
            Due.is("what it gets", x.gets(k, 0, 0, 0, 0), 191);
            Due.is("its line", x.gets(k, 0, 0, 0, 2), 2);
        }
        for (int k = 0; k < 4; k++) {
            Due.is("what law " + k + " gets still", x.gets(k, 0, 0, 0, 0), 191);
        }
    }

    private static void faultyTasksLeaveNothing() {
        MiddleUnseen x = new MiddleUnseen();
        Due.is("a fault at last", Due.task(x, "keep 7;drop 6;count 5;room 8;watch 3;odd"), -9);
        x.task(0);
        int[] due = {0, 0, -1, 4, 0};
        for (int what = 0; what < 5; what++) {
            Due.is("kept " + what, x.kept(0, what), due[what]);
        }
    }
}
