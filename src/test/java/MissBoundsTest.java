/** Terms 3, sentence by sentence: misses in their order, draws, changes, and what would be needed. */
public final class MissBoundsTest {
    public static void main(String[] args) {
        noneIfItSaysSo();
        sevenIfItDoesAndKnows();
        forgottenComesAheadOfUnsure();
        ofSeenOnesNothingElse();
        thereIsNoOddOne();
        droppedWhileItIsThere();
        droppedComesAheadOfFarOff();
        farOffComesAheadOfNeverOnIt();
        nearNeverBelowANumber();
        onItIsNearTwoOrLess();
        onItCountsOpenEyesAlone();
        missIsOfItsOwnLooker();
        missIsOfItsOwnScene();
        yetIsOfWhoWereOnIt();
        theSeedWraps();
        drawsOfEachNoise();
        drawsOfTheHighBits();
        drawsOfTenthsThereAndOpen();
        drawsComeToTheSum();
        drawnToEnd();
        drawnOfNoOddOne();
        changeOfWhatTurns();
        changeCountsInTheseAlone();
        changeAsksTheLineInTheseAlone();
        changeToEnd();
        changeOfNothingThatTurns();
        largeIs1To9();
        largeChangesJustSize();
        nearerIs0To20();
        nearerNotBeyond();
        nearerChangesJustX();
        slowerIs1To9();
        slowerIsCut();
        neededOfNoOddOne();
        neededInWhatIsSeenAlone();
        Due.end("MissBoundsTest");
    }

    private static MiddleUnseen of(String scene, String task, String... laws) {
        MiddleUnseen x = new MiddleUnseen();
        Due.is("scene " + scene, Due.scene(x, scene), 0);
        Due.is("task " + task, Due.task(x, task), 0);
        for (String law : laws) {
            Due.is("law " + law, Due.law(x, law), x.count(2) - 1);
        }
        x.looker(0, 0, false);
        x.looker(0, 0, true);
        return x;
    }

    /** The odd one stands at 20, 15 in tenths 10 to 19; END is 29. */
    private static final String STAGE = "thing 1 4;thing 0 1;way 0 10 20 15 19 20 15;way 1 0 0 0 29 0 0;odd 0;";

    private static void missIs(MiddleUnseen x, int far, int due) {
        Due.is("miss", x.miss(0, 0, far), due);
        Due.is("miss of one who knows", x.miss(0, 1, far), due == -1 ? 7 : due);
    }

    // ---- misses

    private static void noneIfItSaysSo() {
        missIs(of(STAGE, "", "gets 1;line 10;"), 1, -1);
        missIs(of(STAGE, "drop 1;", "gets 1;line 10;keeps 10;sure 10;"), 1, -1);
    }

    private static void sevenIfItDoesAndKnows() {
        MiddleUnseen x = of(STAGE, "", "gets 1 if knows=1;line 10;");
        Due.is("who does not know does not see it", x.miss(0, 0, 1), 2);
        Due.is("who knows does", x.miss(0, 1, 1), 7);
    }

    private static void forgottenComesAheadOfUnsure() {
        missIs(of(STAGE, "", "gets 1;line 10;keeps 9;"), 1, 3);
        missIs(of(STAGE, "", "gets 1;line 10;sure 11;"), 1, 4);
        missIs(of(STAGE, "", "gets 1;line 10;keeps 9;sure 11;"), 1, 3);
        missIs(of(STAGE, "", "gets 1;line 10;keeps 10;sure 11;"), 1, 4);
    }

    private static void ofSeenOnesNothingElse() {
        MiddleUnseen x = of(STAGE, "drop 1;", "gets 1;line 10;keeps 9;", "gets 1;line 10;sure 11;", "gets 1;line 11;");
        x.eyes(0, 0, 0, 0);
        Due.is("forgotten, not dropped", x.miss(0, 0, 1), 3);
        Due.is("unsure, not dropped", x.miss(1, 0, 1), 4);
        Due.is("dropped, if it is not seen", x.miss(2, 0, 1), 5);
    }

    private static void thereIsNoOddOne() {
        missIs(of("thing 1 4;way 0 0 20 15 9 20 15;", "", "gets 1;line 1;"), 1, 0);
        missIs(of("thing 1 4;way 0 0 20 15 9 20 15;", "drop 1;", "gets 1;line 1;"), 99, 0);
        missIs(of("", "", ""), 1, 0);
    }

    private static void droppedWhileItIsThere() {
        missIs(of("thing 0 1;way 0 5 20 15 9 20 15;turn 0 9 1;odd 0;", "drop 1;", ""), 1, 5);
        missIs(of("thing 0 1;way 0 5 20 15 9 20 15;turn 0 10 1;odd 0;", "drop 1;", ""), 1, 2);
        missIs(of("thing 1 1;way 0 5 20 15 9 20 15;turn 0 5 0;odd 0;", "drop 1;", ""), 1, 2);
        missIs(of("thing 1 1;way 0 5 20 15 9 20 15;turn 0 6 0;odd 0;", "drop 1;", ""), 1, 5);
        missIs(of("thing 1 1;way 0 0 20 15 9 20 15;turn 0 1 0;odd 0;", "drop 1;", ""), 1, 5);
        missIs(of("thing 1 1;thing 0 1;way 0 0 20 15 9 20 15;way 1 0 20 15 9 20 15;odd 1;", "drop 1;", ""), 1, 2);
        missIs(of("thing 0 1;way 0 5 20 15 6 20 15;way 0 8 20 15 9 20 15;turn 0 7 1;turn 0 8 0;odd 0;", "drop 1;", ""), 1, 2);
        // it drops the colour whether eyes are open or not
        MiddleUnseen x = of("thing 0 1;way 0 5 20 15 9 20 15;turn 0 9 1;odd 0;", "drop 1;", "");
        x.blink(0, 0, 299);
        Due.is("eyes are shut", x.miss(0, 0, 1), 5);
    }

    private static void droppedComesAheadOfFarOff() {
        MiddleUnseen x = of(STAGE, "drop 1;", "gets 1;line 11;");
        x.eyes(0, 0, 0, 0);
        Due.is("dropped and far off", x.miss(0, 0, 1), 5);
        MiddleUnseen y = of(STAGE, "drop 0;", "gets 1;line 11;");
        y.eyes(0, 0, 0, 0);
        Due.is("far off", y.miss(0, 0, 1), 6);
    }

    private static void farOffComesAheadOfNeverOnIt() {
        MiddleUnseen x = of(STAGE, "", "gets 1;line 11;");
        x.eyes(0, 0, 23, 15);
        Due.is("far off and never on it", x.miss(0, 0, 3), 6);
        Due.is("never on it", x.miss(0, 0, 4), 1);
        x.eyes(0, 0, 22, 15);
        Due.is("far off, on it for all that", x.miss(0, 0, 2), 6);
        Due.is("on it", x.miss(0, 0, 3), 2);
    }

    private static void nearNeverBelowANumber() {
        MiddleUnseen x = of(STAGE, "", "gets 1;line 11;");
        x.eyes(0, 0, 20, 5);
        x.eyes(0, 19, 20, 8);
        x.eyes(0, 20, 20, 15);
        Due.is("7 is not below 7", x.miss(0, 0, 7), 6);
        Due.is("7 is below 8", x.miss(0, 0, 8), 1);
        x.eyes(0, 10, 20, 16);
        x.eyes(0, 11, 20, 5);
        Due.is("1 is not below 1", x.miss(0, 0, 1), 6);
        Due.is("1 is below 2", x.miss(0, 0, 2), 2);
        x.eyes(0, 10, 20, 15);
        Due.is("0 is below 1", x.miss(0, 0, 1), 2);
        Due.is("by the greatest number", x.miss(0, 0, 99), 2);
        Due.illegal("number 0", () -> x.miss(0, 0, 0));
        Due.illegal("number 100", () -> x.miss(0, 0, 100));
        MiddleUnseen y = of("thing 0 1;way 0 0 39 29 9 39 29;odd 0;", "", "");
        y.eyes(0, 0, 0, 0);
        Due.is("39 is below 99", y.miss(0, 0, 99), 1);
        Due.is("39 is below 40", y.miss(0, 0, 40), 1);
        Due.is("39 is not below 39", y.miss(0, 0, 39), 6);
        y.blink(0, 0, 9);
        Due.is("shut: 99 is not below 99", y.miss(0, 0, 99), 6);
        missIs(of("thing 0 1;odd 0;", "", ""), 99, 6);
    }

    private static void onItIsNearTwoOrLess() {
        int[][] eyes = {{22, 17, 2}, {18, 13, 2}, {23, 15, 1}, {20, 18, 1}, {17, 15, 1}, {20, 12, 1}, {20, 15, 2}};
        for (int[] row : eyes) {
            MiddleUnseen x = of(STAGE, "", "gets 1;line 11;");
            x.eyes(0, 0, row[0], row[1]);
            Due.is("miss with eyes at " + row[0] + ", " + row[1], x.miss(0, 0, 99), row[2]);
            Due.is("yet with eyes at " + row[0] + ", " + row[1], x.yet(0) & 1, row[2] - 1);
        }
    }

    private static void onItCountsOpenEyesAlone() {
        MiddleUnseen x = of(STAGE, "", "gets 1;line 11;");
        x.eyes(0, 0, 0, 0);
        x.eyes(0, 19, 20, 15);
        Due.is("on it at last", x.miss(0, 0, 99), 2);
        x.blink(0, 19, 19);
        Due.is("shut then", x.miss(0, 0, 99), 1);
        x.eyes(0, 9, 20, 15);
        x.eyes(0, 10, 0, 0);
        Due.is("on it ahead of that", x.miss(0, 0, 99), 1);
        x.eyes(0, 10, 20, 15);
        x.eyes(0, 11, 0, 0);
        Due.is("on it at first", x.miss(0, 0, 99), 2);
    }

    /** What one looker says was asked just ahead: it has nothing to do with why another one misses it. */
    private static void missIsOfItsOwnLooker() {
        MiddleUnseen x = of(STAGE, "", "gets 1;line 11;");
        Due.task(x, "drop 1;");
        Due.is("of another task", x.looker(0, 1, false), 2);
        x.eyes(0, 0, 0, 0);
        for (int k = 0; k < 3; k++) {
            Due.is("it does not say so", x.says(0, k, 0), false);
        }
        int[] due = {6, 2, 5};
        for (int k = 0; k < 3; k++) {
            Due.is("miss of " + k, x.miss(0, k, 1), due[k]);
        }
        for (int k = 2; k >= 0; k--) {
            Due.is("miss of " + k + " again", x.miss(0, k, 1), due[k]);
        }
    }

    /** The scenes end in tenths 0 and 59; two who look at the latter do not look at the same place. */
    private static void missIsOfItsOwnScene() {
        MiddleUnseen x = new MiddleUnseen();
        Due.scene(x, "thing 0 1;way 0 0 20 15 0 20 15;odd 0;");
        Due.scene(x, "thing 0 1;way 0 50 20 15 59 20 15;odd 0;");
        x.task(0);
        Due.law(x, "line 1;");
        for (int k = 0; k < 4; k++) {
            x.looker(k == 0 ? 0 : 1, 0, false);
        }
        x.eyes(2, 0, 0, 0);
        for (int turn = 0; turn < 2; turn++) {
            Due.is("all but the one were on it", x.yet(0), 11);
            Due.is("on it in tenth 0", x.miss(0, 0, 1), 2);
            Due.is("on it in tenth 50", x.miss(0, 1, 1), 2);
            Due.is("far off", x.miss(0, 2, 1), 6);
            Due.is("on it, too", x.miss(0, 3, 1), 2);
        }
    }

    private static void yetIsOfWhoWereOnIt() {
        MiddleUnseen x = of("thing 0 1;way 0 0 20 15 9 20 15;odd 0;", "", "gets 1;line 10;", "gets 1;line 11;");
        for (int k = 2; k < 14; k++) {
            x.looker(0, 0, false);
        }
        Due.is("none of whom all see it", x.yet(0), 0);
        Due.is("all fourteen", x.yet(1), 16383);
        x.blink(13, 0, 8);
        Due.is("on it in one tenth, END", x.yet(0), 8192);
        x.blink(13, 9, 9);
        Due.is("in none", x.yet(0), 0);
        x.blink(0, 1, 9);
        Due.is("on it in the first tenth", x.yet(0), 1);
        x.blink(0, 0, 0);
        Due.is("in none, the first one", x.yet(0), 0);
        Due.is("but the others", x.yet(1), 16383 - 8192 - 1);
        MiddleUnseen y = of("thing 0 1;way 0 0 20 15 0 20 15;odd 0;", "", "gets 1;line 1;sure 9;", "gets 1;line 2;");
        Due.is("seen, if not sure", y.yet(0), 0);
        Due.is("one tenth is all", y.yet(1), 3);
    }

    // ---- draws

    /** As the words say, by long numbers: in which tenth draws alone come to a line; -1. */
    private static int drawnBy(int from, int to, int noise, int seed, int line) {
        long state = seed;
        long sum = 0;
        for (int t = from; t <= to; t++) {
            state = Math.floorMod(state * 1103515245L + 12345L, 4294967296L);
            sum += state / 65536 % 32768 % (noise + 1);
            if (sum >= line) {
                return t;
            }
        }
        return -1;
    }

    private static final int[] SEEDS = {0, 1, -1, 2, 77, 12345, -12345, 65536, 1103515245, -1103515245, 2147483647,
        -2147483648, 1431655765, -1431655766, 99999999};

    private static void theSeedWraps() {
        MiddleUnseen x = of("thing 0 1;way 0 0 1 1 299 1 1;odd 0;", "", "line 1;", "line 50;", "line 700;", "line 5000;");
        int[] lines = {1, 50, 700, 5000};
        for (int seed : SEEDS) {
            for (int law = 0; law < 4; law++) {
                Due.is("drawn of seed " + seed + " to " + lines[law], x.drawn(law, 0, 50, seed),
                        drawnBy(0, 299, 50, seed, lines[law]));
            }
        }
        // 0 becomes 12,345, whose high bits are 0; then 12,345 times 1,103,515,245 and 12,345 wraps to 3,554,416,254
        Due.is("the third of 0", (12345L * 1103515245L + 12345L) % 4294967296L, 3554416254L);
        Due.is("its bits 16 to 30 are 21468, by 51 that leaves 48", 3554416254L / 65536 % 32768 % 51, 48);
        Due.is("drawn of seed 0", x.drawn(0, 0, 50, 0), 1);
    }

    private static void drawsOfEachNoise() {
        MiddleUnseen x = of("thing 0 1;way 0 0 1 1 299 1 1;odd 0;", "", "line 1;", "line 99;");
        for (int noise = 0; noise <= 50; noise++) {
            Due.is("noise " + noise + " to 1", x.drawn(0, 0, noise, 4711 * noise), drawnBy(0, 299, noise, 4711 * noise, 1));
            Due.is("noise " + noise + " to 99", x.drawn(1, 0, noise, 4711 * noise), drawnBy(0, 299, noise, 4711 * noise, 99));
        }
        Due.is("no noise draws 0", x.drawn(0, 0, 0, 77), -1);
        Due.illegal("noise 51", () -> x.drawn(0, 0, 51, 0));
        Due.illegal("noise -1", () -> x.drawn(0, 0, -1, 0));
    }

    /** A seed that becomes 0 but for the bits told: what it was ahead is found back by the inverse number. */
    private static int seedAheadOf(int next) {
        int inverse = 1;
        for (int k = 0; k < 5; k++) {
            inverse *= 2 - 1103515245 * inverse;
        }
        return (next - 12345) * inverse;
    }

    private static void drawsOfTheHighBits() {
        MiddleUnseen x = of("thing 0 1;way 0 0 1 1 0 1 1;odd 0;", "", "line 1;", "line 2;");
        Due.is("bit 15 is not drawn", x.drawn(0, 0, 50, seedAheadOf(1 << 15)), -1);
        Due.is("all below 16 are not drawn", x.drawn(0, 0, 50, seedAheadOf(65535)), -1);
        Due.is("bit 16 is 1", x.drawn(0, 0, 50, seedAheadOf(1 << 16)), 0);
        Due.is("bit 16 is no more", x.drawn(1, 0, 50, seedAheadOf(1 << 16)), -1);
        Due.is("bit 17 is 2", x.drawn(1, 0, 50, seedAheadOf(1 << 17)), 0);
        // bit 30 is 16,384, which leaves 13 by 51 and 1 by 3
        Due.is("bit 30 is drawn", x.drawn(1, 0, 50, seedAheadOf(1 << 30)), 0);
        Due.is("bit 30 leaves 1 by 3", x.drawn(0, 0, 2, seedAheadOf(1 << 30)), 0);
        Due.is("and no more", x.drawn(1, 0, 2, seedAheadOf(1 << 30)), -1);
        Due.is("bit 31 is not drawn", x.drawn(0, 0, 50, seedAheadOf(1 << 31)), -1);
        Due.is("bits 16 and 31", x.drawn(1, 0, 50, seedAheadOf(1 << 31 | 1 << 16)), -1);
        Due.is("51 leaves nothing by 51", x.drawn(0, 0, 50, seedAheadOf(51 << 16)), -1);
        Due.is("50 leaves 50 by 51", x.drawn(1, 0, 50, seedAheadOf(50 << 16)), 0);
        Due.is("1 leaves nothing by 1", x.drawn(0, 0, 0, seedAheadOf(1 << 16)), -1);
        Due.is("1 leaves 1 by 2", x.drawn(0, 0, 1, seedAheadOf(1 << 16)), 0);
        Due.is("2 leaves nothing by 2", x.drawn(0, 0, 1, seedAheadOf(2 << 16)), -1);
    }

    private static void drawsOfTenthsThereAndOpen() {
        MiddleUnseen x = of(STAGE, "", "line 1;", "line 120;");
        for (int seed : SEEDS) {
            Due.is("from the tenth it comes in", x.drawn(0, 0, 50, seed), drawnBy(10, 19, 50, seed, 1));
            Due.is("to that in which it goes", x.drawn(1, 0, 50, seed), drawnBy(10, 19, 50, seed, 120));
        }
        x.blink(0, 9, 12);
        for (int seed : SEEDS) {
            Due.is("from when eyes are open", x.drawn(0, 0, 50, seed), drawnBy(13, 19, 50, seed, 1));
            Due.is("shut ones draw nothing", x.drawn(1, 0, 50, seed), drawnBy(13, 19, 50, seed, 120));
        }
    }

    private static void drawsComeToTheSum() {
        MiddleUnseen x = of("thing 0 1;way 0 0 1 1 0 1 1;odd 0;", "", "gets 1000;line 1040;", "gets 1000;line 1041;",
                "gets 0-5;line 40;", "gets 5 if 2<1;line 41;");
        int forty = seedAheadOf(40 << 16);
        Due.is("1,000 and 40", x.drawn(0, 0, 50, forty), 0);
        Due.is("no more", x.drawn(1, 0, 50, forty), -1);
        Due.is("0 at least and 40", x.drawn(2, 0, 50, forty), 0);
        Due.is("40 alone", x.drawn(3, 0, 50, forty), -1);
        Due.is("without draws", x.seen(0, 0, 0), -1);
        Due.is("the sum is as it was", x.gets(0, 0, 0, 0, 1), 1000);
    }

    private static void drawnToEnd() {
        MiddleUnseen x = of(STAGE, "", "line 9999;line 1 if tenth=29;", "line 9999;line 1 if tenth=30;", "gets 1;line 10;",
                "gets 1;line 11;");
        Due.is("asked at END", x.drawn(0, 0, 50, 5), 29);
        Due.is("not behind it", x.drawn(1, 0, 50, 5), -1);
        Due.is("as seen", x.drawn(2, 0, 0, 5), 19);
        Due.is("as not seen", x.drawn(3, 0, 0, 5), -1);
    }

    private static void drawnOfNoOddOne() {
        MiddleUnseen x = of("thing 1 4;way 0 0 20 15 9 20 15;", "", "gets 1;line 1;");
        Due.is("no odd one", x.drawn(0, 0, 50, 1), -1);
        Due.illegal("wrong noise for all that", () -> x.drawn(0, 0, 51, 1));
    }

    // ---- changes

    private static final String TURNS = "thing 0 1;thing 0 1;way 0 0 20 15 60 20 15;way 1 0 20 15 60 20 15;";

    private static void changeIs(String scene, String law, int due) {
        Due.is("change by " + law + " at " + scene, of(scene, "", law).change(0, 0), due);
    }

    private static void changeOfWhatTurns() {
        changeIs(TURNS + "turn 1 20 3;turn 0 10 3;odd 0;", "gets 1;line 1;", 20);
        changeIs(TURNS + "turn 0 20 3;turn 1 10 3;", "gets 1;line 1;", 20);
        changeIs(TURNS + "turn 0 20 3;turn 0 10 3;", "gets 1;line 1;", 10);
        changeIs("thing 0 1;turn 0 0 3;", "gets 1;line 1;", -1);
        changeIs("thing 0 1;way 0 5 1 1 60 1 1;turn 0 0 3;", "gets 1;line 1;", 5);
    }

    private static void changeCountsInTheseAlone() {
        changeIs(TURNS + "turn 0 20 3;", "gets 1;line 10;", 29);
        changeIs(TURNS + "turn 0 20 3;", "gets 1;line 11;", -1);
        changeIs(TURNS + "turn 0 20 3;turn 0 40 3;", "gets 1;line 11;", 40);
        changeIs(TURNS + "turn 0 20 3;turn 0 25 3;", "gets 1;line 15;", 34);
        changeIs(TURNS + "turn 0 20 3;turn 0 25 3;", "gets 1;line 16;", -1);
        changeIs(TURNS + "turn 0 0 3;", "gets 1;line 1;", 0);
        changeIs(TURNS + "turn 0 0 3;", "gets 1;line 10;", 9);
        changeIs(TURNS + "turn 0 0 3;", "gets 1;line 11;", -1);
    }

    private static void changeAsksTheLineInTheseAlone() {
        changeIs(TURNS + "turn 0 20 3;", "gets 1;line 99;line 5 if tenth=29;", 29);
        changeIs(TURNS + "turn 0 20 3;", "gets 1;line 99;line 5 if tenth>29;", -1);
        changeIs(TURNS + "turn 0 20 3;turn 0 50 3;", "gets 1;line 99;line 5 if tenth>29;", 50);
    }

    private static void changeToEnd() {
        changeIs(TURNS + "turn 0 60 3;", "gets 1;line 1;", 60);
        changeIs(TURNS + "turn 0 61 3;", "gets 1;line 1;", -1);
        changeIs(TURNS + "turn 0 55 3;", "gets 1;line 6;", 60);
        changeIs(TURNS + "turn 0 55 3;", "gets 1;line 7;", -1);
        changeIs(TURNS + "turn 0 55 3;", "gets 1;line 99;line 6 if tenth=61;", -1);
    }

    private static void changeOfNothingThatTurns() {
        changeIs(TURNS + "odd 0;", "gets 1;line 1;", -1);
        changeIs("", "gets 1;line 1;", -1);
    }

    // ---- what would be needed

    private static void leastIs(String scene, String law, int what, int due) {
        Due.is("least " + what + " by " + law, of(scene, "", law).least(0, 0, what), due);
    }

    private static final String ONE = "thing 0 5;way 0 0 20 15 0 20 15;odd 0;";

    private static void largeIs1To9() {
        leastIs(ONE, "gets size;line 1;", 0, 1);
        leastIs(ONE, "gets size;line 2;", 0, 2);
        leastIs(ONE, "gets size;line 5;", 0, 5);
        leastIs(ONE, "gets size;line 8;", 0, 8);
        leastIs(ONE, "gets size;line 9;", 0, 9);
        leastIs(ONE, "gets size;line 10;", 0, -1);
        leastIs(ONE, "gets 5-size;line 1;", 0, 1);
        leastIs(ONE, "gets 1 if size=7;line 1;", 0, 7);
        leastIs(ONE, "gets 1 if size=0;line 1;", 0, -1);
    }

    private static void largeChangesJustSize() {
        String two = "thing 0 5;way 0 0 10 15 1 14 15;odd 0;";
        leastIs(two, "gets size if pace=4 and near=6;line 3;", 0, 3);
        leastIs(two, "gets size if tenth=1 and odd=1 and like=0;line 9;", 0, 9);
        // the line is asked with that size, too
        leastIs(ONE, "gets 20;line 10*(10-size);", 0, 8);
    }

    private static void nearerIs0To20() {
        MiddleUnseen x = of("thing 0 5;way 0 0 39 15 0 39 15;odd 0;", "", "gets 40-near;line 40-19;", "gets 40-near;line 40-18;",
                "gets 1;line 1;", "gets 40-near;line 40-0;");
        x.eyes(0, 0, 0, 15);
        Due.is("39 less 20", x.least(0, 0, 1), 20);
        Due.is("39 less 21", x.least(1, 0, 1), -1);
        Due.is("as it is", x.least(2, 0, 1), 0);
        x.eyes(0, 0, 20, 15);
        Due.is("19 less 19", x.least(3, 0, 1), 19);
        x.eyes(0, 0, 19, 15);
        Due.is("20 less 20", x.least(3, 0, 1), 20);
        x.eyes(0, 0, 18, 15);
        Due.is("21 less 21", x.least(3, 0, 1), -1);
        Due.is("20 less 1", x.least(0, 0, 1), 2);
    }

    private static void nearerNotBeyond() {
        String twice = "thing 0 5;way 0 0 22 15 0 22 15;way 0 1 10 15 1 10 15;odd 0;";
        // 2 off in one tenth and 10 off in the other: neither comes beyond the eyes
        leastIs(twice, "gets 1 if near=0;line 2;", 1, 10);
        leastIs(twice, "gets 1 if near=0;line 1;", 1, 2);
        leastIs(twice, "gets 1 if near=1;line 2;", 1, -1);
        leastIs(twice, "gets 1 if near<0;line 1;", 1, -1);
        leastIs(twice, "gets 20-near;line 38;", 1, 8);
    }

    private static void nearerChangesJustX() {
        MiddleUnseen x = of("thing 0 5;way 0 0 10 15 1 14 15;odd 0;", "", "gets 1 if near<4;line 1;", "gets 1 if near<3;line 1;",
                "gets 1 if pace=4 and near=3;line 1;", "gets 9;line near*3;");
        x.eyes(0, 0, 20, 18);
        Due.is("6 less 3", x.least(0, 0, 1), 3);
        Due.is("Y stays 3 off", x.least(1, 0, 1), -1);
        Due.is("pace stays", x.least(2, 0, 1), 3);
        // 18 of two tenths: near is to be 6, as it is then; the line is asked with that near, too
        Due.is("in the line", x.least(3, 0, 1), 0);
        x.eyes(0, 0, 28, 15);
        Due.is("14 less 8", x.least(3, 0, 1), 8);
    }

    private static void slowerIs1To9() {
        String fast = "thing 0 5;way 0 0 0 15 1 18 15;odd 0;";
        leastIs(fast, "gets 1 if tenth=1 and pace<19;line 1;", 2, 1);
        leastIs(fast, "gets 1 if tenth=1 and pace<18;line 1;", 2, 2);
        leastIs(fast, "gets 1 if tenth=1 and pace<3;line 1;", 2, 7);
        leastIs(fast, "gets 1 if tenth=1 and pace=2;line 1;", 2, 7);
        leastIs("thing 0 5;way 0 0 0 15 1 17 15;odd 0;", "gets 1 if tenth=1 and pace<2;line 1;", 2, 9);
        leastIs(fast, "gets 1 if tenth=1 and pace<2;line 1;", 2, -1);
        leastIs(fast, "gets 1;line 1;", 2, 1);
        leastIs(fast, "gets 1;line 3;", 2, -1);
    }

    private static void slowerIsCut() {
        String fast = "thing 0 5;way 0 0 0 15 1 19 15;odd 0;";
        leastIs(fast, "gets 1 if tenth=1 and pace=9;line 1;", 2, 2);
        leastIs(fast, "gets 1 if tenth=1 and pace=6;line 1;", 2, 3);
        leastIs(fast, "gets 1 if tenth=1 and pace=4;line 1;", 2, 4);
        leastIs(fast, "gets 1 if tenth=1 and pace=5;line 1;", 2, -1);
        leastIs(fast, "gets 1 if tenth=1 and pace=3 and size=5 and near=1;line 1;", 2, 5);
        // 9 is 8 or more, as of a pace of 2; the line is asked with that pace, too
        leastIs(fast, "gets 9 if tenth=1;line 4*pace;", 2, 7);
    }

    private static void neededOfNoOddOne() {
        for (int what = 0; what < 3; what++) {
            leastIs("thing 0 5;way 0 0 20 15 0 20 15;", "gets 1;line 1;", what, -1);
            leastIs("", "gets 1;line 1;", what, -1);
        }
        MiddleUnseen x = of("", "", "");
        Due.illegal("what 3", () -> x.least(0, 0, 3));
        Due.illegal("what -1", () -> x.least(0, 0, -1));
    }

    private static void neededInWhatIsSeenAlone() {
        // neither forgotten nor unsure matters
        leastIs(ONE, "gets size;line 3;keeps 0;sure 999;", 0, 3);
        leastIs(ONE, "gets size;line 3;keeps 0;sure 999;", 1, 0);
        MiddleUnseen x = of(ONE, "", "gets size;line 9;");
        Due.is("by size 9", x.least(0, 0, 0), 9);
        Due.is("the others by none", x.least(0, 0, 1), -1);
        Due.is("it is not seen for all that", x.seen(0, 0, 0), -1);
        Due.is("nor drawn", x.drawn(0, 0, 0, 0), -1);
        Due.is("nor said", x.says(0, 0, 2), false);
    }
}
