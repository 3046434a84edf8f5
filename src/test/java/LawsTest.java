/** Promises 17 to 24: what gets in by laws, seen or not, misses, draws, changes, what would be needed. */
public final class LawsTest {
    public static void main(String[] args) {
        values();
        gets();
        lines();
        seen();
        says();
        misses();
        drawn();
        change();
        yet();
        large();
        nearer();
        slower();
        edges();
        wrongs();
        Due.end("LawsTest");
    }

    /** One thing, the odd one, of size 4, that stands at 20, 15 from tenth 10 to 19; END is 29. */
    private static MiddleUnseen stage(String... laws) {
        MiddleUnseen x = new MiddleUnseen();
        Due.scene(x, "thing 1 4;thing 0 1;way 0 10 20 15 19 20 15;way 1 0 0 0 29 0 0;odd 0;");
        Due.task(x, "keep 1;watch 7;");
        for (String law : laws) {
            Due.is("law " + law, Due.law(x, law), x.count(2) - 1);
        }
        x.looker(0, 0, false);
        return x;
    }

    /** What a value is, by what of it gets in (below 1,000) and by the line (to 100,000). */
    private static void valueIs(String value, int due) {
        MiddleUnseen x = stage("gets " + value + ";line " + value + ";");
        Due.is("gets " + value, x.gets(0, 0, 0, 12, 0), Math.max(0, Math.min(1000, due)));
        Due.is("line " + value, x.gets(0, 0, 0, 12, 2), Math.max(1, Math.min(100000, due)));
    }

    private static void holdsIs(String condition, boolean due) {
        MiddleUnseen x = stage("gets 7 if " + condition + ";");
        Due.is("if " + condition, x.gets(0, 0, 0, 12, 0), due ? 7 : 0);
    }

    private static void values() {
        valueIs("1+2*3", 7);
        valueIs("(1+2)*3", 9);
        valueIs("20-5-3", 12);
        valueIs("100/5/2", 10);
        valueIs("100/(5/2)", 50);
        valueIs("7/2*2", 6);
        valueIs("9-(1-8)/2", 12);
        valueIs("5/0+3", 3);
        valueIs("(0-5)/(tenth-12)+9", 9);
        valueIs("0-5", -5);
        valueIs("least(3,4-2)*most(5,0-6)", 10);
        valueIs("like*100+watch*10+size", 174);
        valueIs("tenth", 12);
        valueIs("odd*5", 5);
        valueIs("9999*9999", 99980001);
        valueIs("9999*9999*9999", (int) (9999L * 9999 * 9999));
        valueIs("65*9999*9999*9999/99-9999*9999", (int) (65L * 9999 * 9999 * 9999) / 99 - 99980001);
        holdsIs("1<2", true);
        holdsIs("2<2", false);
        holdsIs("2>2", false);
        holdsIs("3>2", true);
        holdsIs("2=2", true);
        holdsIs("2=3", false);
        holdsIs("0-1<0", true);
        holdsIs("1<2 or 1<2 and 2<1", true);
        holdsIs("[1<2 or 1<2] and 2<1", false);
        holdsIs("2<1 and 2<1 or 1<2", true);
        holdsIs("not 1<2", false);
        holdsIs("not not 1<2", true);
        holdsIs("not 1<2 and 2<1", false);
        holdsIs("not [1<2 and 2<1]", true);
        holdsIs("not 2<1 or 1<2", true);
        holdsIs("near=0 and size=4 and odd=1 and knows=0", true);
    }

    private static void gets() {
        MiddleUnseen x = stage("gets 3;gets 4 if tenth>14;gets 5 if tenth>14 and odd=1;line 9;", "gets 2000;gets 0-1500;",
                "gets 400;gets 700;", "gets 5-near;");
        Due.is("one holds", x.gets(0, 0, 0, 14, 0), 3);
        Due.is("all hold", x.gets(0, 0, 0, 15, 0), 12);
        Due.is("not there", x.gets(0, 0, 0, 9, 0), 0);
        Due.is("gone", x.gets(0, 0, 0, 20, 0), 0);
        Due.is("sum ahead", x.gets(0, 0, 0, 9, 1), 0);
        Due.is("sum first", x.gets(0, 0, 0, 10, 1), 3);
        Due.is("sum", x.gets(0, 0, 0, 15, 1), 27);
        Due.is("sum at the end", x.gets(0, 0, 0, 299, 1), 75);
        Due.is("together, then the bounds", x.gets(1, 0, 0, 10, 0), 500);
        Due.is("1,000 at most", x.gets(2, 0, 0, 10, 0), 1000);
        Due.is("sum of bounded ones", x.gets(2, 0, 0, 11, 1), 2000);
        Due.is("0 at least", x.gets(3, 0, 1, 0, 0), 0);
        Due.is("sum of none below 0", x.gets(3, 0, 1, 29, 1), 0);
        x.blink(0, 15, 16);
        Due.is("shut", x.gets(0, 0, 0, 15, 0), 0);
        Due.is("sum over shut ones", x.gets(0, 0, 0, 17, 1), 27);
    }

    private static void lines() {
        MiddleUnseen x = stage("line 5;line 6 if tenth<12;line 7 if tenth<11 and near<99;", "gets 1;",
                "line 0-3;", "line 9999*9999 if near=99;line 2000*pace+1 if near<99;");
        Due.is("the last that holds", x.gets(0, 0, 0, 10, 2), 7);
        Due.is("not the last", x.gets(0, 0, 0, 11, 2), 6);
        Due.is("without a condition", x.gets(0, 0, 0, 12, 2), 5);
        Due.is("not there: near is 99", x.gets(0, 0, 0, 9, 2), 6);
        Due.is("none", x.gets(1, 0, 0, 12, 2), 100);
        Due.is("1 at least", x.gets(2, 0, 0, 12, 2), 1);
        Due.is("100,000 at most", x.gets(3, 0, 0, 9, 2), 100000);
        Due.is("pace 0 at first", x.gets(3, 0, 0, 10, 2), 1);
        x.blink(0, 10, 10);
        Due.is("shut: near is 99", x.gets(0, 0, 0, 10, 2), 6);
        Due.is("behind END", x.gets(3, 0, 0, 299, 2), 100000);
    }

    private static void seen() {
        MiddleUnseen x = stage("gets 3;line 9;", "gets 3;line 31;", "gets 3;line 200-tenth*7;", "gets 3;line 300-tenth;");
        Due.is("the third", x.seen(0, 0, 0), 12);
        Due.is("another thing", x.seen(0, 0, 1), 2);
        Due.is("never", x.seen(1, 0, 0), -1);
        // 30 from tenth 19 on, and the line comes down to it when the thing is gone
        Due.is("when it is gone", x.seen(2, 0, 0), 25);
        Due.is("not behind END", x.seen(3, 0, 0), -1);
        x.blink(0, 11, 12);
        Due.is("later by a blink", x.seen(0, 0, 0), 14);
        x.eyes(0, 0, 1, 1);
        Due.is("eyes do not matter to this law", x.seen(0, 0, 0), 14);
        Due.illegal("thing 2", () -> x.seen(0, 0, 2));
        Due.illegal("thing -1", () -> x.seen(0, 0, -1));
        x.scene(0);
        x.looker(1, 0, false);
        Due.illegal("no thing at all", () -> x.seen(0, 1, 0));
    }

    private static void saysAre(MiddleUnseen x, int law, boolean... due) {
        for (int k = 0; k < 3; k++) {
            Due.is("says(" + law + ", 0, " + k + ")", x.says(law, 0, k), due[k]);
        }
    }

    private static void says() {
        // seen in tenth 12, which is 17 ahead of END; the sum at END is 30
        MiddleUnseen x = stage("gets 3;line 9;keeps 17;sure 30;", "gets 3;line 9;keeps 16;", "gets 3;line 9;sure 31;",
                "gets 3;line 9;keeps 16;sure 31;");
        saysAre(x, 0, true, true, true);
        saysAre(x, 1, false, true, true);
        saysAre(x, 2, false, false, true);
        saysAre(x, 3, false, false, true);
        x = stage("gets 3;", "gets 3;line 9;keeps 0 if tenth=29 and near=99;keeps 99 if near<99;", "gets 3;line 9;keeps 0-9 if tenth<29;sure 0-9;",
                "gets 3;line 9;sure 9999*9999;sure 30 if near=99;");
        saysAre(x, 0, false, false, false);
        saysAre(x, 1, false, true, true);
        saysAre(x, 2, true, true, true);
        saysAre(x, 3, true, true, true);
        MiddleUnseen y = new MiddleUnseen();
        Due.scene(y, "thing 1 4;way 0 10 20 15 19 20 15;");
        y.task(0);
        Due.law(y, "gets 100;");
        y.looker(0, 0, false);
        saysAre(y, 0, false, false, false);
        Due.is("without an odd one it is seen", y.seen(0, 0, 0), 10);
        Due.is("without an odd one there is none", y.miss(0, 0, 5), 0);
    }

    private static void misses() {
        MiddleUnseen x = stage("gets 3;line 9;", "gets 3;line 9;keeps 16;sure 31;", "gets 3;line 9;sure 31;", "gets 0;");
        x.looker(0, 0, true);
        Due.is("it says so", x.miss(0, 0, 1), -1);
        Due.is("it says so and knows", x.miss(0, 1, 1), 7);
        Due.is("forgotten, and unsure", x.miss(1, 0, 1), 3);
        Due.is("forgotten, who knows", x.miss(1, 1, 1), 3);
        Due.is("unsure", x.miss(2, 0, 1), 4);
        Due.is("on it", x.miss(3, 0, 1), 2);
        x.eyes(0, 0, 23, 15);
        Due.is("never on it", x.miss(3, 0, 4), 1);
        Due.is("never nearer than 3", x.miss(3, 0, 3), 6);
        x.eyes(0, 19, 22, 13);
        Due.is("on it at last", x.miss(3, 0, 4), 2);
        Due.is("never nearer than 2", x.miss(3, 0, 2), 6);
        x.blink(0, 0, 299);
        Due.is("shut", x.miss(3, 0, 99), 6);
        Due.task(x, "drop 1;");
        x.looker(0, 1, false);
        Due.is("dropped", x.miss(3, 2, 1), 5);
        Due.scene(x, "thing 0 1;way 0 5 1 1 9 1 1;turn 0 2 1;turn 0 5 2;turn 0 10 1;odd 0;");
        x.looker(1, 1, false);
        Due.is("dropped when it is not there", x.miss(3, 3, 1), 6);
        Due.scene(x, "thing 0 1;way 0 5 1 1 9 1 1;turn 0 2 1;turn 0 6 2;odd 0;");
        x.looker(2, 1, false);
        Due.is("dropped in one tenth", x.miss(3, 4, 1), 5);
        Due.scene(x, "thing 0 1;odd 0;");
        x.looker(3, 0, false);
        Due.is("never there", x.miss(3, 5, 99), 6);
    }

    private static void drawn() {
        MiddleUnseen x = stage("gets 3;line 9;", "line 60;", "line 1;", "line 9999;");
        Due.is("no noise", x.drawn(0, 0, 0, 77), 12);
        int seed = 1;
        int sum = 0;
        int due = -1;
        for (int t = 10; t <= 19 && due < 0; t++) {
            seed = seed * 1103515245 + 12345;
            sum += (seed >> 16 & 32767) % 21;
            due = sum >= 60 ? t : -1;
        }
        Due.is("noise of 20", x.drawn(1, 0, 20, 1), due);
        // 1 becomes 1103527590: its bits 16 to 30 are 16838; by 51 that leaves 8
        Due.is("a first draw of 8", x.drawn(2, 0, 50, 1), 10);
        Due.is("never", x.drawn(3, 0, 50, 1), -1);
        Due.is("a seed below 0", x.drawn(2, 0, 2, -99), firstDraw(-99, 3));
        x.blink(0, 0, 15);
        Due.is("draws while eyes are open", x.drawn(2, 0, 50, 1), 16);
        Due.illegal("noise 51", () -> x.drawn(0, 0, 51, 1));
        Due.illegal("noise -1", () -> x.drawn(0, 0, -1, 1));
        Due.scene(x, "thing 0 1;way 0 0 1 1 9 1 1;");
        x.looker(1, 0, false);
        Due.is("no odd one", x.drawn(2, 1, 50, 1), -1);
    }

    /** In which tenth of the stage the first draw above 0 comes. */
    private static int firstDraw(int seed, int by) {
        int next = seed;
        for (int t = 10; t <= 19; t++) {
            next = (int) ((next * 1103515245L + 12345) % 4294967296L);
            if ((((long) next & 0x7fffffffL) >> 16) % by > 0) {
                return t;
            }
        }
        return -1;
    }

    private static void change() {
        MiddleUnseen x = new MiddleUnseen();
        Due.scene(x, "thing 1 4;thing 0 1;way 0 0 20 15 60 20 15;way 1 0 0 0 60 0 0;odd 1;turn 0 20 3;turn 1 3 3;turn 0 40 1;");
        x.task(0);
        Due.law(x, "gets 3;line 9;");
        Due.law(x, "gets 3;line 33;");
        Due.law(x, "gets 3;line 100-tenth;");
        Due.law(x, "gets 3;line 30 if tenth<29;line 5 if tenth=35;line 90;");
        x.looker(0, 0, false);
        Due.is("the third tenth of the turn", x.change(0, 0), 22);
        Due.is("in the next turn", x.change(1, 0), 40);
        // 30 and 3 for each from tenth 40 on: 54 in tenth 47, when the line is 53
        Due.is("the line comes down", x.change(2, 0), 47);
        Due.is("asked in these alone", x.change(3, 0), -1);
        x.blink(0, 21, 28);
        Due.is("by a blink", x.change(0, 0), 40);
        Due.scene(x, "thing 1 4;way 0 0 20 15 60 20 15;odd 0;");
        x.looker(1, 0, false);
        Due.is("nothing turns", x.change(0, 1), -1);
        Due.outside("law 4", () -> x.change(4, 0));
        Due.illegal("looker 2", () -> x.change(0, 2));
    }

    private static void yet() {
        MiddleUnseen x = stage("gets 3 if near<2;line 9;", "gets 3;line 9;");
        x.looker(0, 0, true);
        x.looker(0, 0, false);
        x.looker(0, 0, false);
        x.eyes(1, 0, 22, 17);
        x.eyes(2, 0, 23, 15);
        x.eyes(3, 11, 22, 15);
        Due.is("on it and not seen", x.yet(0), 10);
        Due.is("all see it", x.yet(1), 0);
        x.blink(1, 0, 19);
        Due.is("shut while it is there", x.yet(0), 8);
        x.blink(0, 12, 30);
        Due.is("two tenths are too few", x.yet(0), 9);
        x.scene(0);
        x.looker(1, 0, false);
        Due.is("no odd one", x.yet(0), 9);
        Due.outside("law 2", () -> x.yet(2));
        Due.outside("law -1", () -> x.yet(-1));
    }

    private static void large() {
        MiddleUnseen x = stage("gets size;line 70;", "gets size;line 91;", "gets 1;line size+1;", "gets 1 if size=9;line 1;");
        Due.is("of 7", x.least(0, 0, 0), 7);
        Due.is("by none", x.least(1, 0, 0), -1);
        Due.is("the least of many", x.least(2, 0, 0), 1);
        Due.is("by 9", x.least(3, 0, 0), 9);
        Due.is("it stays as it was", x.name(0, 0, 12, 3), 4);
        Due.is("and as it is seen", x.seen(0, 0, 0), -1);
    }

    private static void nearer() {
        MiddleUnseen x = stage("gets 1 if near<3;line 5;", "gets 9 if near=6;line 5;", "gets 1;line 5;", "gets 1 if near<2;line 5;");
        x.eyes(0, 0, 39, 17);
        Due.is("by 17", x.least(0, 0, 1), 17);
        Due.is("near is just 6", x.least(1, 0, 1), 13);
        Due.is("by 0", x.least(2, 0, 1), 0);
        Due.is("Y stays", x.least(3, 0, 1), -1);
        x.eyes(0, 0, 0, 15);
        Due.is("from the other side, by 19", x.least(3, 0, 1), 19);
        x.eyes(0, 0, 12, 15);
        Due.is("not beyond", x.least(0, 0, 1), 6);
        x.blink(0, 10, 19);
        Due.is("shut", x.least(2, 0, 1), -1);
    }

    private static void slower() {
        MiddleUnseen x = new MiddleUnseen();
        Due.scene(x, "thing 1 4;way 0 0 0 15 5 35 15;odd 0;");
        x.task(0);
        Due.law(x, "gets 1 if pace<3;line 3;");
        Due.law(x, "gets 1 if pace<1;line 2;");
        Due.law(x, "gets pace;line 7;");
        Due.law(x, "gets 5 if pace=1;line 11;keeps 0;");
        x.looker(0, 0, false);
        // 7 a tenth: by 3 that is 2
        Due.is("by 3", x.least(0, 0, 2), 3);
        Due.is("by 8", x.least(1, 0, 2), 8);
        Due.is("by 1", x.least(2, 0, 2), 1);
        Due.is("by 4", x.least(3, 0, 2), 4);
        Due.is("it stays as it was", x.name(0, 0, 2, 4), 7);
        Due.illegal("what 3", () -> x.least(0, 0, 3));
        Due.illegal("what -1", () -> x.least(0, 0, -1));
        Due.scene(x, "thing 1 4;way 0 0 0 15 5 35 15;");
        x.looker(1, 0, false);
        for (int k = 0; k < 3; k++) {
            Due.is("no odd one", x.least(0, 1, k), -1);
        }
    }

    /** The first tenth and END count, and a fault leaves nothing behind. */
    private static void edges() {
        MiddleUnseen x = new MiddleUnseen();
        Due.scene(x, "thing 0 4;way 0 0 39 15 10 20 15;odd 0;");
        Due.task(x, "keep 0;room 0;");
        Due.law(x, "gets 1;line 1;");
        Due.law(x, "gets 9;line 999;line 9 if tenth=9;keeps 0;");
        Due.law(x, "gets 9;line 999;line 9 if tenth=10;keeps 0;");
        x.looker(0, 0, false);
        Due.is("sum of the first tenth", x.gets(0, 0, 0, 0, 1), 1);
        Due.is("full in the first tenth", x.name(0, 0, 0, 5), 1);
        Due.is("seen in the first tenth", x.seen(0, 0, 0), 0);
        Due.is("one ahead of END", x.says(1, 0, 1), true);
        Due.is("kept for none, forgotten by one", x.says(1, 0, 0), false);
        Due.is("seen at END, kept", x.says(2, 0, 0), true);
        Due.is("on it at END", x.on(0, 0), 1);
        Due.law(x, "gets 77;line 1;gets");
        x.law(0);
        Due.is("nothing of the law with a fault", x.gets(3, 0, 0, 0, 0), 0);
        Due.is("nor its line", x.gets(3, 0, 0, 0, 2), 100);
        Due.is("near enough at END", x.miss(3, 0, 1), 2);
        x.blink(0, 9, 10);
        Due.is("4 away at last, then shut", x.miss(3, 0, 5), 1);
        Due.scene(x, "thing 0 4;way 0 0 39 15 10 20 15;odd 0;turn 0 10 1;");
        Due.task(x, "drop 1;");
        x.looker(1, 1, false);
        Due.is("dropped at END", x.miss(3, 1, 1), 5);
    }

    private static void wrongs() {
        MiddleUnseen x = stage("gets 1;");
        Due.outside("gets: no law comes first", () -> x.gets(1, 9, 9, 300, 9));
        Due.outside("gets: law -1", () -> x.gets(-1, 0, 0, 0, 0));
        Due.illegal("gets: looker", () -> x.gets(0, 1, 0, 0, 0));
        Due.illegal("gets: thing", () -> x.gets(0, 0, 2, 0, 0));
        Due.illegal("gets: thing -1", () -> x.gets(0, 0, -1, 0, 0));
        Due.illegal("gets: tenth", () -> x.gets(0, 0, 0, 300, 0));
        Due.illegal("gets: tenth -1", () -> x.gets(0, 0, 0, -1, 0));
        Due.illegal("gets: what", () -> x.gets(0, 0, 0, 0, 3));
        Due.illegal("gets: what -1", () -> x.gets(0, 0, 0, 0, -1));
        Due.outside("seen: no law comes first", () -> x.seen(1, 9, 9));
        Due.illegal("seen: looker", () -> x.seen(0, 1, 0));
        Due.outside("says: no law comes first", () -> x.says(1, 9, 9));
        Due.illegal("says: looker", () -> x.says(0, -1, 0));
        Due.illegal("says: asking 3", () -> x.says(0, 0, 3));
        Due.illegal("says: asking -1", () -> x.says(0, 0, -1));
        Due.outside("miss: no law comes first", () -> x.miss(1, 9, 0));
        Due.illegal("miss: looker", () -> x.miss(0, 1, 1));
        Due.illegal("miss: far 0", () -> x.miss(0, 0, 0));
        Due.illegal("miss: far 100", () -> x.miss(0, 0, 100));
        Due.outside("drawn: no law comes first", () -> x.drawn(1, 9, 51, 0));
        Due.illegal("drawn: looker", () -> x.drawn(0, 1, 0, 0));
        Due.outside("least: no law comes first", () -> x.least(1, 9, 9));
        Due.illegal("least: looker", () -> x.least(0, 1, 0));
    }
}
