/** Promises 7 to 19 and 49 to 54: what there is, the ACTS, LATEST, SEED, going back, counts. */
public final class ActsTest {
    private static final Due due = new Due("ActsTest");

    public static void main(String[] args) {
        letters();
        linesAndWords();
        seasons();
        writing();
        writingWrong();
        opening();
        copying();
        pruning();
        cutting();
        heatingAndBurning();
        weeksPass();
        weeksByDraws();
        lastWeek();
        latest();
        seeds();
        undoing();
        undoForgets();
        image();
        counts();
        due.close();
    }

    private static void letters() {
        GrownPost x = Due.world("words c 9;letter from 2 temper 7 abc;letter from 3 temper 4 a;hot 1;open 0",
                "c to d;a to b");
        int[] first = {3, 7, 2, 1, 0, 15, 2, -1};
        int[] second = {1, 4, 3, 0, 1, 3, 0, 1};
        for (int what = 0; what < 8; what++) {
            due.is("letter 0, " + what, x.letter(0, what), first[what]);
            due.is("letter 1, " + what, x.letter(1, what), second[what]);
        }
        due.fails("what 8", java.util.NoSuchElementException.class, () -> x.letter(0, 8));
        due.fails("what -1", java.util.NoSuchElementException.class, () -> x.letter(0, -1));
        due.noLetter("no letter goes first", () -> x.letter(2, 8));
        due.noLetter("letter -1", () -> x.letter(-1, 0));
        x.open(0, false);
        due.is("sealed again", x.letter(0, 7), 3);
        Due.post(x, "letter from 0 temper 0 aaaaaaaaaaaaaaaaaaaaaaaa;letter from 0 temper 0 aaaaaaaaaaaaaaaaaaaaaaa"
                + ";letter from 0 temper 0 b");
        due.is("24 lines", x.letter(2, 7), -1);
        due.is("23 lines", x.letter(3, 7), 1);
        due.is("nothing follows", x.letter(4, 7), -1);
    }

    private static void linesAndWords() {
        GrownPost x = Due.world("letter from 2 temper 7 abl;promise a l;words l 1", "l to c");
        due.is("line", x.line(0, 2, false), 11);
        due.is("led", x.line(0, 2, true), 0);
        x.weeks(2);
        due.is("came line", x.line(0, 3, false), 2);
        due.is("came led", x.line(0, 3, true), 0);
        due.noLetter("line 4", () -> x.line(0, 4, false));
        due.noLetter("line -1", () -> x.line(0, -1, true));
        due.noLetter("line of no letter", () -> x.line(1, 0, false));
        due.is("words", x.words(11), 1);
        due.is("words", x.words(10), 3);
        due.noLetter("words 12", () -> x.words(12));
        due.noLetter("words -1", () -> x.words(-1));
        due.is("first", x.promise(0, false), 0);
        due.is("second", x.promise(0, true), 11);
        due.noLetter("promise 1", () -> x.promise(1, false));
        due.noLetter("promise -1", () -> x.promise(-1, true));
    }

    private static void seasons() {
        GrownPost x = new GrownPost();
        int[] weeks = {0, 12, 13, 25, 26, 38, 39, 51, 52, 9999};
        int[] want = {0, 0, 1, 1, 2, 2, 3, 3, 0, 769 % 4};
        for (int i = 0; i < weeks.length; i++) {
            due.is("season " + weeks[i], x.season(weeks[i]), want[i]);
        }
        due.noNumber("season -1", () -> x.season(-1));
        due.noNumber("season 10000", () -> x.season(10000));
    }

    private static void writing() {
        GrownPost x = Due.world("week 5;letter from 1 temper 1 a", "l to a");
        due.is("write", Due.write(x, "abl", 9, 0), 1);
        due.lines("written", x, 1, "abl");
        due.is("sender", x.letter(1, 2), 9);
        due.is("temper", x.letter(1, 1), 0);
        due.is("sealed", x.letter(1, 3), 0);
        due.is("not hot", x.letter(1, 4), 0);
        due.is("week", x.line(1, 2, true), 5);
        due.is("tape used up", x.end(1), false);
        Due.put(x, new byte[] {0, 11, 5, 12, 'a'});
        due.is("end 3", x.end(3), true);
        due.is("write 0, 11, 5, whatever stood behind them", x.write(0, 9), 2);
        due.lines("KINDS are numbers", x, 2, "alf");
        due.is("write 24", Due.write(x, "aaaaaaaaaaaabbbbbbbbbbbb", 0, 0), 3);
        for (int i = 4; i < 8; i++) {
            due.is("write " + i, Due.write(x, "a", 0, 0), i);
        }
        Due.putKinds(x, "a");
        due.fails("a ninth", UnsupportedOperationException.class, () -> x.write(0, 0));
        due.is("tape used up", x.end(1), false);
        Due.putKinds(x, "m");
        due.noNumber("a wrong ninth", () -> x.write(0, 0));
        due.is("fault stays", x.fault(), -1);
    }

    private static void writingWrong() {
        GrownPost x = new GrownPost();
        due.noNumber("an empty TAPE", () -> x.write(0, 0));
        for (String row : new String[] {"m", "abcm", "`", "a`", "aaaaaaaaaaaabbbbbbbbbbbbc"}) {
            Due.putKinds(x, row);
            due.noNumber("write the numbers of '" + row + "'", () -> x.write(0, 0));
            due.is("tape used up", x.end(1), false);
        }
        // The signs a to l are KINDS in texts alone.
        for (String text : new String[] {"a", "l", "abc", "a\u0000", "\u0000a", " ", "0", "\f", "\u00ff", "\u0000\u0080"}) {
            Due.put(x, text);
            due.noNumber("write the signs '" + text + "'", () -> x.write(0, 0));
            due.is("tape used up", x.end(1), false);
        }
        int[][] digits = {{-1, 0}, {10, 0}, {0, -1}, {0, 10}};
        for (int[] pair : digits) {
            Due.putKinds(x, "a");
            due.noNumber("write " + pair[0] + ", " + pair[1], () -> x.write(pair[0], pair[1]));
            due.is("tape used up", x.end(1), false);
        }
        due.is("none", x.count(0), 0);
        due.is("no acts", x.count(10), 0);
    }

    private static void opening() {
        GrownPost x = Due.world("letter from 1 temper 1 a", "a to a");
        due.is("seal a sealed one", x.open(0, false), false);
        due.is("open", x.open(0, true), true);
        due.is("open again", x.open(0, true), false);
        due.is("opening stops it", x.weeks(3), 0);
        due.is("seal", x.open(0, false), true);
        due.is("sealed goes on", x.weeks(3), 3);
        due.is("acts, also those that change nothing", x.count(10), 6);
        due.noLetter("open 1", () -> x.open(1, true));
        due.noLetter("open -1", () -> x.open(-1, true));
        due.is("a refused one is no act", x.count(10), 6);
    }

    private static void copying() {
        GrownPost x = Due.world("letter from 1 temper 2 a;hot 0;open 0;week 9", "a to b");
        due.is("copy", x.copy(0), 1);
        int[] want = {1, 2, 1, 0, 1, 3, 0, 1};
        for (int what = 0; what < 8; what++) {
            due.is("copy, " + what, x.letter(1, what), want[what]);
        }
        due.is("led", x.line(1, 0, true), 0);
        due.is("first stays open", x.letter(0, 3), 1);
        x.weeks(1);
        due.lines("copies grow apart", x, 1, "ab");
        due.lines("the open one", x, 0, "a");
        for (int i = 2; i < 8; i++) {
            due.is("copy " + i, x.copy(1), i);
        }
        due.fails("copy 9", UnsupportedOperationException.class, () -> x.copy(0));
        due.noLetter("copy none goes first", () -> x.copy(8));
        due.noLetter("copy -1", () -> x.copy(-1));
    }

    private static void pruning() {
        GrownPost x = Due.world("letter from 1 temper 2 abcd", "b to c");
        due.noNumber("prune 0", () -> x.prune(0, 0));
        due.noNumber("prune -1", () -> x.prune(0, -1));
        due.noNumber("prune 4", () -> x.prune(0, 4));
        due.noNumber("prune most", () -> x.prune(0, Integer.MAX_VALUE));
        due.noLetter("prune none goes first", () -> x.prune(1, 0));
        due.is("prune 2", x.prune(0, 2), 2);
        due.lines("pruned", x, 0, "ab");
        due.is("grows on", x.weeks(1), 1);
        due.lines("grown on", x, 0, "abc");
        due.is("prune 2", x.prune(0, 2), 1);
        due.noNumber("prune the last", () -> x.prune(0, 1));
        due.is("acts", x.count(10), 3);
    }

    private static void cutting() {
        GrownPost x = Due.world("letter from 1 temper 2 abc;week 4", "c to d");
        x.weeks(1);
        due.is("cut 1", x.cut(0, 1), 1);
        due.lines("cut", x, 0, "acd");
        due.is("led moves along", x.line(0, 2, true), 4);
        due.noLetter("cut 3", () -> x.cut(0, 3));
        due.noLetter("cut -1", () -> x.cut(0, -1));
        due.noLetter("cut none", () -> x.cut(1, 0));
        due.is("cut the last", x.cut(0, 2), 3);
        due.is("cut the first", x.cut(0, 0), 0);
        due.fails("none would stay", IllegalStateException.class, () -> x.cut(0, 0));
        due.noLetter("no such line goes first", () -> x.cut(0, 1));
        due.lines("one stays", x, 0, "c");
        due.is("acts", x.count(10), 4);
    }

    private static void heatingAndBurning() {
        GrownPost x = Due.world("letter from 1 temper 2 a;letter from 2 temper 2 b;letter from 3 temper 2 c", "b to b");
        due.is("heat", x.heat(1, true), true);
        due.is("heat again", x.heat(1, true), false);
        due.is("two a week", x.weeks(2), 4);
        due.is("out", x.heat(1, false), true);
        due.is("out again", x.heat(1, false), false);
        due.is("one a week", x.weeks(2), 2);
        due.noLetter("heat 3", () -> x.heat(3, true));
        due.noLetter("heat -1", () -> x.heat(-1, true));
        due.noLetter("burn 3", () -> x.burn(3));
        due.noLetter("burn -1", () -> x.burn(-1));
        due.is("burn", x.burn(0), 2);
        due.lines("a number less", x, 0, "bbbbbbb");
        due.lines("a number less", x, 1, "c");
        due.is("sender", x.letter(1, 2), 3);
        due.is("burn the last", x.burn(1), 1);
        due.is("burn all", x.burn(0), 0);
        due.noLetter("burn none", () -> x.burn(0));
        due.is("acts", x.count(10), 9);
    }

    private static void weeksPass() {
        GrownPost x = Due.world("letter from 1 temper 2 a;letter from 1 temper 2 c;hot 1",
                "a to b;b to a;c to d if length < 2;d to e if before > 1 and before < 3");
        due.is("weeks", x.weeks(1), 3);
        due.lines("a line", x, 0, "ab");
        due.lines("two in the hot room", x, 1, "cde");
        due.is("weeks", x.weeks(60), 22);
        due.is("24 lines", x.letter(0, 0), 24);
        due.is("led", x.line(0, 23, true), 22);
        due.is("week", x.count(4), 61);
        due.is("came", x.count(9), 25);
        due.noNumber("weeks 0", () -> x.weeks(0));
        due.noNumber("weeks 61", () -> x.weeks(61));
        due.noNumber("weeks -1", () -> x.weeks(-1));
        due.is("one act a call", x.count(10), 2);
        GrownPost winter = Due.world("week 38;letter from 1 temper 2 a", "a to a if winter");
        due.is("no winter yet", winter.weeks(1), 0);
        due.is("winter", winter.weeks(20), 13);
    }

    /** From SEED 1 DRAWS are 16838, 5758, 10113, 17515, 31051, 5627. */
    private static void weeksByDraws() {
        GrownPost none = Due.world("letter from 1 temper 2 a;letter from 1 temper 2 b", "a to a");
        none.weeks(1);
        due.is("one draw, without slips too, none if nothing follows", none.seed(0), 1103515245 + 12345);
        GrownPost all = Due.world("slip 100;letter from 1 temper 2 a;hot 0", "a to b;k to a");
        due.is("k, 17515 modulo 12 is 7", all.weeks(1), 2);
        due.lines("all astray", all, 0, "akh");
        GrownPost edge = Due.world("slip 38;letter from 1 temper 2 a", "a to b");
        edge.weeks(1);
        due.lines("38 is not below 38", edge, 0, "ab");
        GrownPost over = Due.world("slip 39;letter from 1 temper 2 a", "a to b");
        over.weeks(1);
        due.lines("38 is below 39", over, 0, "ak");
        GrownPost full = Due.world("slip 100;letter from 1 temper 2 aaaaaaaaaaaaaaaaaaaaaaaa", "a to b");
        full.weeks(5);
        due.is("no draw without room", full.seed(0), 1);
        GrownPost open = Due.world("slip 100;letter from 1 temper 2 a;open 0", "a to b");
        open.weeks(5);
        due.is("no draw for an open one", open.seed(0), 1);
        GrownPost order = Due.world("slip 100;letter from 1 temper 2 a;letter from 1 temper 2 a", "a to a");
        order.weeks(1);
        due.lines("by numbers", order, 0, "ak");
        due.lines("by numbers", order, 1, "ah");
    }

    private static void lastWeek() {
        GrownPost x = Due.world("week 999;letter from 1 temper 2 a", "a to b if week > 999 + 999 + 999 + 999 + 999 + 999 + 999"
                + " + 999 + 999 + 999 + 8;b to c");
        for (int i = 0; i < 149; i++) {
            x.weeks(60);
        }
        due.is("week", x.count(4), 9939);
        due.is("weeks", x.weeks(59), 0);
        due.is("week", x.count(4), 9998);
        due.is("weeks", x.weeks(1), 0);
        due.is("week", x.count(4), 9999);
        due.is("ahead, the week stays", x.ahead(0, 2, 1), 3);
        due.is("weeks", x.weeks(2), 2);
        due.is("week", x.count(4), 9999);
        due.is("led", x.line(0, 2, true), 9999);
        Due.put(x, "week 999");
        due.noNumber("a week that is gone", x::post);
    }

    private static void latest() {
        GrownPost x = Due.world("letter from 1 temper 2 abc;letter from 1 temper 2 a;letter from 1 temper 2 a;hot 2", "a to a");
        due.is("latest 0", x.latest(0), 0);
        due.is("latest 1", x.latest(1), -1);
        due.is("latest -1", x.latest(-1), -1);
        x.weeks(2);
        due.is("latest 0, of several the least", x.latest(0), 0);
        due.is("latest 1", x.latest(1), 2);
        due.is("latest 2", x.latest(2), -1);
        x.prune(2, 1);
        due.is("latest 1, of several the least", x.latest(1), 1);
        GrownPost one = Due.world("letter from 1 temper 2 a", "");
        due.is("a first line counts", one.latest(0), 0);
        due.is("none at all", new GrownPost().latest(0), -1);
    }

    private static void seeds() {
        GrownPost x = Due.world("slip 100;letter from 1 temper 2 a", "a to b");
        due.is("seed", x.seed(Integer.MIN_VALUE), 1);
        due.is("seed", x.seed(7), Integer.MIN_VALUE);
        due.is("no act", x.count(10), 0);
        x.weeks(1);
        int one = 1103515245 * 7 + 12345;
        int two = 1103515245 * one + 12345;
        due.is("by draws", x.line(0, 1, false), (two >>> 16 & 32767) % 12);
        due.is("seed", x.seed(1), two);
    }

    private static void undoing() {
        GrownPost x = Due.world("slip 100;letter from 1 temper 2 a;letter from 3 temper 4 abc", "a to a;b to b;c to c");
        x.weeks(3);
        x.heat(0, true);
        x.open(1, true);
        due.is("no change, an act too", x.open(1, true), false);
        x.copy(1);
        x.prune(1, 1);
        x.cut(1, 0);
        x.burn(0);
        Due.write(x, "l", 0, 0);
        due.is("acts", x.count(10), 9);
        due.is("undo write", x.undo(), true);
        due.is("LETTERS", x.count(0), 2);
        due.is("undo burn", x.undo(), true);
        due.is("LETTERS", x.count(0), 3);
        due.is("hot is back", x.letter(0, 4), 1);
        int lines = x.letter(1, 0);
        due.is("undo cut", x.undo(), true);
        due.is("LINES", x.letter(1, 0), lines + 1);
        due.is("undo prune", x.undo(), true);
        due.is("LINES", x.letter(1, 0), lines + 2);
        due.is("undo copy", x.undo(), true);
        due.is("LETTERS", x.count(0), 2);
        due.is("undo an open that changed nothing", x.undo(), true);
        due.is("open", x.letter(1, 3), 1);
        due.is("undo open", x.undo(), true);
        due.is("sealed", x.letter(1, 3), 0);
        due.is("undo heat", x.undo(), true);
        due.is("hot", x.letter(0, 4), 0);
        due.is("undo weeks", x.undo(), true);
        due.is("week", x.count(4), 0);
        due.is("came", x.count(9), 0);
        due.lines("lines", x, 0, "a");
        due.lines("lines", x, 1, "abc");
        due.is("seed is back", x.seed(1), 1);
        due.is("none left", x.undo(), false);
        due.is("acts", x.count(10), 0);
    }

    private static void undoForgets() {
        GrownPost x = Due.world("letter from 1 temper 2 aaaaaaaaaaaaaaaaaaaa", "");
        for (int i = 0; i < 13; i++) {
            x.prune(0, 1);
        }
        due.is("12 are remembered", x.count(10), 12);
        x.seed(5);
        Due.put(x, "zz");
        for (int i = 0; i < 12; i++) {
            due.is("undo " + i, x.undo(), true);
        }
        due.is("the 13th is not", x.undo(), false);
        due.is("LINES", x.letter(0, 0), 19);
        due.is("the TAPE stays", x.end(2), true);
        x.prune(0, 1);
        due.noNumber("wrong text", x::post);
        due.is("a wrong text forgets nothing", x.count(10), 1);
        due.is("fault", x.fault(), 0);
        due.is("undo", x.undo(), true);
        due.is("fault stays", x.fault(), 0);
        x.prune(0, 1);
        Due.post(x, "");
        due.is("a text forgets", x.count(10), 0);
        due.is("nothing to undo", x.undo(), false);
        x.prune(0, 1);
        Due.law(x, "");
        due.is("a law forgets", x.undo(), false);
        x.prune(0, 1);
        x.image();
        due.is("an image forgets nothing", x.count(10), 1);
        due.is("undo", x.undo(), true);
        due.is("back", x.back(), true);
        due.is("going back forgets", x.count(10), 0);
        due.is("the image is not undone", x.letter(0, 0), 16);
    }

    private static void image() {
        GrownPost x = Due.world("slip 9;letter from 1 temper 2 a;words a 5;promise a b;week 3", "a to a");
        x.weeks(2);
        x.image();
        int seed = x.seed(0);
        x.seed(seed);
        Due.post(x, "slip 1;letter from 1 temper 2 b;words a 6;promise c c;week 100");
        Due.law(x, "a to b;b to c");
        x.weeks(3);
        Due.put(x, "zz");
        due.noNumber("wrong text", x::law);
        Due.put(x, "abcd");
        due.is("back", x.back(), true);
        int[] want = {1, 1, 1, 1, 5, 9, 3, 0, 0, 2, 0};
        for (int what = 0; what < want.length; what++) {
            due.is("back, count " + what, x.count(what), want[what]);
        }
        due.is("the TAPE stays", x.end(4), true);
        due.is("fault stays", x.fault(), 0);
        due.is("words", x.words(0), 5);
        due.is("law", x.letter(0, 7), 0);
        due.is("seed", x.seed(1), seed);
        x.burn(0);
        due.is("back again", x.back(), true);
        due.is("LETTERS", x.count(0), 1);
        x.burn(0);
        x.image();
        due.is("one image alone", x.back(), true);
        due.is("LETTERS", x.count(0), 0);
        GrownPost y = new GrownPost();
        y.image();
        Due.law(y, "a to b");
        y.back();
        due.is("no law", y.count(3), -1);
    }

    private static void counts() {
        GrownPost x = Due.world("letter from 1 temper 2 a;letter from 1 temper 2 abc;letter from 1 temper 2 a;open 1;open 2;hot 2;hot 0"
                + ";promise a a;promise b c;slip 3;week 8", "a to b;b to c;c to d");
        int[] want = {3, 2, 1, 3, 8, 3, 5, 6, 5, 0, 0};
        for (int what = 0; what < want.length; what++) {
            due.is("count " + what, x.count(what), want[what]);
        }
        due.is("count 11", x.count(11), -1);
        due.is("count -1", x.count(-1), -1);
        due.is("count most", x.count(Integer.MAX_VALUE), -1);
    }
}
