/** Promises 20 to 26: AHEAD, SAYS, HOLDS, STOPS, STAYS, SEND, CUTS, OUT. */
public final class AheadTest {
    private static final Due due = new Due("AheadTest");
    /** a b c c c .., and j to nothing; h stops in week 2, but goes on from week 5. */
    private static final String LAW = "a to b;b to c;c to c;h to h if week < 2;h to i if week > 4";

    public static void main(String[] args) {
        ahead();
        aheadNothingAstray();
        says();
        stops();
        stays();
        sends();
        sendsTwo();
        cuts();
        cutsOut();
        due.close();
    }

    private static void ahead() {
        GrownPost x = Due.world("words c 9;letter from 1 temper 2 a;letter from 1 temper 2 a;letter from 1 temper 2 a"
                + ";letter from 1 temper 2 j;hot 1;open 2", LAW);
        int[][] kinds = {{0, 1, 2, 2}, {0, 2, 2, 2}, {0, 0, 0, 0}, {9, 9, 9, 9}};
        int[][] lines = {{1, 2, 3, 4}, {1, 3, 5, 7}, {1, 1, 1, 1}, {1, 1, 1, 1}};
        int[][] words = {{3, 6, 15, 24}, {3, 15, 33, 51}, {3, 3, 3, 3}, {3, 3, 3, 3}};
        for (int letter = 0; letter < 4; letter++) {
            for (int n = 0; n < 4; n++) {
                due.is("ahead kind " + letter + ", " + n, x.ahead(letter, n, 0), kinds[letter][n]);
                due.is("ahead lines " + letter + ", " + n, x.ahead(letter, n, 1), lines[letter][n]);
                due.is("ahead words " + letter + ", " + n, x.ahead(letter, n, 2), words[letter][n]);
            }
        }
        due.is("ahead 40", x.ahead(0, 40, 1), 24);
        due.is("ahead 23", x.ahead(0, 23, 1), 24);
        due.is("ahead 22", x.ahead(0, 22, 1), 23);
        due.noNumber("ahead 41", () -> x.ahead(0, 41, 0));
        due.noNumber("ahead -1 goes first", () -> x.ahead(0, -1, 3));
        due.fails("what 3", java.util.NoSuchElementException.class, () -> x.ahead(0, 0, 3));
        due.fails("what -1", java.util.NoSuchElementException.class, () -> x.ahead(0, 0, -1));
        due.noLetter("no letter goes first", () -> x.ahead(4, 41, 3));
        due.is("nothing changes", x.count(6), 4);
        due.is("nothing changes", x.count(4), 0);
    }

    private static void aheadNothingAstray() {
        GrownPost x = Due.world("slip 100;letter from 1 temper 2 h", LAW);
        due.is("nothing astray", x.ahead(0, 1, 0), 7);
        due.is("two h come", x.ahead(0, 5, 1), 3);
        due.is("i comes in week 5", x.ahead(0, 6, 0), 8);
        due.is("no draws", x.seed(1), 1);
    }

    private static void says() {
        GrownPost x = Due.world("letter from 1 temper 2 a;letter from 1 temper 2 a;hot 1;letter from 1 temper 2 jh;letter from 1 temper 2 a;open 3", LAW);
        due.is("says a", x.says(0, 0, false), 0);
        due.is("says b", x.says(0, 1, false), 1);
        due.is("says c", x.says(0, 2, false), 2);
        due.is("says d", x.says(0, 3, false), -1);
        due.is("hot says b never", x.says(1, 1, false), -1);
        due.is("hot holds b", x.says(1, 1, true), 1);
        due.is("hot says c", x.says(1, 2, false), 1);
        due.is("j says j never", x.says(2, 9, false), -1);
        due.is("j holds j", x.says(2, 9, true), 0);
        due.is("i comes in week 5", x.says(2, 8, false), 6);
        due.is("holds i", x.says(2, 8, true), 6);
        due.is("open says b never", x.says(3, 1, false), -1);
        due.noLetter("kind 12", () -> x.says(0, 12, false));
        due.noLetter("kind -1", () -> x.says(0, -1, true));
        due.noLetter("letter 4", () -> x.says(4, 0, false));
        GrownPost late = Due.world("letter from 1 temper 2 a;letter from 1 temper 2 a", "a to b if week > 38");
        due.is("40 is the last", late.says(0, 1, false), 40);
        late = Due.world("letter from 1 temper 2 a", "a to b if week > 39");
        due.is("41 is too late", late.says(0, 1, false), -1);
    }

    private static void stops() {
        GrownPost x = Due.world("letter from 1 temper 2 a;letter from 1 temper 2 a;hot 1;letter from 1 temper 2 h"
                + ";letter from 1 temper 2 a;open 3;letter from 1 temper 2 j", LAW);
        due.is("24 lines", x.stops(0), 23);
        due.is("24 lines, hot", x.stops(1), 12);
        due.is("nothing follows in week 2", x.stops(2), 2);
        due.is("open", x.stops(3), 0);
        due.is("nothing follows", x.stops(4), 0);
        due.noLetter("letter 5", () -> x.stops(5));
        GrownPost never = Due.world("letter from 1 temper 2 a", "a to a if week < 2");
        due.is("stops at 2", never.stops(0), 2);
        GrownPost later = Due.world("letter from 1 temper 2 a", "a to a if week > 0");
        due.is("nothing follows now, though it will", later.stops(0), 0);
    }

    private static void stays() {
        GrownPost x = Due.world("letter from 1 temper 2 a;letter from 1 temper 2 h;letter from 1 temper 2 i;open 2", LAW);
        due.is("a", x.stays(0, 0), 1);
        due.is("b", x.stays(0, 1), 1);
        due.is("c", x.stays(0, 2), 39);
        due.is("d", x.stays(0, 3), 0);
        due.is("h", x.stays(1, 7), 6);
        due.is("i", x.stays(1, 8), 35);
        due.is("open", x.stays(2, 8), 41);
        due.noLetter("kind 12", () -> x.stays(0, 12));
        due.noLetter("kind -1", () -> x.stays(0, -1));
        due.noLetter("letter 3", () -> x.stays(3, 0));
        GrownPost twice = Due.world("letter from 1 temper 2 a", "a to b if length < 2;b to a;a to a if length > 4");
        due.is("the first stay alone", twice.stays(0, 0), 1);
    }

    private static void sends() {
        GrownPost x = Due.world("slip 100;letter from 1 temper 2 a", LAW);
        due.is("c now", x.send(1, 2, 2, 0, false), 2);
        due.is("c in a week", x.send(1, 2, 2, 1, false), 1);
        due.is("c in two", x.send(1, 2, 2, 2, false), 0);
        due.is("how many now", x.send(1, 2, 2, 0, true), 13);
        due.is("how many in a week", x.send(1, 2, 2, 1, true), 26);
        due.is("how many in two", x.send(1, 2, 2, 2, true), 39);
        due.is("none says a in a week", x.send(1, 2, 0, 1, false), -1);
        due.is("none says a in a week", x.send(1, 2, 0, 1, true), 0);
        due.is("h in six weeks", x.send(1, 2, 7, 6, false), -1);
        due.is("nothing stays", x.count(0), 1);
        due.is("nothing stays", x.count(10), 0);
        due.noLetter("kind 12 goes first", () -> x.send(10, 10, 12, 41, false));
        due.noLetter("kind -1", () -> x.send(1, 2, -1, 0, true));
        due.noNumber("sender 10", () -> x.send(10, 2, 0, 0, false));
        due.noNumber("sender -1", () -> x.send(-1, 2, 0, 0, false));
        due.noNumber("temper 10", () -> x.send(1, 10, 0, 0, false));
        due.noNumber("temper -1", () -> x.send(1, -1, 0, 0, false));
        due.noNumber("n 41", () -> x.send(1, 2, 0, 41, false));
        due.noNumber("n -1", () -> x.send(1, 2, 0, -1, true));
    }

    private static void sendsTwo() {
        // What comes behind g depends on what stands before it.
        GrownPost x = Due.world("week 10;letter from 1 temper 2 a;letter from 1 temper 2 a;letter from 1 temper 2 a"
                + ";letter from 1 temper 2 a;letter from 1 temper 2 a;letter from 1 temper 2 a;letter from 1 temper 2 a"
                + ";letter from 1 temper 2 a", "g to l if before > 4 and before < 6 and sender < 4 and temper > 6;l to a if week > 11");
        due.is("f, then g", x.send(3, 7, 11, 1, true), 14);
        due.is("l alone goes first", x.send(3, 7, 11, 1, false), 11);
        due.is("weeks go on", x.send(3, 7, 0, 3, false), 0);
        due.is("a at first, l, fg", x.send(3, 7, 0, 3, true), 13 + 13 + 1);
        GrownPost y = Due.world("week 10", "g to l if before > 4 and before < 6 and sender < 4 and temper > 6;l to a");
        due.is("fg alone", y.send(3, 7, 11, 1, false), 12 + 12 * 5 + 6);
        GrownPost twice = Due.world("", "a to b if before < 1");
        due.is("aa is the first of two", twice.send(0, 0, 1, 1, false), 1);
        due.is("b alone, those with b last, aa", twice.send(0, 0, 1, 1, true), 14);
        due.is("aa", Due.world("", "a to l if before < 1;l to a").send(0, 0, 11, 1, false), 12);
        due.is("ll", Due.world("", "l to k if before > 10 and before < 12;k to a").send(0, 0, 10, 1, false), 155);
        due.is("another sender", y.send(4, 7, 11, 1, false), -1);
        due.is("another temper", y.send(3, 6, 11, 1, false), -1);
    }

    private static void cuts() {
        GrownPost x = Due.world("letter from 1 temper 2 jab;letter from 1 temper 2 j;letter from 1 temper 2 aaj;open 2", LAW);
        due.is("c now", x.cuts(0, 2, 0, false), -1);
        due.is("c in a week", x.cuts(0, 2, 1, false), 0);
        due.is("b in a week", x.cuts(0, 1, 1, false), 1);
        due.is("j in a week", x.cuts(0, 9, 1, false), 2);
        due.is("not c in a week", x.cuts(0, 2, 1, true), 1);
        due.is("not c in two", x.cuts(0, 2, 2, true), 2);
        due.is("not b in a week", x.cuts(0, 1, 1, true), 0);
        due.is("one stays", x.cuts(1, 9, 0, true), -1);
        due.is("open", x.cuts(2, 0, 9, false), 1);
        due.is("nothing changes", x.count(6), 7);
        due.noLetter("kind 12", () -> x.cuts(0, 12, 41, false));
        due.noLetter("kind -1", () -> x.cuts(0, -1, 0, true));
        due.noLetter("letter 3", () -> x.cuts(3, 0, 41, false));
        due.noNumber("n 41", () -> x.cuts(0, 0, 41, false));
        due.noNumber("n -1", () -> x.cuts(0, 0, -1, false));
    }

    private static void cutsOut() {
        GrownPost x = Due.world("letter from 1 temper 2 abj;letter from 1 temper 2 j;letter from 1 temper 2 ab;open 2", LAW
                + ";j to k if before < 1");
        due.is("j out: c in a week", x.out(0, 2, 1, false), 4);
        due.is("b out: k in a week", x.out(0, 10, 1, false), 2);
        due.is("not k in a week", x.out(0, 10, 1, true), 5);
        due.is("j in a week", x.out(0, 9, 1, false), 1);
        due.is("not if it has but one", x.out(1, 9, 0, true), 0);
        due.is("not if it has but one", x.out(1, 9, 0, false), 0);
        due.is("open", x.out(2, 0, 9, false), 2);
        due.is("nothing changes", x.count(6), 6);
        due.noLetter("kind 12", () -> x.out(0, 12, 41, false));
        due.noLetter("kind -1", () -> x.out(0, -1, 0, true));
        due.noLetter("letter 3", () -> x.out(3, 0, 41, false));
        due.noNumber("n 41", () -> x.out(0, 0, 41, false));
        due.noNumber("n -1", () -> x.out(0, 0, -1, false));
        GrownPost all = Due.world("letter from 1 temper 2 aaaaaaaaaaaaaaaaaaaaaaaa", "");
        due.is("24 bits", all.out(0, 0, 0, false), (1 << 24) - 1);
    }
}
