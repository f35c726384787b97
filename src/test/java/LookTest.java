/** Promises 27 to 48: how LETTERS came to be, two of them, PROMISES, weights, shelves, trials. */
public final class LookTest {
    private static final Due due = new Due("LookTest");

    public static void main(String[] args) {
        astray();
        astrayInItsWeek();
        senseless();
        meets();
        parts();
        drawers();
        bounds();
        soonest();
        weights();
        postage();
        forks();
        ripe();
        standing();
        authors();
        shelves();
        manyShelves();
        tempers();
        trials();
        spans();
        due.close();
    }

    private static void astray() {
        GrownPost x = Due.world("letter from 1 temper 2 abcab;letter from 1 temper 2 aab;letter from 1 temper 2 abc;letter from 1 temper 2 l",
                "a to b;b to c;c to d");
        due.is("c to a", x.astray(0), 8);
        due.is("begun with four", x.written(0), 4);
        due.is("a to a", x.astray(1), 2);
        due.is("begun with two", x.written(1), 2);
        due.is("none", x.astray(2), 0);
        due.is("begun with one", x.written(2), 1);
        due.is("one line", x.astray(3), 0);
        due.is("one line", x.written(3), 1);
        due.noLetter("astray 4", () -> x.astray(4));
        due.noLetter("written -1", () -> x.written(-1));
        GrownPost none = new GrownPost();
        Due.post(none, "letter from 1 temper 2 aaaaaaaaaaaaaaaaaaaaaaaa");
        due.is("without a law", none.astray(0), (1 << 24) - 2);
        due.is("without a law", none.written(0), 24);
    }

    private static void astrayInItsWeek() {
        String law = "a to b if week > 5 and temper > 2;a to c if hot;b to c if length < 3 and sender < 2;c to c if before < 12 and before > 0";
        GrownPost x = Due.world("letter from 1 temper 3 a;week 6", law);
        x.weeks(2);
        due.lines("grown", x, 0, "abc");
        due.is("as it came", x.astray(0), 0);
        GrownPost y = Due.world("letter from 1 temper 3 abc;week 6", law);
        due.is("in week 0", y.astray(0), 2);
        GrownPost z = Due.world("week 6;letter from 1 temper 2 abc;letter from 2 temper 3 abc;letter from 1 temper 2 ac;letter from 1 temper 2 ac;hot 3"
                + ";letter from 1 temper 3 bccc", law);
        due.is("another temper", z.astray(0), 2);
        due.is("another sender", z.astray(1), 4);
        due.is("not hot", z.astray(2), 2);
        due.is("hot", z.astray(3), 0);
        due.is("before, from all LINES ahead", z.astray(4), 0);
    }

    private static void senseless() {
        GrownPost x = Due.world("letter from 1 temper 2 abcab;letter from 1 temper 2 ab;letter from 1 temper 2 a;letter from 1 temper 2 aa",
                "a to c;a to b if 1 < 0;b to c if hot;c to d");
        due.is("c to a", x.senseless(0), 3);
        due.is("whatever its condition", x.senseless(1), -1);
        due.is("one line", x.senseless(2), -1);
        due.is("a to a", x.senseless(3), 1);
        due.noLetter("senseless 4", () -> x.senseless(4));
        GrownPost first = Due.world("letter from 1 temper 2 ab", "a to b;a to c");
        due.is("the law's first line leads", first.senseless(0), -1);
        GrownPost none = new GrownPost();
        Due.post(none, "letter from 1 temper 2 ab");
        due.is("without a law", none.senseless(0), 1);
    }

    private static void meets() {
        GrownPost x = Due.world("letter from 1 temper 2 a;letter from 1 temper 2 ab;letter from 1 temper 2 l;letter from 1 temper 2 b;letter from 1 temper 2 abcc;open 4",
                "a to b;b to c;c to c;l to l");
        due.is("in two weeks both c", x.meet(0, 1, false), 2);
        due.is("alike when both are full", x.meet(0, 1, true), 23);
        due.is("never alike", x.meet(0, 3, true), -1);
        due.is("never", x.meet(0, 2, false), -1);
        due.is("now", x.meet(1, 3, false), 0);
        due.is("now, the other way round", x.meet(3, 1, false), 0);
        due.is("alike in three weeks with the open one", x.meet(0, 4, true), 3);
        due.is("alike in two weeks with the open one", x.meet(1, 4, true), 2);
        due.noLetter("other 5 goes first", () -> x.meet(5, 5, true));
        due.noLetter("other 5", () -> x.meet(0, 5, false));
        due.noLetter("letter -1", () -> x.meet(-1, 0, false));
        due.noNumber("both one", () -> x.meet(1, 1, false));
        GrownPost late = Due.world("letter from 1 temper 2 a;letter from 1 temper 2 b", "a to b if week > 38");
        due.is("40 is the last", late.meet(0, 1, false), 40);
        late = Due.world("letter from 1 temper 2 a;letter from 1 temper 2 b", "a to b if week > 39");
        due.is("41 is too late", late.meet(0, 1, false), -1);
    }

    private static void parts() {
        GrownPost x = Due.world("letter from 1 temper 2 abc;letter from 1 temper 2 abd;letter from 1 temper 2 ab;letter from 9 temper 9 abc;hot 3", "");
        due.is("2", x.part(0, 1), 2);
        due.is("one lacks it", x.part(0, 2), 2);
        due.is("the other lacks it", x.part(2, 1), 2);
        due.is("alike", x.part(0, 3), -1);
        due.noNumber("both one", () -> x.part(1, 1));
        due.noLetter("part 4", () -> x.part(4, 4));
        due.noLetter("part -1", () -> x.part(0, -1));
    }

    private static void drawers() {
        due.is("no letters", new GrownPost().drawer(), -1);
        GrownPost x = Due.world("letter from 1 temper 2 a;letter from 1 temper 2 d;letter from 1 temper 2 b;letter from 1 temper 2 e;letter from 1 temper 2 c",
                "a to b;b to c;c to c;d to e;e to e");
        due.is("d and e, b and c in a week: the least first one", x.drawer(), 13);
        x.open(1, true);
        due.is("sealed ones", x.drawer(), 24);
        x.open(4, true);
        due.is("a and b in two weeks", x.drawer(), 2);
        x.open(0, true);
        due.is("e meets none", x.drawer(), -1);
        x.open(1, false);
        x.open(4, false);
        x.copy(4);
        x.copy(3);
        due.is("e and e now, c and c now", x.drawer(), 36);
        GrownPost late = Due.world("letter from 1 temper 2 a;letter from 1 temper 2 b", "a to b if week > 38");
        due.is("40 is the last", late.drawer(), 1);
        late = Due.world("letter from 1 temper 2 a;letter from 1 temper 2 b", "a to b if week > 39");
        due.is("41 is too late", late.drawer(), -1);
    }

    private static void bounds() {
        GrownPost x = Due.world("letter from 1 temper 2 a;letter from 1 temper 2 ca;letter from 1 temper 2 aa;open 2;promise a c;promise c a;promise a a;promise c c",
                "a to b;b to c;c to c");
        due.is("0", x.bound(0, 0), 0);
        due.is("1", x.bound(0, 1), 0);
        due.is("2", x.bound(0, 2), 1);
        due.is("3", x.bound(0, 3), 9);
        due.is("ca", x.bound(1, 0), 2);
        due.is("cabc", x.bound(1, 2), 11);
        due.is("by the same line never", x.bound(2, 0), 4);
        due.is("open", x.bound(2, 40), 4);
        due.noNumber("n 41", () -> x.bound(0, 41));
        due.noNumber("n -1", () -> x.bound(0, -1));
        due.noLetter("letter 3", () -> x.bound(3, 41));
        due.is("when", x.when(0, 0), 2);
        due.is("when", x.when(0, 1), -1);
        due.is("when", x.when(0, 3), 3);
        due.is("when", x.when(1, 1), 0);
        due.is("when", x.when(2, 2), 0);
        due.noLetter("promise 4", () -> x.when(0, 4));
        due.noLetter("promise -1", () -> x.when(0, -1));
        due.noLetter("letter 3", () -> x.when(3, 0));
        GrownPost late = Due.world("letter from 1 temper 2 a;promise a b", "a to b if week > 38");
        due.is("40 is the last", late.when(0, 0), 40);
        late = Due.world("letter from 1 temper 2 a;promise a b", "a to b if week > 39");
        due.is("41 is too late", late.when(0, 0), -1);
        due.is("soonest, none", late.soonest(0), -1);
    }

    private static void soonest() {
        GrownPost x = Due.world("letter from 1 temper 2 a;letter from 1 temper 2 ab;letter from 1 temper 2 ab;letter from 1 temper 2 aac;open 3;promise a c;promise l l;promise a b",
                "a to b;b to c;c to c");
        due.is("open ones too", x.soonest(0), 3);
        due.is("none", x.soonest(1), -1);
        due.is("of several the least", x.soonest(2), 1);
        GrownPost late = Due.world("letter from 1 temper 2 a;letter from 1 temper 2 a;promise a b", "a to b if week > 38");
        due.is("40 is the last, the first letter", late.soonest(0), 0);
        due.noLetter("promise 3", () -> x.soonest(3));
        due.noLetter("promise -1", () -> x.soonest(-1));
    }

    private static void weights() {
        GrownPost x = Due.world("words a 1;words b 9;words c 1;letter from 1 temper 2 ab;letter from 1 temper 2 dac;letter from 1 temper 2 ddda;letter from 1 temper 2 b",
                "");
        due.is("10", x.spies(10), 5);
        due.is("5", x.spies(5), 2);
        due.is("9", x.spies(9), 8);
        due.is("0", x.spies(0), 0);
        due.is("-1", x.spies(-1), 0);
        due.is("guess b", x.guess(0), 2);
        due.is("guess c", x.guess(1), 5);
        x.cut(1, 1);
        x.prune(1, 1);
        due.is("guess d", x.guess(1), 4095 - 7);
        due.noLetter("guess 4", () -> x.guess(4));
        due.noLetter("guess -1", () -> x.guess(-1));
    }

    private static void postage() {
        GrownPost x = Due.world("words a 1;words b 9;words c 1;letter from 1 temper 2 a;promise a b;promise b a;promise b c",
                "a to b;b to c;c to c");
        due.is("1 word", x.postage(0, 0, false), 1);
        due.is("10 words, one promise", x.postage(0, 1, false), 3);
        due.is("11 words, two promises", x.postage(0, 2, false), 6);
        due.is("sooner", x.postage(0, 1, true), 2);
        due.is("sooner", x.postage(0, 2, true), 3);
        due.is("sooner", x.postage(0, 3, true), 0);
        due.is("20 words", x.postage(0, 11, false), 6);
        due.is("21 words", x.postage(0, 12, false), 7);
        due.is("sooner", x.postage(0, 12, true), 1);
        due.noNumber("sooner 0", () -> x.postage(0, 0, true));
        due.noNumber("sooner 41", () -> x.postage(0, 41, true));
        due.noNumber("41", () -> x.postage(0, 41, false));
        due.noNumber("-1", () -> x.postage(0, -1, false));
        due.noLetter("letter 1", () -> x.postage(1, 41, false));
    }

    private static void forks() {
        GrownPost x = Due.world("letter from 1 temper 2 a;letter from 1 temper 2 l;letter from 1 temper 2 a;hot 2;letter from 1 temper 2 a;open 3;letter from 1 temper 2 k",
                "a to b;b to c;c to c;k to a if week > 1");
        due.is("any", x.forks(0, 1), 4095);
        due.is("a is none any more", x.forks(0, 2), 4095 - 1);
        due.is("k became a in week 2", x.forks(0, 3), 4095 - 2 - 1024);
        due.is("and b", x.forks(0, 4), 4095 - 1 - 1024);
        due.is("none comes", x.forks(1, 40), 2048);
        due.is("hot: the first of two", x.forks(2, 1), 4095 - 1);
        due.is("open", x.forks(3, 3), 1);
        due.is("not yet", x.forks(4, 2), 1024);
        due.is("now", x.forks(4, 3), 4095);
        due.noNumber("0", () -> x.forks(0, 0));
        due.noNumber("41", () -> x.forks(0, 41));
        due.noLetter("letter 5", () -> x.forks(5, 0));
        GrownPost full = Due.world("letter from 1 temper 2 aaaaaaaaaaaaaaaaaaaaaaaa;letter from 1 temper 2 aaaaaaaaaaaaaaaaaaaaaaa", "a to b;b to c");
        due.is("no room", full.forks(0, 9), 1);
        due.is("room for one", full.forks(1, 9), 4095);
    }

    private static void ripe() {
        GrownPost x = Due.world("letter from 1 temper 2 a;letter from 1 temper 2 l;promise a c;promise c c;promise l l", "a to b;b to c;c to c");
        due.is("ripe", x.ripe(0, false), 3);
        due.is("how many", x.ripe(0, true), 2);
        due.is("never", x.ripe(1, false), 0);
        due.is("none", x.ripe(1, true), 0);
        due.noLetter("ripe 2", () -> x.ripe(2, false));
        GrownPost late = Due.world("letter from 1 temper 2 a;promise a b", "a to b if week > 38");
        due.is("40 is the last", late.ripe(0, false), 40);
        due.is("40 is the last", late.ripe(0, true), 1);
        GrownPost none = Due.world("letter from 1 temper 2 a", "a to a");
        due.is("without promises", none.ripe(0, false), 0);
        due.is("without promises", none.ripe(0, true), 0);
    }

    private static void standing() {
        GrownPost x = Due.world("letter from 1 temper 2 abcabca;letter from 1 temper 2 aaaa;letter from 1 temper 2 l;letter from 1 temper 2 bcabb;letter from 1 temper 2 ab", "");
        due.is("has", x.has(0), 7);
        due.is("has", x.has(2), 2048);
        due.is("echo overlaps", x.echo(0), 4);
        due.is("echo overlaps", x.echo(1), 3);
        due.is("no echo", x.echo(2), 0);
        due.is("echo b", x.echo(3), 1);
        due.is("no echo", x.echo(4), 0);
        due.is("common", x.common(0, 3), 4);
        due.is("common", x.common(3, 0), 4);
        due.is("common a", x.common(0, 1), 1);
        due.is("common none", x.common(1, 2), 0);
        due.is("common all", x.common(4, 0), 2);
        due.noLetter("has 5", () -> x.has(5));
        due.noLetter("echo -1", () -> x.echo(-1));
        due.noLetter("common 5", () -> x.common(5, 5));
        due.noNumber("both one", () -> x.common(0, 0));
    }

    private static void authors() {
        GrownPost x = Due.world("letter from 7 temper 0 abcd;letter from 0 temper 9 l",
                "a to b if temper > 3;b to c if temper < 6 and sender > 4;c to d if sender < 6");
        due.is("temper", x.author(0, false), 4);
        due.is("sender", x.author(0, true), 5);
        due.is("of several the least", x.author(1, false), 0);
        due.is("of several the least", x.author(1, true), 0);
        GrownPost none = Due.world("letter from 7 temper 3 ab", "a to b if temper > 9 or sender > 9");
        due.is("no temper is 10", none.author(0, false), 0);
        due.is("no sender is 10", none.author(0, true), 0);
        due.is("nothing changes", x.letter(0, 2), 7);
        due.is("nothing changes", x.letter(0, 1), 0);
        due.noLetter("author 2", () -> x.author(2, false));
        due.noLetter("author -1", () -> x.author(-1, true));
    }

    private static void shelves() {
        GrownPost none = new GrownPost();
        due.is("without letters", none.shelves(1, 0, false), 0);
        due.is("without letters", none.shelves(99, 40, true), 0);
        GrownPost x = Due.world("letter from 1 temper 2 aaa;letter from 1 temper 2 bbbbb;letter from 1 temper 2 a;open 2", "a to a");
        due.is("9 in all", x.shelves(9, 0, false), 1);
        due.is("8", x.shelves(8, 0, false), 2);
        due.is("6", x.shelves(6, 0, false), 2);
        due.is("5", x.shelves(5, 0, false), 2);
        due.is("one is too long", x.shelves(4, 0, false), -1);
        due.is("most on 4", x.shelves(4, 0, true), 2);
        due.is("most on 3", x.shelves(3, 0, true), 1);
        due.is("most on 8", x.shelves(8, 0, true), 2);
        due.is("most on 9", x.shelves(9, 0, true), 3);
        due.is("two weeks ahead", x.shelves(6, 2, false), 2);
        due.is("three weeks ahead", x.shelves(6, 3, false), 2);
        due.is("four weeks ahead", x.shelves(6, 4, false), -1);
        due.is("two weeks ahead", x.shelves(10, 2, true), 2);
        due.is("two weeks ahead", x.shelves(11, 2, true), 3);
        due.noNumber("0", () -> x.shelves(0, 0, false));
        due.noNumber("100", () -> x.shelves(100, 0, false));
        due.noNumber("-1 weeks", () -> x.shelves(1, -1, true));
        due.noNumber("41 weeks", () -> x.shelves(1, 41, true));
        GrownPost long1 = Due.world("letter from 1 temper 2 aa", "");
        due.is("none fits", long1.shelves(1, 0, true), 0);
    }

    private static void manyShelves() {
        int[] lengths = {6, 5, 5, 4, 4, 3, 3, 2};
        GrownPost x = new GrownPost();
        for (int length : lengths) {
            Due.write(x, "aaaaaaaaaaaa".substring(0, length), 0, 0);
        }
        due.is("6+2, 5+3, 5+3, 4+4", x.shelves(8, 0, false), 4);
        due.is("7: 6, 5+2, 5, 4+3, 4+3", x.shelves(7, 0, false), 5);
        due.is("most on 8", x.shelves(8, 0, true), 3);
        due.is("most on 12", x.shelves(12, 0, true), 4);
        due.is("all", x.shelves(32, 0, true), 8);
        GrownPost y = new GrownPost();
        for (int length : new int[] {4, 4, 4, 6, 6, 6, 8, 10}) {
            Due.write(y, "aaaaaaaaaaaa".substring(0, length), 0, 0);
        }
        due.is("48 on 12s: 10, 8+4, 6+6, 6+4, 4", y.shelves(12, 0, false), 5);
        due.is("48 on 14s", y.shelves(14, 0, false), 4);
        due.is("48 on 24s", y.shelves(24, 0, false), 2);
    }

    private static void tempers() {
        GrownPost x = Due.world("letter from 1 temper 2 a;letter from 1 temper 2 a;open 1", "a to b if temper < 3;a to c if temper < 6;a to d;b to e");
        due.is("b", x.tempers(0, 1, 1), 3);
        due.is("c", x.tempers(0, 1, 2), 3);
        due.is("d", x.tempers(0, 1, 3), 4);
        due.is("e", x.tempers(0, 2, 4), 3);
        due.is("l", x.tempers(0, 1, 11), 0);
        due.is("a", x.tempers(0, 0, 0), 10);
        due.is("likely", x.tempers(0, 1, -1), 3);
        due.is("likely now", x.tempers(0, 0, -1), 0);
        due.is("open", x.tempers(1, 9, 0), 10);
        due.is("its own temper stays", x.letter(0, 1), 2);
        due.noLetter("kind 12", () -> x.tempers(0, 1, 12));
        due.noLetter("kind -2", () -> x.tempers(0, 41, -2));
        due.noLetter("letter 2", () -> x.tempers(2, 1, 0));
        due.noNumber("n 41", () -> x.tempers(0, 41, -1));
        due.noNumber("n -1", () -> x.tempers(0, -1, 0));
        GrownPost y = Due.world("letter from 1 temper 2 a", "a to c if temper < 5;a to b");
        due.is("of several the least", y.tempers(0, 1, -1), 1);
    }

    private static void trials() {
        GrownPost x = Due.world("slip 100;letter from 1 temper 2 a;letter from 1 temper 2 a;letter from 1 temper 2 a;open 2", "a to a");
        due.is("k by draws", x.trial(1, 0), 10);
        due.is("h by draws", x.trial(1, 1), 7);
        due.is("open", x.trial(1, 2), 0);
        due.is("all", x.trial(1, -1), 5);
        due.is("now", x.trial(0, -1), 3);
        due.is("now", x.trial(0, 1), 0);
        due.is("nothing stays", x.count(6), 3);
        due.is("nothing stays", x.count(4) + x.count(9) + x.count(10), 0);
        due.is("nothing stays", x.seed(5), 1);
        int first = 1103515245 * 5 + 12345;
        int second = 1103515245 * first + 12345;
        due.is("by the seed as it is", x.trial(1, 0), (second >>> 16 & 32767) % 12);
        due.noLetter("letter 3", () -> x.trial(41, 3));
        due.noLetter("letter -2", () -> x.trial(0, -2));
        due.noNumber("n 41", () -> x.trial(41, 0));
        due.noNumber("n -1", () -> x.trial(-1, -1));
    }

    /** With SLIP 100 come, from SEED 0 on: ab, kh, fc, di, kd, jf, da, cg. */
    private static void spans() {
        GrownPost x = Due.world("slip 100;letter from 1 temper 2 a", "a to a;k to k;h to h");
        x.seed(7);
        due.is("kh from 1 alone", x.span(3, true), 4);
        due.is("f from 2, and others", x.span(3, false), 2);
        Due.law(x, "a to a;d to d");
        due.is("da from 6 alone", x.span(3, true), 4);
        Due.law(x, "a to a;c to c");
        due.is("neither a from 0 nor c from 7", x.span(2, true), 2);
        Due.law(x, "a to a;k to a;d to a;f to a");
        due.is("j from 5 stops", x.span(2, false), 2);
        due.is("others do not", x.span(2, true), 3);
        due.is("now", x.span(0, false), 1);
        due.is("now", x.span(0, true), 1);
        due.is("seed stays", x.seed(1), 7);
        due.is("week stays", x.count(4), 0);
        due.is("LINES stay", x.count(6), 1);
        due.noNumber("41", () -> x.span(41, false));
        due.noNumber("-1", () -> x.span(-1, true));
        due.is("without letters", new GrownPost().span(40, true), 0);
        due.is("without letters", new GrownPost().span(40, false), 0);
    }
}
