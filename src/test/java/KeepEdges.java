/** Boundary cases of promises 50 to 54: SEED, acts undone, THE IMAGE, counts. */
final class KeepEdges extends Edges {
    KeepEdges(Due due, int[] told) {
        super(due, told);
    }

    @Override
    void tell() {
        seeds();
        undos();
        remembered();
        forgotten();
        undoneActs();
        images();
        backs();
        counts();
        countsFull();
    }

    private void seeds() {
        edge(50, "what it was: 1 at first, then any int", () -> {
            GrownPost x = new GrownPost();
            int before = 1;
            for (int seed : new int[] {0, -1, MIN, MAX, 1}) {
                is("seed " + seed, x.seed(seed), before);
                before = seed;
            }
        });
        edge(50, "no ACT", () -> {
            GrownPost x = letters("a");
            x.seed(9);
            is("ACTS", x.count(10), 0);
            is("undo", x.undo(), false);
            is("SEED", x.seed(1), 9);
        });
    }

    private void undos() {
        edge(51, "empty: without an ACT, false, and nothing happens", () -> {
            GrownPost x = letters("a", "b");
            String before = all(x);
            is("undo", x.undo(), false);
            due.alike("all", all(x), before);
        });
        edge(51, "one ACT: true, then false", () -> {
            GrownPost x = letters("a");
            x.open(0, true);
            is("undo", x.undo(), true);
            is("undo", x.undo(), false);
            is("OPEN", x.letter(0, 3), 0);
        });
        edge(51, "the latest ACT not undone yet", () -> {
            GrownPost x = letters("abcd");
            x.prune(0, 1);
            x.cut(0, 0);
            x.undo();
            due.lines("cut undone", x, 0, "abc");
            x.heat(0, true);
            x.undo();
            is("HOT", x.letter(0, 4), 0);
            due.lines("heat undone", x, 0, "abc");
            x.undo();
            due.lines("prune undone", x, 0, "abcd");
            is("undo", x.undo(), false);
        });
        edge(51, "but for the TAPE, fault(), THE IMAGE", () -> {
            GrownPost x = letters("a");
            x.heat(0, true);
            x.image();
            due.wrongPost(x, "slip z", 5);
            Due.putKinds(x, "bc");
            is("undo", x.undo(), true);
            is("fault", x.fault(), 5);
            is("write", x.write(0, 0), 1);
            due.lines("of the TAPE", x, 1, "bc");
            is("back", x.back(), true);
            is("HOT by THE IMAGE", x.letter(0, 4), 1);
        });
        edge(51, "the TAPE used up by an undone write stays so", () -> {
            GrownPost x = new GrownPost();
            Due.write(x, "ab", 0, 0);
            x.undo();
            is("LETTERS", x.count(0), 0);
            is("end 1", x.end(1), false);
        });
    }

    private void remembered() {
        edge(51, "full: 12 are remembered, a 13th ACT makes the first be forgotten", () -> {
            GrownPost x = letters(FULL);
            for (int i = 0; i < 12; i++) {
                x.prune(0, 1);
            }
            is("ACTS", x.count(10), 12);
            x.prune(0, 1);
            is("ACTS", x.count(10), 12);
            for (int i = 1; i <= 12; i++) {
                is("undo " + i, x.undo(), true);
                is("LINES", x.letter(0, 0), 11 + i);
                is("ACTS", x.count(10), 12 - i);
            }
            is("the first", x.undo(), false);
            is("LINES", x.letter(0, 0), 23);
        });
        edge(51, "wrap-around: more ACTS behind some undone", () -> {
            GrownPost x = letters(FULL);
            for (int i = 0; i < 9; i++) {
                x.prune(0, 1);
            }
            for (int i = 0; i < 4; i++) {
                x.undo();
            }
            for (int i = 0; i < 9; i++) {
                x.prune(0, 1);
            }
            is("LINES", x.letter(0, 0), 10);
            is("ACTS", x.count(10), 12);
            for (int i = 1; i <= 12; i++) {
                is("undo " + i, x.undo(), true);
                is("LINES", x.letter(0, 0), 10 + i);
            }
            is("undo 13", x.undo(), false);
        });
        edge(51, "each also if it changes nothing", () -> {
            GrownPost x = letters("a");
            x.open(0, false);
            x.heat(0, false);
            x.open(0, true);
            x.open(0, true);
            is("ACTS", x.count(10), 4);
            x.undo();
            is("OPEN", x.letter(0, 3), 1);
            x.undo();
            is("SEALED", x.letter(0, 3), 0);
            is("undo", x.undo(), true);
            is("undo", x.undo(), true);
            is("undo", x.undo(), false);
        });
        edge(51, "WEEKS in which nothing came are one too", () -> {
            GrownPost x = new GrownPost();
            x.weeks(60);
            is("ACTS", x.count(10), 1);
            is("undo", x.undo(), true);
            is("WEEK", x.count(4), 0);
        });
        edge(51, "WEEKS of one call are one: 60 of them", () -> {
            GrownPost x = Due.world("slip 50;" + lettersText("a", "b"), "a to b;b to a");
            String before = all(x);
            x.weeks(60);
            is("ACTS", x.count(10), 1);
            is("undo", x.undo(), true);
            due.alike("all", all(x), before);
        });
        edge(51, "WEEK 9999 stays: an ACT too", () -> {
            GrownPost x = lastWeek("", "a");
            x.weeks(1);
            is("ACTS", x.count(10), 1);
            is("undo", x.undo(), true);
            is("WEEK", x.count(4), 9999);
        });
    }

    private void forgotten() {
        edge(51, "A text: none are remembered", () -> {
            GrownPost x = letters("ab");
            x.prune(0, 1);
            Due.post(x, "slip 1");
            is("ACTS", x.count(10), 0);
            is("undo", x.undo(), false);
            is("LINES", x.letter(0, 0), 1);
        });
        edge(51, "A text of THE LAW: none are remembered", () -> {
            GrownPost x = letters("ab");
            x.prune(0, 1);
            Due.law(x, "a to b");
            is("ACTS", x.count(10), 0);
            is("undo", x.undo(), false);
        });
        edge(51, "A text, an empty one: none are remembered", () -> {
            GrownPost x = letters("abc");
            x.prune(0, 1);
            Due.post(x, "");
            is("undo", x.undo(), false);
            x.prune(0, 1);
            Due.law(x, "");
            is("undo", x.undo(), false);
        });
        edge(51, "refused: a wrong text changes nothing, they are remembered", () -> {
            GrownPost x = letters("abc");
            x.prune(0, 1);
            due.wrongPost(x, "slip", 4);
            is("ACTS", x.count(10), 1);
            due.wrongLaw(x, "a", 1);
            is("ACTS", x.count(10), 1);
            is("undo", x.undo(), true);
            is("LINES", x.letter(0, 0), 3);
        });
        edge(51, "going back: none are remembered", () -> {
            GrownPost x = letters("abc");
            x.prune(0, 1);
            x.image();
            x.prune(0, 1);
            is("back", x.back(), true);
            is("ACTS", x.count(10), 0);
            is("undo", x.undo(), false);
            is("LINES", x.letter(0, 0), 2);
        });
        edge(51, "refused: going back to none, they are remembered", () -> {
            GrownPost x = letters("abc");
            x.prune(0, 1);
            is("back", x.back(), false);
            is("ACTS", x.count(10), 1);
            is("undo", x.undo(), true);
        });
    }

    private void undoneActs() {
        edge(51, "all is as ahead of it: each ACT", () -> {
            for (int act = 0; act < 9; act++) {
                GrownPost x = lived();
                String before = all(x);
                act(x, act);
                is("undo of " + act, x.undo(), true);
                due.alike("all, " + act + " undone", all(x), before);
            }
        });
        edge(51, "all is as ahead of it: SEED, though it was changed behind", () -> {
            GrownPost x = Due.world("slip 100;" + lettersText("a"), "a to a");
            x.seed(5);
            x.weeks(1);
            x.seed(9);
            x.undo();
            is("SEED", x.seed(1), 5);
        });
        edge(51, "all is as ahead of it: WEEK and LINES that came, of 24 LINES", () -> {
            GrownPost x = lawful("a to a", "a");
            x.weeks(3);
            x.weeks(60);
            is("came", x.count(9), 23);
            x.undo();
            is("came", x.count(9), 3);
            is("WEEK", x.count(4), 3);
            due.lines("LINES", x, 0, "aaaa");
            is("LED", x.line(0, 3, true), 2);
        });
        edge(51, "all is as ahead of it: the first of eight burnt", () -> {
            GrownPost x = crowded();
            String before = all(x);
            for (int i = 0; i < 8; i++) {
                x.burn(0);
            }
            is("LETTERS", x.count(0), 0);
            for (int i = 0; i < 8; i++) {
                x.undo();
            }
            due.alike("all", all(x), before);
        });
        edge(51, "an undone one's LETTER is none", () -> {
            GrownPost x = letters("a");
            x.copy(0);
            x.undo();
            noIndex("letter", 1, i -> x.letter(i, 0));
            is("copy", x.copy(0), 1);
        });
    }

    private static void act(GrownPost x, int act) {
        switch (act) {
            case 0 -> Due.write(x, "abc", 0, 0);
            case 1 -> x.open(0, true);
            case 2 -> x.open(1, false);
            case 3 -> x.copy(1);
            case 4 -> x.prune(1, 2);
            case 5 -> x.cut(1, 0);
            case 6 -> x.heat(1, false);
            case 7 -> x.burn(0);
            default -> x.weeks(7);
        }
    }

    private void images() {
        edge(52, "empty: of a new object", () -> {
            GrownPost x = new GrownPost();
            x.image();
            Due.post(x, "slip 7;week 9;words a 9;promise a b;" + lettersText("a"));
            Due.law(x, "a to b");
            x.weeks(1);
            x.seed(3);
            is("back", x.back(), true);
            due.alike("all", all(x), all(new GrownPost()));
        });
        edge(52, "full: eight LETTERS, PROMISES, twelve LINES of THE LAW", () -> {
            GrownPost x = Due.world("promise k l;".repeat(8) + lettersText("abc", "b", "c", "d", "e"), "a to b;".repeat(11) + "b to c");
            Due.post(x, lettersText("f", "g", FULL.substring(12)));
            String before = all(x);
            x.image();
            x.weeks(9);
            Due.law(x, "a to c");
            x.burn(3);
            x.back();
            due.alike("all", all(x), before);
            is("by THE LAW", x.ahead(1, 1, 0), 2);
        });
        edge(52, "one: the latest alone", () -> {
            GrownPost x = letters("abc");
            x.image();
            x.prune(0, 1);
            x.image();
            x.prune(0, 1);
            x.back();
            due.lines("LINES", x, 0, "ab");
            x.back();
            due.lines("LINES", x, 0, "ab");
        });
        edge(52, "no ACT, and nothing changes", () -> {
            GrownPost x = letters("abc");
            x.prune(0, 1);
            String before = all(x);
            x.image();
            due.alike("all", all(x), before);
            is("undo", x.undo(), true);
            due.lines("LINES", x, 0, "abc");
        });
        edge(52, "what comes behind does not touch it", () -> {
            GrownPost x = lived();
            String before = all(x);
            x.image();
            for (int act = 0; act < 9; act++) {
                act(x, act);
            }
            Due.post(x, "slip 1;words a 9;promise c c;hot 0;open 0");
            Due.law(x, "c to d");
            x.seed(77);
            x.back();
            due.alike("all", all(x).replaceFirst("\\d+ ;", ""), before.replaceFirst("\\d+ ;", ""));
        });
    }

    private void backs() {
        edge(53, "empty: none was kept, false, and nothing happens", () -> {
            GrownPost x = letters("abc");
            x.prune(0, 1);
            String before = all(x);
            is("back", x.back(), false);
            due.alike("all", all(x), before);
        });
        edge(53, "again, and again: THE IMAGE itself stays", () -> {
            GrownPost x = letters("abc");
            x.image();
            for (int i = 0; i < 3; i++) {
                x.prune(0, 2);
                Due.law(x, "c to d");
                is("back", x.back(), true);
                due.lines("LINES", x, 0, "abc");
                is("THE LAW", x.count(3), NONE);
            }
        });
        edge(53, "but for the TAPE and fault()", () -> {
            GrownPost x = letters("a");
            due.wrongPost(x, "slip z", 5);
            x.image();
            due.wrongPost(x, "z", 0);
            Due.putKinds(x, "kl");
            is("back", x.back(), true);
            is("fault", x.fault(), 0);
            is("end 3", x.end(3), false);
            is("write", x.write(0, 0), 1);
            due.lines("of the TAPE", x, 1, "kl");
        });
        edge(53, "all: texts, LINES that came, WEEK from 9999, SEED", () -> {
            GrownPost x = lawful("a to a", "a");
            x.weeks(2);
            x.image();
            x.seed(5);
            Due.post(x, "week 999");
            for (int i = 0; i < 150; i++) {
                x.weeks(60);
            }
            is("WEEK", x.count(4), 9999);
            is("back", x.back(), true);
            is("WEEK", x.count(4), 2);
            is("came", x.count(9), 2);
            is("texts", x.count(2), 1);
            is("SEED", x.seed(1), (int) seedAfter(1, 2));
        });
        edge(53, "back to THE IMAGE behind undone ACTS", () -> {
            GrownPost x = letters("abc");
            x.prune(0, 1);
            x.image();
            x.undo();
            due.lines("undone", x, 0, "abc");
            is("back", x.back(), true);
            due.lines("THE IMAGE", x, 0, "ab");
        });
    }

    private void counts() {
        edge(54, "NONE for another what: too small, too large", () -> {
            GrownPost x = lived();
            for (int what : new int[] {-1, 11, 12, MIN, MAX}) {
                is("count " + what, x.count(what), NONE);
            }
        });
        edge(54, "empty: all of a new object", () -> {
            int[] want = {0, 0, 0, NONE, 0, 0, 0, 0, 0, 0, 0};
            for (int what = 0; what < want.length; what++) {
                is("count " + what, new GrownPost().count(what), want[what]);
            }
        });
        edge(54, "LINES of THE LAW: NONE without one, 0 of an empty one, 12", () -> {
            GrownPost x = new GrownPost();
            is("without", x.count(3), NONE);
            Due.law(x, "");
            is("empty", x.count(3), 0);
            Due.law(x, "a to b;".repeat(11) + "a to b");
            is("most", x.count(3), 12);
        });
        edge(54, "OPEN ones, HOT ones, as bits: the eighth alone", () -> {
            GrownPost x = letters("a", "a", "a", "a", "a", "a", "a", "a");
            x.open(7, true);
            x.heat(7, true);
            is("OPEN", x.count(7), 128);
            is("HOT", x.count(8), 128);
            x.burn(7);
            is("OPEN", x.count(7), 0);
            is("HOT", x.count(8), 0);
        });
    }

    private void countsFull() {
        edge(54, "full: 8 LETTERS, 8 PROMISES, 12 texts, SLIP 100, 192 LINES, all OPEN, all HOT, 12 ACTS", () -> {
            GrownPost x = letters(FULL, FULL, FULL, FULL, FULL, FULL, FULL, FULL);
            Due.post(x, "promise a b;".repeat(8) + "slip 100");
            Due.post(x, "open 0;open 1;open 2;open 3;open 4;open 5;open 6;open 7");
            Due.post(x, "hot 0;hot 1;hot 2;hot 3;hot 4;hot 5;hot 6;hot 7");
            for (int i = 5; i <= 12; i++) {
                Due.post(x, "");
            }
            for (int i = 0; i < 13; i++) {
                x.open(0, true);
            }
            int[] want = {8, 8, 12, NONE, 0, 100, 192, 255, 255, 0, 12};
            for (int what = 0; what < want.length; what++) {
                is("count " + what, x.count(what), want[what]);
            }
        });
        edge(54, "WEEK: 9999, the most", () -> is("count", lastWeek("", "a").count(4), 9999));
        edge(54, "LINES that came by WEEKS gone in all: none of texts, writes, copies, trials; PRUNED ones too", () -> {
            GrownPost x = lawful("a to a", "a");
            Due.write(x, "aa", 0, 0);
            x.copy(1);
            x.trial(9, NONE);
            is("none", x.count(9), 0);
            x.weeks(2);
            is("three by two", x.count(9), 6);
            x.prune(0, 2);
            x.burn(1);
            is("PRUNED ones too", x.count(9), 6);
            x.weeks(1);
            is("two more", x.count(9), 8);
        });
    }
}
