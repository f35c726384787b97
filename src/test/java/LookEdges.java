/** Boundary cases of promises 27 to 49: how LETTERS came to be, two of them, PROMISES, weights, shelves, trials. */
final class LookEdges extends Edges {
    LookEdges(Due due, int[] told) {
        super(due, told);
    }

    @Override
    void tell() {
        astray();
        written();
        senseless();
        meets();
        meetsOne();
        parts();
        drawers();
        bounds();
        whens();
        soonest();
        spies();
        guesses();
        postage();
        sooner();
        forks();
        ripe();
        has();
        echoes();
        commons();
        authors();
        shelvesArguments();
        shelves();
        tempers();
        likely();
        trials();
        spans();
        latest();
    }

    private void astray() {
        edge(27, "no such LETTER: too small, too large", () -> {
            GrownPost x = letters("a", "b");
            noIndex("astray", 2, x::astray);
        });
        edge(27, "not LINE 0: of one LINE none, whatever THE LAW", () -> {
            is("one LINE", letters("a").astray(0), 0);
            is("all as it FOLLOWS", lawful("a to b;b to c", "abc").astray(0), 0);
        });
        edge(27, "LINE 1 and LINE 23, the last of 24", () -> {
            is("1", lawful("a to b;b to b", "l" + "b".repeat(23)).astray(0), 2);
            is("23", lawful("a to a", FULL.substring(1) + "b").astray(0), 1 << 23);
            is("all, without THE LAW", letters(FULL).astray(0), (1 << 24) - 2);
        });
        edge(27, "not what FOLLOWS, if nothing does", () -> {
            is("none of the KIND", lawful("b to b", "ab").astray(0), 2);
            is("none that holds", lawful("a to b if hot", "ab").astray(0), 2);
        });
        edge(27, "all LINES ahead of it: length 1 and before 12 for LINE 1, length 23 for LINE 23", () -> {
            is("LINE 1", lawful("a to b if length < 2 and before > 11", "ab").astray(0), 0);
            is("LINE 2", lawful("a to a if length < 2;a to b if length > 1 and before < 1", "aab").astray(0), 0);
            is("LINE 23", lawful("a to b if length > 22;a to a", FULL.substring(1) + "b").astray(0), 0);
        });
        edge(27, "in the WEEK in which it came: 0 and 9999", () -> {
            GrownPost x = lawful("a to b if week < 1", "ab");
            x.weeks(1);
            is("WEEK 0", x.astray(0), 0);
            GrownPost y = lastWeek("a to b if week > 999+999+999+999+999+999+999+999+999+999+8", "ab");
            is("WEEK 9999", y.astray(0), 0);
        });
        edge(27, "an OPEN one, and one with 24 LINES, too", () -> {
            GrownPost x = lawful("a to b", "ab", "aa", FULL);
            x.open(0, true);
            x.open(1, true);
            is("as it FOLLOWS", x.astray(0), 0);
            is("not so", x.astray(1), 2);
            is("24 LINES", x.astray(2), (1 << 24) - 2);
        });
        edge(27, "HOT as it is now", () -> {
            GrownPost x = lawful("a to b if hot", "ab");
            is("not HOT", x.astray(0), 2);
            x.heat(0, true);
            is("HOT", x.astray(0), 0);
        });
        edge(27, "refused: nothing changes", () -> refusedIndex(x -> x.astray(2)));
    }

    private void written() {
        edge(28, "no such LETTER: too small, too large", () -> {
            GrownPost x = letters("a", "b");
            noIndex("written", 2, x::written);
        });
        edge(28, "1 without an ASTRAY one", () -> {
            is("one LINE", letters("a").written(0), 1);
            is("all as it FOLLOWS", lawful("a to a", FULL).written(0), 1);
        });
        edge(28, "2 by LINE 1, 24 by LINE 23", () -> {
            is("LINE 1", lawful("b to b", "abb").written(0), 2);
            is("LINE 23", lawful("a to a", FULL.substring(1) + "b").written(0), 24);
            is("all", letters(FULL).written(0), 24);
        });
        edge(28, "the last that is ASTRAY, of several", () -> is("written", lawful("a to b", "aababab").written(0), 6));
        edge(28, "refused: nothing changes", () -> refusedIndex(x -> x.written(2)));
    }

    private void senseless() {
        edge(29, "no such LETTER: too small, too large", () -> {
            GrownPost x = letters("a", "b");
            noIndex("senseless", 2, x::senseless);
        });
        edge(29, "not LINE 0: NONE of one LINE", () -> is("senseless", letters("a").senseless(0), NONE));
        edge(29, "NONE: all are led to, whatever the C", () ->
                is("senseless", lawful("a to b if 1 < 0;b to a if hot", "abab").senseless(0), NONE));
        edge(29, "LINE 1 and LINE 23, the last of 24", () -> {
            is("1", lawful("b to b", "ab" + "b".repeat(22)).senseless(0), 1);
            is("23", lawful("a to a", FULL.substring(1) + "b").senseless(0), 23);
        });
        edge(29, "the first of several", () -> is("senseless", lawful("a to b", "abab").senseless(0), 2));
        edge(29, "without THE LAW none leads", () -> {
            is("never told", letters("ab").senseless(0), 1);
            is("empty", lawful("", "ab").senseless(0), 1);
        });
        edge(29, "the twelfth LINE of THE LAW leads too, not the other way round", () -> {
            is("the twelfth", lawful("l to l;".repeat(11) + "a to b", "ab").senseless(0), NONE);
            is("the other way round", lawful("a to b", "ba").senseless(0), 1);
        });
        edge(29, "refused: nothing changes", () -> refusedIndex(x -> x.senseless(2)));
    }

    private void meets() {
        edge(30, "no such LETTER, one or the other: too small, too large", () -> {
            GrownPost x = letters("a", "b");
            noIndex("meet", 2, i -> x.meet(i, 0, false));
            noIndex("meet, other", 2, i -> x.meet(0, i, false));
            noIndex("one", 2, i -> x.meet(i, 1, true));
            noIndex("one, other", 2, i -> x.meet(1, i, true));
        });
        edge(30, "both are one", () -> {
            GrownPost x = letters("a", "a");
            for (int i = 0; i < 2; i++) {
                int letter = i;
                due.noNumber("meet", () -> x.meet(letter, letter, false));
                due.noNumber("one", () -> x.meet(letter, letter, true));
            }
        });
        edge(30, "of two exceptions: no such LETTER goes first", () -> {
            GrownPost x = letters("a", "a");
            noIndex("meet", 2, i -> x.meet(i, i, true));
        });
        edge(30, "N 0: alike now", () -> is("meet", lawful("a to b;b to c", "ba", "a").meet(0, 1, false), 0));
        edge(30, "N 40, the last; NONE by 41", () -> {
            is("by 40", lawful(LATE, "a", "b").meet(0, 1, false), 40);
            is("by 41", lawful(TOO_LATE, "a", "b").meet(0, 1, false), NONE);
        });
        edge(30, "NONE: never", () -> {
            GrownPost x = letters("a", "b");
            is("without THE LAW", x.meet(0, 1, false), NONE);
            x.open(0, true);
            x.open(1, true);
            is("both OPEN", x.meet(1, 0, false), NONE);
        });
        edge(30, "an OPEN one stays, a HOT one's second LINE of a WEEK counts", () -> {
            GrownPost x = lawful("a to b;b to c", "a", "b", "c");
            x.open(1, true);
            is("with an OPEN one", x.meet(0, 1, false), 1);
            x.heat(0, true);
            is("HOT", x.meet(0, 1, false), NONE);
            is("HOT", x.meet(0, 2, false), 1);
        });
        edge(30, "refused: nothing changes", () -> {
            refusedIndex(x -> x.meet(0, 2, false));
            refusedNumber(x -> x.meet(1, 1, true));
        });
    }

    private void meetsOne() {
        edge(30, "ONE: N 0, all LINES alike now", () -> {
            GrownPost x = lawful("a to b", "ab", "ab", FULL, FULL);
            is("two", x.meet(0, 1, true), 0);
            is("24", x.meet(2, 3, true), 0);
        });
        edge(30, "ONE: N 40, the last; NONE by 41", () -> {
            GrownPost x = lawful(LATE, "a", "ab");
            is("by 40", x.meet(0, 1, true), 40);
            is("by 40, the other way round", x.meet(1, 0, true), 40);
            is("by 41", lawful(TOO_LATE, "a", "ab").meet(0, 1, true), NONE);
        });
        edge(30, "ONE: all LINES, the first of 24 too", () -> {
            GrownPost x = letters("b" + FULL.substring(1), FULL, FULL.substring(1) + "b");
            is("the first", x.meet(0, 1, true), NONE);
            is("the last", x.meet(1, 2, true), NONE);
            is("MEET alone", x.meet(0, 1, false), 0);
        });
        edge(30, "ONE: one has more LINES", () -> is("one", letters("a", "aa").meet(0, 1, true), NONE));
    }

    private void parts() {
        edge(31, "no such LETTER, one or the other: too small, too large", () -> {
            GrownPost x = letters("a", "b");
            noIndex("part", 2, i -> x.part(i, 0));
            noIndex("part, other", 2, i -> x.part(0, i));
        });
        edge(31, "both are one", () -> {
            GrownPost x = letters("a", "b");
            due.noNumber("part", () -> x.part(0, 0));
            due.noNumber("part", () -> x.part(1, 1));
        });
        edge(31, "of two exceptions: no such LETTER goes first", () -> {
            GrownPost x = letters("a", "b");
            noIndex("part", 2, i -> x.part(i, i));
        });
        edge(31, "LINE 0, and LINE 23, the last of 24", () -> {
            GrownPost x = letters("b" + FULL.substring(1), FULL, FULL.substring(1) + "b");
            is("0", x.part(0, 1), 0);
            is("23", x.part(1, 2), 23);
        });
        edge(31, "that one of both lacks: the other's first behind", () -> {
            GrownPost x = letters("a", "ab", FULL, FULL.substring(1));
            is("1", x.part(0, 1), 1);
            is("1, the other way round", x.part(1, 0), 1);
            is("23", x.part(2, 3), 23);
            is("23, the other way round", x.part(3, 2), 23);
        });
        edge(31, "NONE, if they are alike now, whatever else is unlike", () -> {
            GrownPost x = Due.world(lettersText(FULL) + ";week 9;letter from 5 temper 6 " + FULL + ";hot 1;open 0", "");
            is("part", x.part(0, 1), NONE);
            is("of one LINE", letters("a", "a").part(0, 1), NONE);
        });
        edge(31, "NONE, if they are alike, whatever WEEKS their LINES came in", () -> {
            GrownPost x = lawful("a to b;b to c", "abc", "a");
            x.open(0, true);
            x.weeks(2);
            is("part", x.part(0, 1), NONE);
        });
        edge(31, "refused: nothing changes", () -> {
            refusedIndex(x -> x.part(0, 2));
            refusedNumber(x -> x.part(1, 1));
        });
    }

    private void drawers() {
        edge(32, "none: without LETTERS, with one, with one SEALED", () -> {
            is("without", new GrownPost().drawer(), NONE);
            is("one", letters("a").drawer(), NONE);
            GrownPost x = letters("a", "a");
            x.open(1, true);
            is("one SEALED", x.drawer(), NONE);
            x.open(1, false);
            is("two SEALED", x.drawer(), 1);
        });
        edge(32, "the first pair, 1, and the last of eight, 67", () -> {
            is("0 and 1", letters("a", "a", "b", "b").drawer(), 1);
            is("6 and 7", letters("a", "b", "c", "d", "e", "f", "g", "g").drawer(), 67);
        });
        edge(32, "of several the least first one, then the second", () -> {
            is("the first one", letters("c", "a", "b", "b", "a").drawer(), 14);
            is("the second", letters("c", "a", "b", "a", "a").drawer(), 13);
        });
        edge(32, "soonest, by N 0: alike now, and never again", () -> {
            is("now", lawful("a to c if before < 2;a to d", "ba", "a").drawer(), 1);
            is("now, not in a WEEK", lawful("a to b;b to c;c to d if before < 1;c to e", "a", "b", "ac", "bc").drawer(), 23);
        });
        edge(32, "soonest, by N 40, the last; none by 41", () -> {
            is("by 40", lawful(LATE, "a", "b").drawer(), 1);
            is("by 41", lawful(TOO_LATE, "a", "b").drawer(), NONE);
            is("soonest", lawful("a to b;b to c;d to e", "a", "c", "d", "e").drawer(), 23);
        });
        edge(32, "of SEALED ones: an OPEN one would MEET sooner", () -> {
            GrownPost x = lawful("b to a", "a", "a", "b");
            x.open(0, true);
            is("drawer", x.drawer(), 12);
        });
    }

    private void bounds() {
        edge(33, "no such LETTER: too small, too large", () -> {
            GrownPost x = letters("a", "b");
            noIndex("bound", 2, i -> x.bound(i, 0));
        });
        edge(33, "N is none: below 0, above 40", () -> {
            GrownPost x = letters("a");
            noNumber("bound", 0, 40, i -> x.bound(0, i));
        });
        edge(33, "of two exceptions: no such LETTER goes first", () -> {
            GrownPost x = letters("a");
            noIndexFirst("bound", () -> x.bound(1, 41));
        });
        edge(33, "Sets of none: without PROMISES, and BOUND by none", () -> {
            is("without", letters("ab").bound(0, 0), 0);
            is("by none", Due.world("promise b a;" + lettersText("ab"), "").bound(0, 0), 0);
        });
        edge(33, "by the same LINE never", () -> {
            GrownPost x = Due.world("promise a a;" + lettersText("a", "aa", "aba"), "");
            is("one", x.bound(0, 0), 0);
            is("two", x.bound(1, 0), 1);
            is("two, one between", x.bound(2, 0), 1);
        });
        edge(33, "somewhere ahead: LINE 0 of LINE 23, and LINE 22 of it", () -> {
            GrownPost x = Due.world("promise b c;" + lettersText("b" + FULL.substring(2) + "c", FULL.substring(2) + "bc", "cb"), "");
            is("0 and 23", x.bound(0, 0), 1);
            is("22 and 23", x.bound(1, 0), 1);
            is("behind", x.bound(2, 0), 0);
        });
        edge(33, "as bits: the eighth alone, and all eight", () -> {
            GrownPost x = Due.world("promise k l;".repeat(7) + "promise a b;" + lettersText("ab", "abkl"), "");
            is("the eighth", x.bound(0, 0), 128);
            is("all", x.bound(1, 0), 255);
        });
        edge(33, "N 0 and N 40", () -> {
            is("by 0", Due.world("promise a b;" + lettersText("a"), "a to b").bound(0, 0), 0);
            is("by 39", Due.world("promise a b;" + lettersText("a"), LATE).bound(0, 39), 0);
            is("by 40", Due.world("promise a b;" + lettersText("a"), LATE).bound(0, 40), 1);
            is("by 41", Due.world("promise a b;" + lettersText("a"), TOO_LATE).bound(0, 40), 0);
        });
        edge(33, "refused: nothing changes", () -> {
            refusedIndex(x -> x.bound(2, 0));
            refusedNumber(x -> x.bound(0, 41));
        });
    }

    private void whens() {
        edge(34, "no such LETTER: too small, too large", () -> {
            GrownPost x = Due.world("promise a b;" + lettersText("a", "b"), "");
            noIndex("when", 2, i -> x.when(i, 0));
        });
        edge(34, "no such PROMISE: too small, too large, without any", () -> {
            GrownPost x = Due.world("promise a b;promise a b;" + lettersText("a"), "");
            noIndex("when", 2, i -> x.when(0, i));
            GrownPost y = letters("a");
            noIndex("when", 0, i -> y.when(0, i));
        });
        edge(34, "N 0: now", () -> is("when", Due.world("promise a b;" + lettersText("ab"), "").when(0, 0), 0));
        edge(34, "N 40, the last; NONE by 41", () -> {
            is("by 40", Due.world("promise a b;" + lettersText("a"), LATE).when(0, 0), 40);
            is("by 41", Due.world("promise a b;" + lettersText("a"), TOO_LATE).when(0, 0), NONE);
        });
        edge(34, "by the same LINE never: NONE, or by the next", () -> {
            is("NONE", Due.world("promise a a;" + lettersText("a"), "").when(0, 0), NONE);
            is("by the next", Due.world("promise a a;" + lettersText("a"), "a to a").when(0, 0), 1);
        });
        edge(34, "the eighth PROMISE", () -> {
            GrownPost x = Due.world("promise k l;".repeat(7) + "promise a b;" + lettersText("a"), "a to b");
            is("the eighth", x.when(0, 7), 1);
            is("the seventh", x.when(0, 6), NONE);
            noIndex("when", 8, i -> x.when(0, i));
        });
        edge(34, "refused: nothing changes", () -> {
            refusedIndex(x -> x.when(2, 0));
            refusedIndex(x -> x.when(0, 2));
        });
    }

    private void soonest() {
        edge(35, "no such PROMISE: too small, too large, without any", () -> {
            GrownPost x = Due.world("promise a b;promise a b;" + lettersText("a"), "");
            noIndex("soonest", 2, x::soonest);
            GrownPost y = letters("a");
            noIndex("soonest", 0, y::soonest);
        });
        edge(35, "NONE: without LETTERS, and never", () -> {
            is("without", Due.world("promise a b", "").soonest(0), NONE);
            is("never", Due.world("promise a b;" + lettersText("a", "ba"), "").soonest(0), NONE);
        });
        edge(35, "of several the least", () -> {
            GrownPost x = Due.world("promise a b;" + lettersText("b", "a", "a"), "a to b");
            is("soonest", x.soonest(0), 1);
        });
        edge(35, "first: the last of eight", () -> {
            GrownPost x = Due.world("promise a c;" + lettersText("a", "a", "a", "a", "a", "a", "a", "ab"), "a to b;b to c");
            is("soonest", x.soonest(0), 7);
        });
        edge(35, "by N 40, the last; NONE by 41", () -> {
            is("by 40", Due.world("promise a b;" + lettersText("a"), LATE).soonest(0), 0);
            is("by 41", Due.world("promise a b;" + lettersText("a"), TOO_LATE).soonest(0), NONE);
        });
        edge(35, "OPEN ones too", () -> {
            GrownPost x = Due.world("promise a b;" + lettersText("a", "ab") + ";open 1", "a to b");
            is("soonest", x.soonest(0), 1);
        });
        edge(35, "refused: nothing changes", () -> refusedIndex(x -> x.soonest(2)));
    }

    private void spies() {
        edge(36, "Sets of none: numbers that no LETTER has", () -> {
            GrownPost x = letters("a", "ab");
            for (int words : new int[] {MIN, -1, 0, 1, 2, 4, 5, 7, 217, MAX}) {
                is("spies " + words, x.spies(words), 0);
            }
            is("without LETTERS", new GrownPost().spies(0), 0);
        });
        edge(36, "the least, 1, and the most, 216", () -> {
            GrownPost x = Due.world("words a 9;words b 1;" + lettersText("b", FULL), "");
            is("1", x.spies(1), 1);
            is("216", x.spies(216), 2);
        });
        edge(36, "as bits: the eighth alone, and all eight", () -> {
            is("all", crowded().spies(3), 255);
            is("the eighth", letters("a", "a", "a", "a", "a", "a", "a", "aa").spies(6), 128);
        });
        edge(36, "together now: not what comes, OPEN ones too", () -> {
            GrownPost x = lawful("a to b", "a", "aa");
            x.open(1, true);
            is("6", x.spies(6), 2);
        });
    }

    private void guesses() {
        edge(37, "no such LETTER: too small, too large", () -> {
            GrownPost x = letters("a", "b");
            noIndex("guess", 2, x::guess);
        });
        edge(37, "all twelve KINDS", () -> is("guess", letters("a").guess(0), 4095));
        edge(37, "its own alone: a and l", () -> {
            GrownPost x = Due.world("words a 1;words l 9;" + lettersText("a", "l", "al"), "");
            is("a", x.guess(0), 1);
            is("l", x.guess(1), 2048);
            is("by the last LINE", x.guess(2), 2048);
        });
        edge(37, "refused: nothing changes", () -> refusedIndex(x -> x.guess(2)));
    }

    private void postage() {
        edge(38, "no such LETTER: too small, too large", () -> {
            GrownPost x = letters("a", "b");
            noIndex("postage", 2, i -> x.postage(i, 1, false));
            noIndex("sooner", 2, i -> x.postage(i, 1, true));
        });
        edge(38, "N is none: below 0, above 40", () -> {
            GrownPost x = letters("a");
            noNumber("postage", 0, 40, i -> x.postage(0, i, false));
        });
        edge(38, "of two exceptions: no such LETTER goes first", () -> {
            GrownPost x = letters("a");
            noIndexFirst("postage", () -> x.postage(1, 41, false));
            noIndexFirst("sooner", () -> x.postage(-1, 0, true));
        });
        edge(38, "by 10, rounded up: 1, 9, 10, 11, 20, 21, 216", () -> {
            GrownPost x = Due.world("words a 1;words b 9;words c 2;"
                    + lettersText("a", "b", "ab", "bc", "abab", "abbc", "b".repeat(24)), "");
            int[] want = {1, 1, 1, 2, 2, 3, 22};
            for (int i = 0; i < want.length; i++) {
                is("letter " + i, x.postage(i, 0, false), want[i]);
            }
        });
        edge(38, "2 for each PROMISE: none, and all eight", () -> {
            GrownPost x = Due.world("promise a b;".repeat(8) + lettersText("a", "ab"), "");
            is("none", x.postage(0, 0, false), 1);
            is("all", x.postage(1, 0, false), 17);
        });
        edge(38, "N 0 and N 40", () -> {
            is("by 0", Due.world("words b 9;" + lettersText("a"), "a to b").postage(0, 0, false), 1);
            is("by 39", Due.world("words b 9;" + lettersText("a"), LATE).postage(0, 39, false), 1);
            is("by 40", Due.world("words b 9;" + lettersText("a"), LATE).postage(0, 40, false), 2);
            is("by 41", Due.world("words b 9;" + lettersText("a"), TOO_LATE).postage(0, 40, false), 1);
        });
        edge(38, "refused: nothing changes", () -> {
            refusedIndex(x -> x.postage(2, 0, false));
            refusedNumber(x -> x.postage(0, 41, false));
            refusedNumber(x -> x.postage(0, 0, true));
        });
    }

    private void sooner() {
        edge(38, "SOONER, N is none: below 1, above 40", () -> {
            GrownPost x = letters("a");
            noNumber("sooner", 1, 40, i -> x.postage(0, i, true));
        });
        edge(38, "SOONER: N 1, less that of 0", () -> {
            GrownPost x = Due.world("words b 9;promise a b;" + lettersText("a"), "a to b;b to b");
            is("1", x.postage(0, 1, true), 3);
            is("2", x.postage(0, 2, true), 1);
        });
        edge(38, "SOONER: N 40, less that of 39", () -> {
            is("40", Due.world("words b 9;" + lettersText("a"), LATE).postage(0, 40, true), 1);
            is("39", Due.world("words b 9;" + lettersText("a"), LATE).postage(0, 39, true), 0);
        });
        edge(38, "SOONER: 0, if nothing comes", () -> {
            is("OPEN", Due.world(lettersText("a") + ";open 0", "a to a").postage(0, 1, true), 0);
            is("24 LINES", lawful("a to a", FULL).postage(0, 40, true), 0);
        });
    }

    private void forks() {
        edge(39, "no such LETTER: too small, too large", () -> {
            GrownPost x = letters("a", "b");
            noIndex("forks", 2, i -> x.forks(i, 1));
        });
        edge(39, "N is none: below 1, above 40", () -> {
            GrownPost x = letters("a");
            noNumber("forks", 1, 40, i -> x.forks(0, i));
        });
        edge(39, "of two exceptions: no such LETTER goes first", () -> {
            GrownPost x = letters("a");
            noIndexFirst("forks", () -> x.forks(1, 0));
            noIndexFirst("forks", () -> x.forks(-1, 41));
        });
        edge(39, "with none that comes, that of its last LINE alone: OPEN, 24 LINES, nothing FOLLOWS, not by then", () -> {
            GrownPost x = Due.world(lettersText("a", FULL.substring(1) + "l", "k", "b") + ";open 0", "a to b;l to b;b to c if week > 2");
            is("OPEN", x.forks(0, 40), 1);
            is("24 LINES", x.forks(1, 40), 2048);
            is("nothing FOLLOWS", x.forks(2, 40), 1024);
            is("not by 3", x.forks(3, 3), 2);
            is("by 4", x.forks(3, 4), 4095);
        });
        edge(39, "any of the twelve KINDS, its own and that of THE LAW too", () -> {
            is("by 1", lawful("a to b", "a").forks(0, 1), 4095);
            is("by 40, a goes on", lawful("a to b", "a").forks(0, 40), 4095 - 1);
        });
        edge(39, "by the first WEEK in which one does: N 40, the last", () -> {
            is("by 39", lawful(LATE, "a").forks(0, 39), 1);
            is("by 40", lawful(LATE, "a").forks(0, 40), 4095);
            is("by 41", lawful(TOO_LATE, "a").forks(0, 40), 1);
        });
        edge(39, "the LINE that comes next alone: all behind it by THE LAW", () -> {
            String law = "a to b;b to b;c to b;d to b;e to b;f to b;g to b;h to b;i to b;j to b;k to b;l to b";
            is("by 1", lawful(law, "a").forks(0, 1), 4095);
            is("by 2", lawful(law, "a").forks(0, 2), 2);
            is("HOT, by 1", Due.world(lettersText("a") + ";hot 0", law).forks(0, 1), 2);
        });
        edge(39, "with none that comes: nothing of it stays for what is asked behind", () -> {
            GrownPost x = Due.world(lettersText("a", "a") + ";open 0", "a to b");
            is("forks", x.forks(0, 40), 1);
            is("ahead", x.ahead(1, 1, 0), 1);
            is("forks", x.forks(0, 40), 1);
            is("send", x.send(0, 0, 1, 1, false), 0);
        });
        edge(39, "room for one, be it HOT", () -> {
            GrownPost x = Due.world(lettersText(FULL.substring(1), FULL.substring(1)) + ";hot 1", "a to b;b to a");
            is("one", x.forks(0, 40), 4095);
            is("HOT", x.forks(1, 40), 4095);
        });
        edge(39, "refused: nothing changes", () -> {
            refusedIndex(x -> x.forks(2, 1));
            refusedNumber(x -> x.forks(0, 0));
        });
    }

    private void ripe() {
        edge(40, "no such LETTER: too small, too large", () -> {
            GrownPost x = letters("a", "b");
            noIndex("ripe", 2, i -> x.ripe(i, false));
            noIndex("how many", 2, i -> x.ripe(i, true));
        });
        edge(40, "0 and none: without PROMISES, and BOUND by none", () -> {
            GrownPost x = lawful("a to a", "a");
            is("ripe", x.ripe(0, false), 0);
            is("how many", x.ripe(0, true), 0);
            GrownPost y = Due.world("promise b a;" + lettersText("a"), "a to a");
            is("ripe", y.ripe(0, false), 0);
            is("how many", y.ripe(0, true), 0);
        });
        edge(40, "N 0: now, by all eight", () -> {
            GrownPost x = Due.world("promise a b;".repeat(8) + lettersText("ab"), "b to b");
            is("ripe", x.ripe(0, false), 0);
            is("how many", x.ripe(0, true), 8);
        });
        edge(40, "N 40, the last; not by 41", () -> {
            GrownPost x = Due.world("promise a b;" + lettersText("a"), LATE);
            is("ripe", x.ripe(0, false), 40);
            is("how many", x.ripe(0, true), 1);
            GrownPost y = Due.world("promise a b;" + lettersText("a"), TOO_LATE);
            is("ripe", y.ripe(0, false), 0);
            is("how many", y.ripe(0, true), 0);
        });
        edge(40, "the first N by the most, of several", () -> {
            GrownPost x = Due.world("promise a b;promise a c;" + lettersText("a"), "a to b;b to c;c to c");
            is("ripe", x.ripe(0, false), 2);
            is("how many", x.ripe(0, true), 2);
        });
        edge(40, "refused: nothing changes", () -> refusedIndex(x -> x.ripe(2, false)));
    }

    private void has() {
        edge(41, "no such LETTER: too small, too large", () -> {
            GrownPost x = letters("a", "b");
            noIndex("has", 2, x::has);
        });
        edge(41, "one KIND: a is 1, l is 2048, 24 times too", () -> {
            GrownPost x = letters("a", "l", FULL);
            is("a", x.has(0), 1);
            is("l", x.has(1), 2048);
            is("24 a", x.has(2), 1);
        });
        edge(41, "all twelve, the last LINE too, none that was PRUNED off", () -> {
            GrownPost x = letters("abcdefghijkl");
            is("all", x.has(0), 4095);
            x.prune(0, 1);
            is("no l", x.has(0), 2047);
        });
        edge(41, "refused: nothing changes", () -> refusedIndex(x -> x.has(2)));
    }

    private void echoes() {
        edge(42, "no such LETTER: too small, too large", () -> {
            GrownPost x = letters("a", "b");
            noIndex("echo", 2, x::echo);
        });
        edge(42, "0 without: one LINE, and twelve unlike ones", () -> {
            is("one", letters("a").echo(0), 0);
            is("twelve", letters("abcdefghijkl").echo(0), 0);
        });
        edge(42, "they may overlap: 1 of two, 23 of 24", () -> {
            is("two", letters("aa").echo(0), 1);
            is("24", letters(FULL).echo(0), 23);
            is("ababa", letters("ababa").echo(0), 3);
        });
        edge(42, "the first LINE and the last", () -> is("echo", letters("abcda").echo(0), 1));
        edge(42, "ahead of unlike ones, and behind them", () -> is("echo", letters("kabcdlabce").echo(0), 3));
        edge(42, "LINES that came in other WEEKS: 3 of 4", () -> {
            GrownPost x = lawful("a to a", "a");
            x.weeks(3);
            is("echo", x.echo(0), 3);
        });
        edge(42, "twelve and twelve, beside one another", () ->
                is("echo", letters("abcdefghijklabcdefghijkl").echo(0), 12));
        edge(42, "refused: nothing changes", () -> refusedIndex(x -> x.echo(2)));
    }

    private void commons() {
        edge(43, "no such LETTER, one or the other: too small, too large", () -> {
            GrownPost x = letters("a", "b");
            noIndex("common", 2, i -> x.common(i, 0));
            noIndex("common, other", 2, i -> x.common(0, i));
        });
        edge(43, "both are one", () -> {
            GrownPost x = letters("a", "b");
            due.noNumber("common", () -> x.common(0, 0));
            due.noNumber("common", () -> x.common(1, 1));
        });
        edge(43, "of two exceptions: no such LETTER goes first", () -> {
            GrownPost x = letters("a", "b");
            noIndex("common", 2, i -> x.common(i, i));
        });
        edge(43, "0: none in both", () -> is("common", letters("abc", "def").common(0, 1), 0));
        edge(43, "24, the most; all of a shorter one", () -> {
            GrownPost x = letters("abcdefghijklabcdefghijkl", "abcdefghijklabcdefghijkl", "a", "l");
            is("24", x.common(0, 1), 24);
            is("one", x.common(0, 2), 1);
            is("one, the last", x.common(3, 1), 1);
        });
        edge(43, "one's end and the other's begin", () -> {
            GrownPost x = letters("kkabc", "abcll");
            is("common", x.common(0, 1), 3);
            is("the other way round", x.common(1, 0), 3);
        });
        edge(43, "LINES that came in other WEEKS: all of 4", () -> {
            GrownPost x = lawful("a to a", "a", "aaaa");
            x.open(1, true);
            x.weeks(3);
            is("common", x.common(0, 1), 4);
        });
        edge(43, "ahead of unlike ones, and behind them", () -> {
            GrownPost x = letters("kabcdk", "labcl");
            is("common", x.common(0, 1), 3);
            is("the other way round", x.common(1, 0), 3);
        });
        edge(43, "one behind another: not with one between", () -> is("common", letters("abab", "aabb").common(0, 1), 2));
        edge(43, "refused: nothing changes", () -> {
            refusedIndex(x -> x.common(0, 2));
            refusedNumber(x -> x.common(1, 1));
        });
    }

    private void authors() {
        edge(44, "no such LETTER: too small, too large", () -> {
            GrownPost x = letters("a", "b");
            noIndex("author", 2, i -> x.author(i, false));
            noIndex("author, SENDER", 2, i -> x.author(i, true));
        });
        edge(44, "of several the least: 0, if all are alike", () -> {
            GrownPost x = Due.world("letter from 7 temper 8 ab;letter from 7 temper 8 a", "b to a");
            for (int i = 0; i < 2; i++) {
                is("TEMPER", x.author(i, false), 0);
                is("SENDER", x.author(i, true), 0);
            }
        });
        edge(44, "9, the last", () -> {
            GrownPost x = Due.world("letter from 7 temper 8 ab", "a to b if temper > 8 or sender > 8");
            is("TEMPER", x.author(0, false), 9);
            is("SENDER", x.author(0, true), 9);
        });
        edge(44, "10 is none, nor is what is below 0", () -> {
            GrownPost x = Due.world("letter from 7 temper 8 ab", "a to b if temper > 9 or sender > 9");
            is("TEMPER", x.author(0, false), 0);
            is("SENDER", x.author(0, true), 0);
        });
        edge(44, "the fewest, of several that have some", () -> {
            GrownPost x = Due.world("letter from 0 temper 0 aaab", "a to a if temper > 2 and temper < 6 or sender > 3 and sender < 8");
            is("TEMPER", x.author(0, false), 3);
            is("SENDER", x.author(0, true), 4);
        });
        edge(44, "in place of its own, the other as it is", () -> {
            GrownPost x = Due.world("letter from 3 temper 5 ab", "a to b if temper > 6 and sender > 2 or temper > 4 and sender > 8");
            is("TEMPER", x.author(0, false), 7);
            is("SENDER", x.author(0, true), 9);
            is("its own TEMPER", x.letter(0, 1), 5);
            is("its own SENDER", x.letter(0, 2), 3);
        });
        edge(44, "refused: nothing changes", () -> refusedIndex(x -> x.author(2, false)));
    }

    private void shelvesArguments() {
        edge(45, "N is none: below 1, above 99", () -> {
            GrownPost x = letters("a");
            noNumber("shelves", 1, 99, i -> x.shelves(i, 0, false));
            noNumber("how many", 1, 99, i -> x.shelves(i, 0, true));
        });
        edge(45, "M is none: below 0, above 40", () -> {
            GrownPost x = letters("a");
            noNumber("shelves", 0, 40, i -> x.shelves(1, i, false));
            noNumber("how many", 0, 40, i -> x.shelves(1, i, true));
        });
        edge(45, "N or M are none without LETTERS too", () -> {
            GrownPost x = new GrownPost();
            noNumber("shelves", 1, 99, i -> x.shelves(i, 0, false));
            noNumber("how many", 0, 40, i -> x.shelves(1, i, true));
        });
        edge(45, "refused: nothing changes", () -> {
            refusedNumber(x -> x.shelves(0, 0, false));
            refusedNumber(x -> x.shelves(1, 41, true));
        });
    }

    private void shelves() {
        edge(45, "0 without LETTERS", () -> {
            GrownPost x = new GrownPost();
            is("shelves", x.shelves(1, 0, false), 0);
            is("shelves", x.shelves(99, 40, false), 0);
            is("how many", x.shelves(99, 40, true), 0);
        });
        edge(45, "none, if one is too long: by a LINE; not, if it just fits", () -> {
            GrownPost x = letters("a", "aaa");
            is("too long", x.shelves(2, 0, false), NONE);
            is("just fits", x.shelves(3, 0, false), 2);
            is("how many of them", x.shelves(2, 0, true), 1);
        });
        edge(45, "N 1, the least, and 99, the most", () -> {
            is("eight ones", crowded().shelves(1, 0, false), 8);
            is("one on one", crowded().shelves(1, 0, true), 1);
            String twelve = FULL.substring(12);
            GrownPost x = letters(twelve, twelve, twelve, twelve, twelve, twelve, twelve, twelve + "aaa");
            is("99 LINES", x.shelves(99, 0, false), 1);
            is("99 LINES", x.shelves(99, 0, true), 8);
            is("99 LINES on 98", x.shelves(98, 0, false), 2);
            is("99 LINES on 98", x.shelves(98, 0, true), 7);
        });
        edge(45, "full: eight of 24 LINES", () -> {
            GrownPost x = letters(FULL, FULL, FULL, FULL, FULL, FULL, FULL, FULL);
            is("24", x.shelves(24, 0, false), 8);
            is("23", x.shelves(23, 0, false), NONE);
            is("47", x.shelves(47, 0, false), 8);
            is("48", x.shelves(48, 0, false), 4);
            is("96", x.shelves(96, 0, false), 2);
            is("how many on 96", x.shelves(96, 0, true), 4);
            is("how many on 95", x.shelves(95, 0, true), 3);
        });
        edge(45, "how many: 0, if none fits, and all eight, if they just fit", () -> {
            is("none", letters("aa").shelves(1, 0, true), 0);
            is("all", crowded().shelves(8, 0, true), 8);
            is("all but one", crowded().shelves(7, 0, true), 7);
        });
        edge(45, "M 0 and M 40", () -> {
            GrownPost x = lawful(LATE, "a");
            is("by 0", x.shelves(1, 0, false), 1);
            is("by 39", x.shelves(1, 39, false), 1);
            is("by 40", x.shelves(1, 40, false), NONE);
            is("by 40", x.shelves(1, 40, true), 0);
            is("by 41", lawful(TOO_LATE, "a").shelves(1, 40, false), 1);
        });
        edge(45, "the fewest: not those of the first that fits", () -> {
            GrownPost x = letters("aaa", "aaa", "aa", "aa", "aa", "aaaa");
            is("16 on 8s", x.shelves(8, 0, false), 2);
            GrownPost y = letters("aaaaaa", "aaaaa", "aaaaa", "aaaa", "aaaa", "aaa", "aaa", "aa");
            is("32 on 8s: 6+2, 5+3, 5+3, 4+4", y.shelves(8, 0, false), 4);
            is("32 on 7s: 6, 5+2, 5, 4+3, 4+3", y.shelves(7, 0, false), 5);
            is("32 on 16s", y.shelves(16, 0, false), 2);
            is("32 on 31s", y.shelves(31, 0, false), 2);
            is("32 on 32s", y.shelves(32, 0, false), 1);
        });
    }

    private void tempers() {
        edge(46, "no such LETTER: too small, too large", () -> {
            GrownPost x = letters("a", "b");
            noIndex("tempers", 2, i -> x.tempers(i, 0, 0));
            noIndex("likely", 2, i -> x.tempers(i, 0, NONE));
        });
        edge(46, "no such KIND: too small (below NONE), too large", () -> {
            GrownPost x = letters("a", "b");
            noIndexNorNone("tempers", 12, i -> x.tempers(0, 0, i));
        });
        edge(46, "N is none: below 0, above 40", () -> {
            GrownPost x = letters("a");
            noNumber("tempers", 0, 40, i -> x.tempers(0, i, 0));
            noNumber("likely", 0, 40, i -> x.tempers(0, i, NONE));
        });
        edge(46, "of two exceptions: no such LETTER or KIND goes first", () -> {
            GrownPost x = letters("a");
            noIndexFirst("tempers", () -> x.tempers(1, 41, 0));
            noIndexFirst("tempers", () -> x.tempers(0, -1, 12));
            noIndexFirst("tempers", () -> x.tempers(0, 41, -2));
            noIndexFirst("likely", () -> x.tempers(-1, 41, NONE));
        });
        edge(46, "none of the ten, and all ten", () -> {
            GrownPost x = lawful("a to b", "a");
            is("none", x.tempers(0, 1, 0), 0);
            is("all", x.tempers(0, 1, 1), 10);
            is("all now", x.tempers(0, 0, 0), 10);
            is("none of l", x.tempers(0, 40, 11), 0);
        });
        edge(46, "TEMPER 0, the least, and 9, the most", () -> {
            is("0 alone", lawful("a to b if temper < 1", "a").tempers(0, 1, 1), 1);
            is("9 alone", lawful("a to b if temper > 8", "a").tempers(0, 1, 1), 1);
            is("10 none", lawful("a to b if temper > 9", "a").tempers(0, 1, 1), 0);
        });
        edge(46, "N 40: the 40th WEEK counts, a 41st does not", () -> {
            is("by 39", lawful(LATE, "a").tempers(0, 39, 1), 0);
            is("by 40", lawful(LATE, "a").tempers(0, 40, 1), 10);
            is("by 41", lawful(TOO_LATE, "a").tempers(0, 40, 1), 0);
        });
        edge(46, "an OPEN one: all ten lead to its last LINE", () -> {
            GrownPost x = Due.world(lettersText("a") + ";open 0", "a to b if temper > 1");
            is("a", x.tempers(0, 40, 0), 10);
            is("b", x.tempers(0, 40, 1), 0);
        });
        edge(46, "refused: nothing changes", () -> {
            refusedIndex(x -> x.tempers(2, 0, 0));
            refusedIndex(x -> x.tempers(0, 0, 12));
            refusedNumber(x -> x.tempers(0, 41, NONE));
        });
    }

    private void likely() {
        edge(46, "LIKELY: a and l", () -> {
            GrownPost x = letters("a", "l");
            is("a", x.tempers(0, 40, NONE), 0);
            is("l", x.tempers(1, 40, NONE), 11);
        });
        edge(46, "LIKELY: of several the least", () -> {
            is("5 and 5", lawful("a to l if temper < 5;a to b", "a").tempers(0, 1, NONE), 1);
            is("5 and 5, the other way round", lawful("a to b if temper < 5;a to l", "a").tempers(0, 1, NONE), 1);
            is("4 and 6", lawful("a to b if temper < 4;a to l", "a").tempers(0, 1, NONE), 11);
            is("6 and 4", lawful("a to b if temper < 6;a to l", "a").tempers(0, 1, NONE), 1);
            is("one each of b to h, three of a", lawful("a to b if temper < 1;a to c if temper < 2;a to d if temper < 3;a to e if temper < 4;"
                    + "a to f if temper < 5;a to g if temper < 6;a to h if temper < 7", "a").tempers(0, 1, NONE), 0);
        });
    }

    private void trials() {
        edge(47, "no such LETTER: too small (below NONE), too large", () -> {
            GrownPost x = letters("a", "b");
            noIndexNorNone("trial", 2, i -> x.trial(0, i));
            GrownPost none = new GrownPost();
            noIndexNorNone("trial without LETTERS", 0, i -> none.trial(0, i));
        });
        edge(47, "N is none: below 0, above 40", () -> {
            GrownPost x = letters("a");
            noNumber("trial", 0, 40, i -> x.trial(i, 0));
            noNumber("trial of all", 0, 40, i -> x.trial(i, NONE));
        });
        edge(47, "of two exceptions: no such LETTER goes first", () -> {
            GrownPost x = letters("a");
            noIndexFirst("trial", () -> x.trial(41, 1));
            noIndexFirst("trial", () -> x.trial(-1, -2));
        });
        edge(47, "letter NONE without LETTERS: no LINES", () -> {
            is("0", new GrownPost().trial(0, NONE), 0);
            is("40", new GrownPost().trial(40, NONE), 0);
        });
        edge(47, "N 0: as it is", () -> {
            GrownPost x = Due.world("slip 100;" + lettersText("ab", "c"), "b to a;c to a");
            is("KIND", x.trial(0, 0), 1);
            is("LINES", x.trial(0, NONE), 3);
        });
        edge(47, "N 40: the 40th WEEK counts, a 41st does not", () -> {
            is("by 39", lawful(LATE, "a").trial(39, 0), 0);
            is("by 40", lawful(LATE, "a").trial(40, 0), 1);
            is("by 40", lawful(LATE, "a").trial(40, NONE), 2);
            is("by 41", lawful(TOO_LATE, "a").trial(40, 0), 0);
        });
        edge(47, "full: 24 LINES each", () -> {
            GrownPost x = lawful("a to a", "a", "a", "a", "a", "a", "a", "a", "a");
            is("by 22", x.trial(22, NONE), 184);
            is("by 23", x.trial(23, NONE), 192);
            is("by 40", x.trial(40, NONE), 192);
        });
        edge(47, "draws, too: by SEED as it is, which goes round", () -> {
            GrownPost x = Due.world("slip 100;" + lettersText("a"), "a to a");
            for (int seed : new int[] {1, 0, -1, MIN, MAX}) {
                x.seed(seed);
                is("from SEED " + seed, x.trial(1, 0), draw(seed, 2) % 12);
            }
        });
        edge(47, "nothing stays", () -> {
            GrownPost x = lived();
            GrownPost y = lived();
            for (int n : new int[] {0, 1, 40}) {
                x.trial(n, NONE);
                x.trial(n, 1);
            }
            due.alike("all", all(x), all(y));
            x.undo();
            y.undo();
            due.alike("undone", all(x), all(y));
        });
        edge(47, "WEEKS as they come: at 9999 too", () -> {
            GrownPost x = lastWeek("a to a if week > 999+999+999+999+999+999+999+999+999+999+8", "a");
            is("trial", x.trial(2, NONE), 3);
        });
        edge(47, "refused: nothing changes", () -> {
            refusedIndex(x -> x.trial(0, 2));
            refusedNumber(x -> x.trial(41, NONE));
        });
    }

    /** LINES of a LETTER a from a SEED, after N WEEKS, by a LAW of a to a alone. */
    private static int linesFrom(int seed, int slip, int n) {
        int draws = 0;
        for (int week = 0; week < n; week++) {
            draws++;
            if (draw(seed, draws) % 100 < slip) {
                draws++;
                if (draw(seed, draws) % 12 != 0) {
                    return week + 2;
                }
            }
        }
        return n + 1;
    }

    private void spans() {
        edge(48, "N is none: below 0, above 40", () -> {
            GrownPost x = letters("a");
            noNumber("fewest", 0, 40, i -> x.span(i, false));
            noNumber("most", 0, 40, i -> x.span(i, true));
        });
        edge(48, "without LETTERS", () -> {
            is("fewest", new GrownPost().span(40, false), 0);
            is("most", new GrownPost().span(40, true), 0);
        });
        edge(48, "N 0: as they are", () -> {
            GrownPost x = Due.world("slip 100;" + lettersText("ab", "c"), "b to a;c to a");
            is("fewest", x.span(0, false), 3);
            is("most", x.span(0, true), 3);
        });
        edge(48, "N 40: the 40th WEEK counts, a 41st does not", () -> {
            is("by 39", lawful(LATE, "a").span(39, true), 1);
            is("by 40", lawful(LATE, "a").span(40, false), 2);
            is("by 41", lawful(TOO_LATE, "a").span(40, true), 1);
        });
        edge(48, "full: 192 LINES, the most there are", () -> {
            GrownPost x = lawful("a to a", FULL, FULL, FULL, FULL, FULL, FULL, FULL, FULL.substring(1));
            is("fewest", x.span(40, false), 192);
            is("most", x.span(40, true), 192);
        });
        edge(48, "from SEED 1, 2, .. 6: neither 0 nor 7, whatever SEED is", () -> {
            for (int slip = 1; slip <= 100; slip++) {
                GrownPost x = Due.world("slip " + slip + ";" + lettersText("a"), "a to a");
                x.seed(slip % 2 == 0 ? 7 : MIN);
                int fewest = 99;
                int most = 0;
                for (int seed = 1; seed <= 6; seed++) {
                    fewest = Math.min(fewest, linesFrom(seed, slip, 20));
                    most = Math.max(most, linesFrom(seed, slip, 20));
                }
                is("fewest with SLIP " + slip, x.span(20, false), fewest);
                is("most with SLIP " + slip, x.span(20, true), most);
            }
        });
        edge(48, "nothing stays", () -> {
            GrownPost x = lived();
            x.span(40, true);
            x.span(1, false);
            due.alike("all", all(x), all(lived()));
        });
        edge(48, "refused: nothing changes", () -> refusedNumber(x -> x.span(41, false)));
    }

    private void latest() {
        edge(49, "none: without LETTERS, and of a WEEK in which no LINE came", () -> {
            is("without", new GrownPost().latest(0), NONE);
            GrownPost x = letters("a", "b");
            for (int week : new int[] {MIN, -1, 1, 9999, 10000, MAX}) {
                is("WEEK " + week, x.latest(week), NONE);
            }
        });
        edge(49, "of several the least", () -> {
            GrownPost x = letters("a", "bb", "cc");
            is("latest", x.latest(0), 1);
            x.prune(1, 1);
            is("latest", x.latest(0), 2);
            x.prune(2, 1);
            is("latest", x.latest(0), 0);
        });
        edge(49, "the most: the eighth, by 24 LINES", () -> {
            GrownPost x = letters("a", FULL.substring(1), "a", "a", "a", "a", "a", FULL);
            is("latest", x.latest(0), 7);
        });
        edge(49, "WEEK 0 and WEEK 9999", () -> {
            is("0", letters("a").latest(0), 0);
            GrownPost x = lastWeek("b to c", "a", "b");
            x.weeks(2);
            is("9999", x.latest(9999), 1);
            is("10000", x.latest(10000), NONE);
            is("9998", x.latest(9998), NONE);
        });
        edge(49, "LINES that are there: none PRUNED off, nor of one burnt", () -> {
            GrownPost x = lawful("a to a", "a", "b");
            x.weeks(1);
            is("came", x.latest(0), 0);
            x.prune(0, 1);
            x.burn(1);
            x.weeks(1);
            is("WEEK 0", x.latest(0), 0);
            is("WEEK 1", x.latest(1), 0);
            x.burn(0);
            is("burnt", x.latest(0), NONE);
        });
    }
}
