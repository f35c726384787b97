/** Boundary cases of promises 7 to 19: what there is, what FOLLOWS, ACTS, WEEKS and draws. */
final class ActEdges extends Edges {
    ActEdges(Due due, int[] told) {
        super(due, told);
    }

    @Override
    void tell() {
        letterArguments();
        letterAnswers();
        follows();
        conditions();
        truths();
        lines();
        wordsAndPromises();
        seasons();
        writes();
        writesRefused();
        opens();
        copies();
        prunes();
        cutsOut();
        heats();
        burns();
        weeksArguments();
        weeksGrow();
        weeksOfTheYear();
        slips();
        draws();
    }

    private void letterArguments() {
        edge(7, "no such LETTER: too small, too large", () -> {
            GrownPost x = letters("a", "b");
            noIndex("letter", 2, i -> x.letter(i, 0));
        });
        edge(7, "another what: too small, too large", () -> {
            GrownPost x = letters("a", "b");
            noWhat("letter", 8, i -> x.letter(1, i));
        });
        edge(7, "of two exceptions: no such LETTER goes first", () -> {
            GrownPost x = letters("a", "b");
            noIndexFirst("letter", () -> x.letter(2, 8));
            noIndexFirst("letter", () -> x.letter(-1, -1));
        });
        edge(7, "LETTERS, numbered from 0 on: the first and the eighth", () -> {
            GrownPost x = crowded();
            is("the first", x.letter(0, 6), 0);
            is("the eighth", x.letter(7, 6), 7);
            noIndex("letter", 8, i -> x.letter(i, 6));
        });
        edge(7, "refused: nothing changes", () -> {
            refusedIndex(x -> x.letter(2, 0));
            refused(Edges::lived, java.util.NoSuchElementException.class, x -> x.letter(0, 8));
        });
    }

    private void letterAnswers() {
        edge(7, "LINES: 1, the least, and 24, the most", () -> {
            GrownPost x = letters("a", FULL);
            is("least", x.letter(0, 0), 1);
            is("most", x.letter(1, 0), 24);
        });
        edge(7, "TEMPER and SENDER: 0 and 9", () -> {
            GrownPost x = Due.world("letter from 9 temper 0 a;letter from 0 temper 9 a", "");
            is("least TEMPER", x.letter(0, 1), 0);
            is("most TEMPER", x.letter(1, 1), 9);
            is("most SENDER", x.letter(0, 2), 9);
            is("least SENDER", x.letter(1, 2), 0);
        });
        edge(7, "1 if OPEN, 1 if HOT, 0 if not", () -> {
            GrownPost x = Due.world(lettersText("a", "a") + ";open 0;hot 1", "");
            is("OPEN", x.letter(0, 3), 1);
            is("SEALED", x.letter(1, 3), 0);
            is("not HOT", x.letter(0, 4), 0);
            is("HOT", x.letter(1, 4), 1);
        });
        edge(7, "WORDS: 1, the least, and 216, the most", () -> {
            GrownPost x = Due.world(lettersText("b", FULL) + ";words a 9;words b 1", "");
            is("least", x.letter(0, 5), 1);
            is("most", x.letter(1, 5), 216);
        });
        edge(7, "the KIND of its last LINE: of one, of 24", () -> {
            GrownPost x = letters("l", FULL.substring(1) + "l", "ba");
            is("of one", x.letter(0, 6), 11);
            is("of 24", x.letter(1, 6), 11);
            is("a", x.letter(2, 6), 0);
        });
    }

    private void follows() {
        edge(7, "NONE, if it is OPEN, but not SEALED again", () -> {
            GrownPost x = lawful("a to b", "a");
            x.open(0, true);
            is("OPEN", x.letter(0, 7), NONE);
            x.open(0, false);
            is("SEALED again", x.letter(0, 7), 1);
        });
        edge(7, "NONE, if it has 24 LINES; with 23 there is room", () -> {
            GrownPost x = lawful("a to b", FULL, FULL.substring(1));
            is("24 LINES", x.letter(0, 7), NONE);
            is("23 LINES", x.letter(1, 7), 1);
        });
        edge(7, "NONE, if nothing FOLLOWS: no LAW, none of the KIND, none that holds", () -> {
            is("no LAW", letters("a").letter(0, 7), NONE);
            is("none of the KIND", lawful("b to a", "a", "ab").letter(0, 7), NONE);
            is("by the KIND of the last LINE", lawful("a to b", "ac").letter(0, 7), NONE);
            is("none that holds", lawful("a to b if hot", "a").letter(0, 7), NONE);
        });
        edge(7, "the first LINE that holds: neither an earlier one that does not, nor a later one", () -> {
            is("first", lawful("a to c;a to b", "a").letter(0, 7), 2);
            is("second", lawful("a to c if hot;a to b;a to d", "a").letter(0, 7), 1);
            is("its own KIND", lawful("b to c;a to a", "a").letter(0, 7), 0);
            is("without C it holds", lawful("a to l", "a").letter(0, 7), 11);
        });
        edge(7, "what would come next without SLIPS", () -> {
            GrownPost x = Due.world("slip 100;" + lettersText("a"), "a to b");
            is("what comes", x.letter(0, 7), 1);
            is("SEED", x.seed(1), 1);
            is("LINES", x.letter(0, 0), 1);
        });
        edge(7, "what would come next now, a HOT one too: one LINE", () -> {
            GrownPost x = Due.world(lettersText("a") + ";hot 0", "a to b;b to c");
            is("what comes", x.letter(0, 7), 1);
        });
    }

    private void conditions() {
        edge(7, "length: 1, the least, and 23, the most by which one comes", () -> {
            GrownPost x = lawful("a to b if length < 2;a to c if length > 22;a to d", "a", "aa", FULL.substring(2), FULL.substring(1));
            int[] want = {1, 3, 3, 2};
            for (int i = 0; i < 4; i++) {
                is("letter " + i, x.letter(i, 7), want[i]);
            }
        });
        edge(7, "before: 12 without, 0 of a, 11 of l", () -> {
            GrownPost x = lawful("a to b if before > 11;a to c if before < 1;a to d if before > 10;a to e", "a", "aa", "la", "lba");
            int[] want = {1, 2, 3, 4};
            for (int i = 0; i < 4; i++) {
                is("letter " + i, x.letter(i, 7), want[i]);
            }
            is("12 and no more", lawful("a to b if before > 12", "a").letter(0, 7), NONE);
        });
        edge(7, "temper and sender: 0 and 9", () -> {
            GrownPost x = Due.world("letter from 0 temper 9 a;letter from 9 temper 0 a;letter from 1 temper 8 a",
                    "a to b if temper > 8;a to c if temper < 1 and sender > 8;a to d if sender > 0");
            int[] want = {1, 2, 3};
            for (int i = 0; i < 3; i++) {
                is("letter " + i, x.letter(i, 7), want[i]);
            }
            is("0", Due.world("letter from 0 temper 0 a", "a to b if sender + temper < 1").letter(0, 7), 1);
        });
        edge(7, "winter: SEASON is 3, of WEEKS 39 to 51, and of none beside", () -> {
            int[] weeks = {0, 38, 39, 51, 52, 90, 91, 103, 104, 999};
            int[] want = {NONE, NONE, 1, 1, NONE, NONE, 1, 1, NONE, NONE};
            for (int i = 0; i < weeks.length; i++) {
                GrownPost x = Due.world("week " + weeks[i] + ";" + lettersText("a"), "a to b if winter");
                is("week " + weeks[i], x.letter(0, 7), want[i]);
            }
        });
        edge(7, "season: 0 to 3, and 0 again", () -> {
            int[] weeks = {0, 12, 13, 25, 26, 38, 39, 51, 52};
            for (int week : weeks) {
                GrownPost x = Due.world("week " + week + ";" + lettersText("a"),
                        "a to b if season < 1;a to c if season < 2;a to d if season < 3;a to e if season < 4 and season > 2");
                is("week " + week, x.letter(0, 7), 1 + week / 13 % 4);
            }
        });
        edge(7, "week: 0, the least", () -> {
            GrownPost x = lawful("a to b if week < 1;a to c", "a");
            is("WEEK 0", x.letter(0, 7), 1);
            x.weeks(1);
            x.prune(0, 1);
            is("WEEK 1", x.letter(0, 7), 2);
        });
        edge(7, "week: 9999, the most", () -> {
            String most = "999" + "+999".repeat(9);
            is("above 9998", lastWeek("a to b if week > " + most + "+8", "a").letter(0, 7), 1);
            is("not above 9999", lastWeek("a to b if week > " + most + "+9", "a").letter(0, 7), NONE);
        });
        edge(7, "SUM < SUM, SUM > SUM: alike is neither", () -> {
            is("<", lawful("a to b if 7 < 7", "a").letter(0, 7), NONE);
            is(">", lawful("a to b if 7 > 7", "a").letter(0, 7), NONE);
            is("< by 1", lawful("a to b if 7 < 8", "a").letter(0, 7), 1);
            is("> by 1", lawful("a to b if 8 > 7", "a").letter(0, 7), 1);
            is("< the other way", lawful("a to b if 8 < 7", "a").letter(0, 7), NONE);
            is("> the other way", lawful("a to b if 7 > 8", "a").letter(0, 7), NONE);
            is("0", lawful("a to b if 0 < 0 or 0 > 0", "a").letter(0, 7), NONE);
        });
        edge(7, "hot: by one that is, not by one that is not", () -> {
            GrownPost x = lawful("a to b if hot;a to c if not hot", "a");
            is("not HOT", x.letter(0, 7), 2);
            x.heat(0, true);
            is("HOT", x.letter(0, 7), 1);
        });
    }

    /** Whether a condition holds for a HOT LETTER in winter. */
    private void holds(String condition, boolean want) {
        GrownPost x = Due.world("week 39;" + lettersText("a") + ";hot 0", "a to b if " + condition);
        is(condition, x.letter(0, 7), want ? 1 : NONE);
    }

    private void truths() {
        edge(7, "not: of what holds, of what does not, twice", () -> {
            holds("not hot", false);
            holds("not winter", false);
            holds("not 1 < 2", false);
            holds("not 2 < 1", true);
            holds("not not hot", true);
            holds("not not 2 < 1", false);
        });
        edge(7, "and: both, one alone, none", () -> {
            holds("hot and winter", true);
            holds("hot and 1 < 2", true);
            holds("winter and 2 > 1", true);
            holds("hot and 2 < 1", false);
            holds("2 < 1 and winter", false);
            holds("2 < 1 and 1 > 2", false);
        });
        edge(7, "or: both, one alone, none", () -> {
            holds("hot or winter", true);
            holds("not hot or winter", true);
            holds("hot or not winter", true);
            holds("not hot or not winter", false);
            holds("2 < 1 or 1 < 2", true);
        });
        edge(7, "and binds more than or, not more than and, ( most", () -> {
            holds("hot or winter and 2 < 1", true);
            holds("2 < 1 and winter or hot", true);
            holds("(hot or winter) and 2 < 1", false);
            holds("2 < 1 and (winter or hot)", false);
            holds("not 2 < 1 and 2 < 1", false);
            holds("not (2 < 1 and 2 < 1)", true);
            holds("not hot or hot", true);
            holds("not (hot or hot)", false);
        });
    }

    private void lines() {
        edge(8, "no such LETTER: too small, too large", () -> {
            GrownPost x = letters("abc", "b");
            noIndex("line", 2, i -> x.line(i, 0, false));
            noIndex("led", 2, i -> x.line(i, 0, true));
        });
        edge(8, "no such LINE: too small, too large", () -> {
            GrownPost x = letters("b", "abc");
            noIndex("line", 3, i -> x.line(1, i, false));
            noIndex("led", 3, i -> x.line(1, i, true));
            noIndex("line of one", 1, i -> x.line(0, i, false));
        });
        edge(8, "the first LINE and the last, of 24", () -> {
            GrownPost x = letters("l" + FULL.substring(2) + "k");
            is("first", x.line(0, 0, false), 11);
            is("last", x.line(0, 23, false), 10);
            noIndex("line", 24, i -> x.line(0, i, false));
        });
        edge(8, "LED: WEEK 0 and WEEK 9999", () -> {
            is("0", letters("a").line(0, 0, true), 0);
            GrownPost x = lastWeek("a to b", "a");
            x.weeks(1);
            is("told in WEEK 9999", x.line(0, 0, true), 9999);
            is("came in WEEK 9999", x.line(0, 1, true), 9999);
        });
        edge(8, "no such LINE any more: PRUNED off", () -> {
            GrownPost x = letters("abc");
            x.prune(0, 1);
            noIndex("line", 2, i -> x.line(0, i, false));
            noIndex("led", 2, i -> x.line(0, i, true));
        });
        edge(8, "refused: nothing changes", () -> {
            refusedIndex(x -> x.line(2, 0, true));
            refusedIndex(x -> x.line(0, 2, false));
        });
    }

    private void wordsAndPromises() {
        edge(9, "no such KIND: too small, too large", () -> {
            GrownPost x = new GrownPost();
            noIndex("words", 12, x::words);
        });
        edge(9, "a and l, 3 at first; 1 and 9", () -> {
            GrownPost x = new GrownPost();
            is("a", x.words(0), 3);
            is("l", x.words(11), 3);
            Due.post(x, "words a 1;words l 9");
            is("a", x.words(0), 1);
            is("b", x.words(1), 3);
            is("l", x.words(11), 9);
        });
        edge(9, "refused: nothing changes", () -> refusedIndex(x -> x.words(12)));
        edge(10, "no such PROMISE: without any", () -> {
            GrownPost x = new GrownPost();
            noIndex("promise", 0, i -> x.promise(i, false));
            noIndex("promise", 0, i -> x.promise(i, true));
        });
        edge(10, "no such PROMISE: too small, too large", () -> {
            GrownPost x = Due.world("promise a b;promise b c", "");
            noIndex("promise", 2, i -> x.promise(i, false));
            noIndex("promise", 2, i -> x.promise(i, true));
        });
        edge(10, "the first, and the eighth of eight", () -> {
            GrownPost x = Due.world("promise a l;" + "promise b c;".repeat(6) + "promise l a", "");
            is("first, first KIND", x.promise(0, false), 0);
            is("first, second KIND", x.promise(0, true), 11);
            is("eighth, first KIND", x.promise(7, false), 11);
            is("eighth, second KIND", x.promise(7, true), 0);
            noIndex("promise", 8, i -> x.promise(i, false));
        });
        edge(10, "refused: nothing changes", () -> refusedIndex(x -> x.promise(2, false)));
    }

    private void seasons() {
        edge(11, "it is none: below 0, above 9999", () -> {
            GrownPost x = new GrownPost();
            noNumber("season", 0, 9999, x::season);
        });
        edge(11, "WEEK 0, the least, and 9999, the most", () -> {
            GrownPost x = new GrownPost();
            is("0", x.season(0), 0);
            is("9999", x.season(9999), 1);
        });
        edge(11, "by 13, rounded down", () -> {
            GrownPost x = new GrownPost();
            int[] weeks = {12, 13, 25, 26, 38, 39};
            int[] want = {0, 1, 1, 2, 2, 3};
            for (int i = 0; i < weeks.length; i++) {
                is("season " + weeks[i], x.season(weeks[i]), want[i]);
            }
        });
        edge(11, "wrap-around: modulo 4", () -> {
            GrownPost x = new GrownPost();
            is("51", x.season(51), 3);
            is("52", x.season(52), 0);
            is("103", x.season(103), 3);
            is("104", x.season(104), 0);
        });
        edge(11, "refused: nothing changes", () -> refusedNumber(x -> x.season(10000)));
    }

    private static byte[] row(int length, int kind) {
        byte[] row = new byte[length];
        java.util.Arrays.fill(row, (byte) kind);
        return row;
    }

    private void writes() {
        edge(12, "KINDS, 1 to 24: 1, the least", () -> {
            GrownPost x = new GrownPost();
            is("write", Due.write(x, "l", 0, 0), 0);
            due.lines("LINES", x, 0, "l");
        });
        edge(12, "KINDS, 1 to 24: 24, the most", () -> {
            GrownPost x = new GrownPost();
            is("write", Due.write(x, "abcdefghijklabcdefghijkl", 0, 0), 0);
            due.lines("LINES", x, 0, "abcdefghijklabcdefghijkl");
        });
        edge(12, "its bytes, KINDS: 0 and 11, the last of 24 too", () -> {
            GrownPost x = new GrownPost();
            byte[] row = row(24, 0);
            row[23] = 11;
            Due.put(x, row);
            is("write", x.write(9, 9), 0);
            is("first", x.line(0, 0, false), 0);
            is("last", x.line(0, 23, false), 11);
        });
        edge(12, "its bytes, those that the TAPE has: none behind its end", () -> {
            GrownPost x = new GrownPost();
            Due.put(x, new byte[] {3, 4, 99, 99});
            x.end(2);
            is("write", x.write(0, 0), 0);
            due.lines("LINES", x, 0, "de");
        });
        edge(12, "SENDER and TEMPER: 0 and 9", () -> {
            GrownPost x = new GrownPost();
            Due.write(x, "a", 0, 9);
            Due.write(x, "a", 9, 0);
            is("SENDER", x.letter(0, 2), 0);
            is("TEMPER", x.letter(0, 1), 9);
            is("SENDER", x.letter(1, 2), 9);
            is("TEMPER", x.letter(1, 1), 0);
        });
        edge(12, "its number: 0, the first, and 7, the eighth", () -> {
            GrownPost x = new GrownPost();
            for (int i = 0; i < 8; i++) {
                is("write " + i, Due.write(x, "a", 0, 0), i);
            }
            is("LETTERS", x.count(0), 8);
        });
        edge(12, "it is SEALED, not HOT, whatever a burnt one was, and came in the WEEK that it is", () -> {
            GrownPost x = lastWeek("", "b", "c");
            x.heat(1, true);
            x.open(1, true);
            x.burn(1);
            is("write", Due.write(x, "aa", 0, 0), 1);
            is("OPEN", x.letter(1, 3), 0);
            is("HOT", x.letter(1, 4), 0);
            is("LED", x.line(1, 1, true), 9999);
        });
        edge(12, "it uses the TAPE up", () -> {
            GrownPost x = new GrownPost();
            Due.write(x, "ab", 0, 0);
            is("end 1", x.end(1), false);
        });
    }

    private void writesRefused() {
        edge(12, "refused, too few: an empty TAPE", () ->
                refusedTape(Edges::lived, IllegalArgumentException.class, row(0, 0), x -> x.write(0, 0)));
        edge(12, "refused, too many: 25, and 400", () -> {
            refusedTape(Edges::lived, IllegalArgumentException.class, row(25, 0), x -> x.write(0, 0));
            refusedTape(Edges::lived, IllegalArgumentException.class, row(400, 0), x -> x.write(0, 0));
        });
        edge(12, "refused: a byte above 11 is no KIND, be it the first, the last or between", () -> {
            for (int kind : new int[] {12, 13, 97, 108, 127, 128, 255}) {
                refusedTape(Edges::lived, IllegalArgumentException.class, row(1, kind), x -> x.write(0, 0));
            }
            for (int at : new int[] {0, 12, 23}) {
                byte[] row = row(24, 0);
                row[at] = 12;
                refusedTape(Edges::lived, IllegalArgumentException.class, row, x -> x.write(0, 0));
            }
        });
        edge(12, "refused: SENDER is none", () -> {
            for (int none : new int[] {-1, 10, MIN, MAX}) {
                refusedTape(Edges::lived, IllegalArgumentException.class, row(1, 0), x -> x.write(none, 0));
            }
        });
        edge(12, "refused: TEMPER is none", () -> {
            for (int none : new int[] {-1, 10, MIN, MAX}) {
                refusedTape(Edges::lived, IllegalArgumentException.class, row(1, 0), x -> x.write(0, none));
            }
        });
        edge(12, "refused, full: there are 8", () ->
                refusedTape(Edges::crowded, UnsupportedOperationException.class, row(1, 0), x -> x.write(0, 0)));
        edge(12, "of two exceptions: what is wrong goes ahead of 8", () -> {
            refusedTape(Edges::crowded, IllegalArgumentException.class, row(1, 12), x -> x.write(0, 0));
            refusedTape(Edges::crowded, IllegalArgumentException.class, row(0, 0), x -> x.write(0, 0));
            refusedTape(Edges::crowded, IllegalArgumentException.class, row(1, 0), x -> x.write(10, 0));
            refusedTape(Edges::crowded, IllegalArgumentException.class, row(1, 0), x -> x.write(0, 10));
        });
        edge(12, "not full any more: one is burnt", () -> {
            GrownPost x = crowded();
            x.burn(0);
            is("write", Due.write(x, "l", 0, 0), 7);
        });
    }

    private void opens() {
        edge(13, "no such LETTER: too small, too large", () -> {
            GrownPost x = letters("a", "b");
            noIndex("open", 2, i -> x.open(i, true));
            noIndex("seal", 2, i -> x.open(i, false));
        });
        edge(13, "whether that changed: not OPENED twice, nor SEALED twice", () -> {
            GrownPost x = letters("a", "b");
            is("seal", x.open(1, false), false);
            is("open", x.open(1, true), true);
            is("open", x.open(1, true), false);
            is("seal", x.open(1, false), true);
            is("OPEN ones", x.count(7), 0);
        });
        edge(13, "the eighth alone", () -> {
            GrownPost x = letters("a", "b", "c", "d", "e", "f", "g", "h");
            is("open", x.open(7, true), true);
            is("OPEN ones", x.count(7), 128);
        });
        edge(13, "refused: nothing changes", () -> {
            refusedIndex(x -> x.open(2, true));
            refusedIndex(x -> x.open(-1, false));
        });
    }

    private void copies() {
        edge(14, "no such LETTER: too small, too large", () -> {
            GrownPost x = letters("a", "b");
            noIndex("copy", 2, x::copy);
        });
        edge(14, "its number: 7, the eighth", () -> {
            GrownPost x = letters("a", "b", "c", "d", "e", "f", "l");
            is("copy", x.copy(6), 7);
            due.lines("LINES", x, 7, "l");
            is("LETTERS", x.count(0), 8);
        });
        edge(14, "refused, full: there are 8", () ->
                refused(Edges::crowded, UnsupportedOperationException.class, x -> x.copy(0)));
        edge(14, "of two exceptions: no such LETTER goes ahead of 8", () ->
                refused(Edges::crowded, IndexOutOfBoundsException.class, x -> x.copy(8)));
        edge(14, "refused: nothing changes", () -> refusedIndex(x -> x.copy(2)));
        edge(14, "all alike, but SEALED: 24 LINES, LED, HOT, TEMPER, SENDER", () -> {
            GrownPost x = Due.world("letter from 8 temper 7 " + FULL.substring(2) + ";hot 0;week 9", "a to l;l to b");
            x.weeks(1);
            x.open(0, true);
            is("copy", x.copy(0), 1);
            due.lines("LINES", x, 1, FULL.substring(2) + "lb");
            int[] want = {24, 7, 8, 0, 1, 72, 1, NONE};
            for (int what = 0; what < 8; what++) {
                is("what " + what, x.letter(1, what), want[what]);
            }
            is("LED of the first", x.line(1, 0, true), 0);
            is("LED of the last", x.line(1, 23, true), 9);
            is("the first is OPEN", x.letter(0, 3), 1);
        });
        edge(14, "copies grow apart: neither has what the other gets", () -> {
            GrownPost x = lawful("a to b", "aa");
            x.copy(0);
            x.prune(0, 1);
            due.lines("the copy", x, 1, "aa");
            x.cut(1, 0);
            x.open(0, true);
            x.weeks(1);
            due.lines("the first", x, 0, "a");
            due.lines("the copy", x, 1, "ab");
        });
    }

    private void prunes() {
        edge(15, "no such LETTER: too small, too large", () -> {
            GrownPost x = letters("ab", "ab");
            noIndex("prune", 2, i -> x.prune(i, 1));
        });
        edge(15, "n is below 1, or none would stay", () -> {
            GrownPost x = letters("abcd");
            noNumber("prune", 1, 3, i -> x.prune(0, i));
            due.lines("LINES", x, 0, "abcd");
        });
        edge(15, "one LINE, the least", () -> {
            GrownPost x = letters("abcd");
            is("prune", x.prune(0, 1), 3);
            due.lines("LINES", x, 0, "abc");
        });
        edge(15, "all but one, the most", () -> {
            GrownPost x = letters("l" + FULL.substring(1));
            is("prune", x.prune(0, 23), 1);
            due.lines("LINES", x, 0, "l");
        });
        edge(15, "of one LINE none", () -> {
            GrownPost x = letters("a");
            noNumber("prune", 1, 0, i -> x.prune(0, i));
            is("LINES", x.letter(0, 0), 1);
        });
        edge(15, "of two exceptions: no such LETTER goes first", () -> {
            GrownPost x = letters("a");
            noIndexFirst("prune", () -> x.prune(1, 0));
            noIndexFirst("prune", () -> x.prune(-1, 24));
        });
        edge(15, "refused: nothing changes", () -> {
            refusedNumber(x -> x.prune(0, 2));
            refusedNumber(x -> x.prune(0, 0));
            refusedIndex(x -> x.prune(2, 1));
        });
    }

    private void cutsOut() {
        edge(16, "no such LETTER: too small, too large", () -> {
            GrownPost x = letters("ab", "ab");
            noIndex("cut", 2, i -> x.cut(i, 0));
        });
        edge(16, "no such LINE: too small, too large", () -> {
            GrownPost x = letters("ab", "abc");
            noIndex("cut", 2, i -> x.cut(0, i));
        });
        edge(16, "the first, and the last, of 24", () -> {
            GrownPost x = letters("l" + FULL.substring(2) + "k");
            is("the last", x.cut(0, 23), 10);
            due.lines("LINES", x, 0, "l" + FULL.substring(2));
            is("the first", x.cut(0, 0), 11);
            due.lines("LINES", x, 0, FULL.substring(2));
        });
        edge(16, "LED goes along", () -> {
            GrownPost x = lawful("a to b;b to c;c to d", "a");
            x.weeks(3);
            x.cut(0, 1);
            is("LED 0", x.line(0, 0, true), 0);
            is("LED 1", x.line(0, 1, true), 1);
            is("LED 2", x.line(0, 2, true), 2);
        });
        edge(16, "of two LINES one stays", () -> {
            GrownPost x = letters("ab", "ab");
            is("cut", x.cut(0, 0), 0);
            is("cut", x.cut(1, 1), 1);
            due.lines("LINES", x, 0, "b");
            due.lines("LINES", x, 1, "a");
        });
        edge(16, "refused: none would stay", () ->
                refused(() -> {
                    GrownPost x = letters("a", "bc");
                    x.image();
                    x.weeks(1);
                    x.heat(0, true);
                    return x;
                }, IllegalStateException.class, x -> x.cut(0, 0)));
        edge(16, "of two exceptions: no such LINE goes first", () -> {
            GrownPost x = letters("a");
            noIndexFirst("cut", () -> x.cut(0, 1));
            noIndexFirst("cut", () -> x.cut(0, -1));
            noIndexFirst("cut", () -> x.cut(1, 0));
        });
        edge(16, "refused: nothing changes", () -> {
            refusedIndex(x -> x.cut(0, 2));
            refusedIndex(x -> x.cut(2, 0));
        });
    }

    private void heats() {
        edge(17, "no such LETTER: too small, too large", () -> {
            GrownPost x = letters("a", "b");
            noIndex("heat", 2, i -> x.heat(i, true));
            noIndex("cool", 2, i -> x.heat(i, false));
        });
        edge(17, "whether that changed: not in twice, nor out twice", () -> {
            GrownPost x = letters("a", "b");
            is("out", x.heat(1, false), false);
            is("in", x.heat(1, true), true);
            is("in", x.heat(1, true), false);
            is("HOT ones", x.count(8), 2);
            is("out", x.heat(1, false), true);
            is("HOT ones", x.count(8), 0);
        });
        edge(17, "the eighth alone", () -> {
            GrownPost x = letters("a", "b", "c", "d", "e", "f", "g", "h");
            is("heat", x.heat(7, true), true);
            is("HOT ones", x.count(8), 128);
        });
        edge(17, "refused: nothing changes", () -> refusedIndex(x -> x.heat(2, true)));
    }

    private void burns() {
        edge(18, "no such LETTER: too small, too large", () -> {
            GrownPost x = letters("a", "b");
            noIndex("burn", 2, x::burn);
        });
        edge(18, "the first of eight: those behind have a number less", () -> {
            GrownPost x = crowded();
            is("burn", x.burn(0), 7);
            for (int i = 0; i < 7; i++) {
                is("letter " + i, x.letter(i, 6), i + 1);
            }
            is("HOT ones", x.count(8), 1);
            is("OPEN ones", x.count(7), 2);
            noIndex("letter", 7, i -> x.letter(i, 6));
        });
        edge(18, "the last of eight: the others have the numbers they had", () -> {
            GrownPost x = crowded();
            is("burn", x.burn(7), 7);
            for (int i = 0; i < 7; i++) {
                is("letter " + i, x.letter(i, 6), i);
            }
        });
        edge(18, "the only one, then none", () -> {
            GrownPost x = letters("a");
            is("burn", x.burn(0), 0);
            is("LETTERS", x.count(0), 0);
            noIndex("burn", 0, x::burn);
        });
        edge(18, "refused: nothing changes", () -> refusedIndex(x -> x.burn(2)));
    }

    private void weeksArguments() {
        edge(19, "they are none: below 1, above 60", () -> {
            GrownPost x = lawful("a to a", "a");
            noNumber("weeks", 1, 60, x::weeks);
            is("WEEK", x.count(4), 0);
        });
        edge(19, "1, the least, and 60, the most", () -> {
            GrownPost x = letters("a");
            x.weeks(1);
            is("WEEK", x.count(4), 1);
            x.weeks(60);
            is("WEEK", x.count(4), 61);
        });
        edge(19, "empty: without LETTERS, LINES that came", () -> {
            GrownPost x = new GrownPost();
            is("weeks", x.weeks(60), 0);
            is("WEEK", x.count(4), 60);
        });
        edge(19, "refused: nothing changes", () -> {
            refusedNumber(x -> x.weeks(0));
            refusedNumber(x -> x.weeks(61));
        });
    }

    private void weeksGrow() {
        edge(19, "an OPEN one does not GROW, a SEALED one by a LINE, a HOT one by two", () -> {
            GrownPost x = Due.world(lettersText("a", "a", "a", "a") + ";open 0;hot 2;hot 3;open 3", "a to b;b to c;c to d");
            is("weeks", x.weeks(1), 3);
            String[] want = {"a", "ab", "abc", "a"};
            for (int i = 0; i < 4; i++) {
                due.lines("letter " + i, x, i, want[i]);
            }
        });
        edge(19, "none, if it has 24 LINES; of 23 one, of 22 two, be it HOT", () -> {
            GrownPost x = Due.world(lettersText(FULL, FULL.substring(1), FULL.substring(2), FULL.substring(1))
                    + ";hot 0;hot 1;hot 2", "a to b;b to c");
            is("weeks", x.weeks(1), 4);
            due.lines("24", x, 0, FULL);
            due.lines("23, HOT", x, 1, FULL.substring(1) + "b");
            due.lines("22, HOT", x, 2, FULL.substring(2) + "bc");
            due.lines("23", x, 3, FULL.substring(1) + "b");
            is("weeks", x.weeks(60), 0);
        });
        edge(19, "none, if nothing FOLLOWS; a HOT one's second alone, if that is none", () -> {
            GrownPost x = Due.world(lettersText("a", "c") + ";hot 0", "a to b");
            is("weeks", x.weeks(1), 1);
            due.lines("HOT", x, 0, "ab");
            due.lines("nothing", x, 1, "c");
            is("without THE LAW", letters("a").weeks(60), 0);
        });
        edge(19, "a HOT one's second LINE by what it is behind the first", () -> {
            GrownPost x = Due.world(lettersText("a") + ";hot 0", "a to a if length < 2 and before > 11;a to b if length > 1 and before < 1");
            is("weeks", x.weeks(1), 2);
            due.lines("LINES", x, 0, "aab");
        });
        edge(19, "LINES that came: of all LETTERS, of all WEEKS", () -> {
            GrownPost x = lawful("a to a", "a", FULL.substring(3), "b");
            is("weeks", x.weeks(5), 8);
            is("in all", x.count(9), 8);
            is("weeks", x.weeks(60), 18);
            is("in all", x.count(9), 26);
        });
        edge(19, "full: all eight by 23 LINES", () -> {
            GrownPost x = lawful("a to a", "a", "a", "a", "a", "a", "a", "a", "a");
            is("weeks", x.weeks(60), 184);
            is("LINES", x.count(6), 192);
            is("LED of the last", x.line(7, 23, true), 22);
        });
    }

    private void weeksOfTheYear() {
        edge(19, "LINES that come have the WEEK ahead of that", () -> {
            GrownPost x = lawful("a to b;b to c", "a");
            x.weeks(2);
            is("the first", x.line(0, 1, true), 0);
            is("the second", x.line(0, 2, true), 1);
        });
        edge(19, "WEEK is 1 more behind all that: LETTERS of one WEEK see the same", () -> {
            GrownPost x = lawful("a to b if week < 1;a to c", "a", "a");
            x.weeks(1);
            due.lines("the first", x, 0, "ab");
            due.lines("the second", x, 1, "ab");
        });
        edge(19, "9999 at most", () -> {
            GrownPost x = lastWeek("a to a", "a");
            is("WEEK", x.count(4), 9999);
            is("weeks", x.weeks(2), 2);
            is("WEEK", x.count(4), 9999);
            is("LED", x.line(0, 2, true), 9999);
            is("weeks", x.weeks(60), 21);
            is("WEEK", x.count(4), 9999);
        });
        edge(19, "9998 and one more", () -> {
            GrownPost x = new GrownPost();
            Due.post(x, "week 998");
            for (int i = 0; i < 150; i++) {
                x.weeks(60);
            }
            is("WEEK", x.count(4), 9998);
            x.weeks(1);
            is("WEEK", x.count(4), 9999);
            x.weeks(1);
            is("WEEK", x.count(4), 9999);
        });
        edge(19, "winter from WEEK 39 to 51 within one call", () -> {
            GrownPost x = Due.world("week 30;" + lettersText("a"), "a to a if winter");
            is("weeks", x.weeks(60), 13);
            is("the first LED", x.line(0, 1, true), 39);
            is("the last LED", x.line(0, 13, true), 51);
        });
    }

    /** The first SEED from 0 on whose first DRAW modulo 100 is this, and whose second modulo 12 is no b. */
    private static int seedOf(int hundredth) {
        int seed = 0;
        while (draw(seed, 1) % 100 != hundredth || draw(seed, 2) % 12 == 1) {
            seed++;
        }
        return seed;
    }

    private static GrownPost slipping(int slip, int seed) {
        GrownPost x = Due.world("slip " + slip + ";" + lettersText("a"), "a to b");
        x.seed(seed);
        x.weeks(1);
        return x;
    }

    private void slips() {
        edge(19, "DRAW modulo 100 below SLIP: not the same", () -> {
            for (int hundredth : new int[] {1, 38, 50, 98, 99}) {
                int seed = seedOf(hundredth);
                is("SLIP " + hundredth, slipping(hundredth, seed).letter(0, 6), 1);
                is("SLIP " + (hundredth + 1), slipping(hundredth + 1, seed).letter(0, 6), draw(seed, 2) % 12);
            }
        });
        edge(19, "SLIP 0: never astray, by DRAW 0 neither; SLIP 1: by DRAW 0", () -> {
            int seed = seedOf(0);
            is("SLIP 0", slipping(0, seed).letter(0, 6), 1);
            is("SLIP 1", slipping(1, seed).letter(0, 6), draw(seed, 2) % 12);
        });
        edge(19, "SLIP 100: always astray, by DRAW 99 too", () -> {
            int seed = seedOf(99);
            is("SLIP 100", slipping(100, seed).letter(0, 6), draw(seed, 2) % 12);
        });
        edge(19, "DRAW modulo 12: 0 and 11", () -> {
            for (int kind : new int[] {0, 11}) {
                int seed = 0;
                while (draw(seed, 2) % 12 != kind) {
                    seed++;
                }
                is("the KIND", slipping(100, seed).letter(0, 6), kind);
            }
        });
        edge(19, "none DRAWN, if nothing FOLLOWS, there is no room, or it is OPEN", () -> {
            GrownPost x = Due.world("slip 100;" + lettersText("c", FULL, "a") + ";open 2;hot 1", "a to b");
            is("weeks", x.weeks(60), 0);
            is("SEED", x.seed(1), 1);
            due.lines("nothing FOLLOWS", x, 0, "c");
        });
        edge(19, "one DRAW for a LINE that does not go astray, two for one that does", () -> {
            is("SLIP 0", slipping(0, 1).seed(0), (int) seedAfter(1, 1));
            is("SLIP 100", slipping(100, 1).seed(0), (int) seedAfter(1, 2));
        });
        edge(19, "a HOT one with 23 LINES draws for one LINE alone", () -> {
            GrownPost x = Due.world("slip 100;" + lettersText(FULL.substring(1)) + ";hot 0", "a to a;" + "b to a;c to a;d to a;e to a;f to a;g to a;h to a;i to a;j to a;k to a");
            is("weeks", x.weeks(1), 1);
            is("SEED", x.seed(0), (int) seedAfter(1, 2));
        });
    }

    private void draws() {
        edge(19, "wrap-around: SEED as an int that goes round", () -> {
            for (int seed : new int[] {1, 0, -1, 2, MAX, MIN, 1103515245, -1103515245, 12345}) {
                GrownPost x = slipping(100, seed);
                is("KIND from SEED " + seed, x.letter(0, 6), draw(seed, 2) % 12);
                is("SEED from " + seed, x.seed(0), (int) seedAfter(seed, 2));
            }
        });
        edge(19, "bits 16 to 30: the highest bit does not count", () -> {
            for (int seed = 0; seed < 64; seed++) {
                boolean astray = draw(seed, 1) % 100 < 50;
                is("KIND from SEED " + seed, slipping(50, seed).letter(0, 6), astray ? draw(seed, 2) % 12 : 1);
            }
        });
        edge(19, "by numbers, a HOT one's two LINES one behind another", () -> {
            String law = "a to a;b to a;c to a;d to a;e to a;f to a;g to a;h to a;i to a;j to a;k to a;l to a";
            GrownPost x = Due.world("slip 100;" + lettersText("a", "a", "a") + ";hot 0;hot 2", law);
            is("weeks", x.weeks(2), 10);
            int n = 0;
            for (int week = 0; week < 2; week++) {
                for (int letter = 0; letter < 3; letter++) {
                    for (int i = 0; i < (letter == 1 ? 1 : 2); i++) {
                        n += 2;
                        int line = letter == 1 ? 1 + week : 1 + 2 * week + i;
                        is("letter " + letter + " line " + line, x.line(letter, line, false), draw(1, n) % 12);
                    }
                }
            }
            is("SEED", x.seed(0), (int) seedAfter(1, 20));
        });
        edge(19, "SEED 1 at first", () -> {
            GrownPost x = Due.world("slip 100;" + lettersText("a"), "a to b");
            x.weeks(1);
            is("KIND", x.letter(0, 6), 5758 % 12);
        });
    }
}
