/** Boundary cases of promises 20 to 26: AHEAD, SAYS, HOLDS, STOPS, STAYS, SEND, CUTS, OUT. */
final class AheadEdges extends Edges {
    AheadEdges(Due due, int[] told) {
        super(due, told);
    }

    @Override
    void tell() {
        aheadArguments();
        aheadAnswers();
        says();
        stops();
        stays();
        sendArguments();
        sends();
        cuts();
        outs();
    }

    private void aheadArguments() {
        edge(20, "no such LETTER: too small, too large", () -> {
            GrownPost x = letters("a", "b");
            noIndex("ahead", 2, i -> x.ahead(i, 0, 0));
        });
        edge(20, "N is none: below 0, above 40", () -> {
            GrownPost x = letters("a");
            for (int what = 0; what < 3; what++) {
                int w = what;
                noNumber("ahead", 0, 40, i -> x.ahead(0, i, w));
            }
        });
        edge(20, "another what: too small, too large", () -> {
            GrownPost x = letters("a");
            noWhat("ahead", 3, i -> x.ahead(0, 0, i));
        });
        edge(20, "of several exceptions: no such LETTER, then N, then what", () -> {
            GrownPost x = letters("a");
            noIndexFirst("ahead", () -> x.ahead(1, 41, 3));
            noIndexFirst("ahead", () -> x.ahead(-1, 0, 3));
            noIndexFirst("ahead", () -> x.ahead(1, -1, 0));
            noNumberFirst("ahead", () -> x.ahead(0, 41, 3));
            noNumberFirst("ahead", () -> x.ahead(0, -1, -1));
        });
        edge(20, "refused: nothing changes", () -> {
            refusedIndex(x -> x.ahead(2, 40, 0));
            refusedNumber(x -> x.ahead(0, 41, 0));
            refused(Edges::lived, java.util.NoSuchElementException.class, x -> x.ahead(0, 40, 3));
        });
    }

    private void aheadAnswers() {
        edge(20, "N 0: what it is", () -> {
            GrownPost x = lawful("a to b", "ca");
            is("KIND", x.ahead(0, 0, 0), 0);
            is("LINES", x.ahead(0, 0, 1), 2);
            is("WORDS", x.ahead(0, 0, 2), 6);
        });
        edge(20, "N 40: the 40th WEEK counts, a 41st does not", () -> {
            is("by 39", lawful(LATE, "a").ahead(0, 39, 0), 0);
            is("by 40", lawful(LATE, "a").ahead(0, 40, 0), 1);
            is("by 41", lawful(TOO_LATE, "a").ahead(0, 40, 0), 0);
        });
        edge(20, "an OPEN one stays as it is", () -> {
            GrownPost x = Due.world(lettersText("a") + ";hot 0;open 0", "a to b");
            is("KIND", x.ahead(0, 40, 0), 0);
            is("LINES", x.ahead(0, 40, 1), 1);
            is("WORDS", x.ahead(0, 40, 2), 3);
        });
        edge(20, "24 LINES, the most: of 1, of 23, of 24, HOT", () -> {
            GrownPost x = Due.world(lettersText("a", FULL.substring(1), FULL, "a") + ";hot 1;hot 3", "a to a;b to a");
            is("by 22", x.ahead(0, 22, 1), 23);
            is("by 23", x.ahead(0, 23, 1), 24);
            is("by 40", x.ahead(0, 40, 1), 24);
            is("of 23", x.ahead(1, 1, 1), 24);
            is("of 24", x.ahead(2, 40, 1), 24);
            is("HOT, by 11", x.ahead(3, 11, 1), 23);
            is("HOT, by 12", x.ahead(3, 12, 1), 24);
            is("WORDS", x.ahead(0, 40, 2), 72);
        });
        edge(20, "nothing going astray, by SLIP 100 neither, and no DRAW", () -> {
            GrownPost x = Due.world("slip 100;" + lettersText("a"), "a to b;b to b");
            is("KIND", x.ahead(0, 40, 0), 1);
            is("SEED", x.seed(1), 1);
            is("LINES", x.letter(0, 0), 1);
            is("WEEK", x.count(4), 0);
        });
        edge(20, "WEEK 9999 at most", () -> {
            GrownPost x = lastWeek("a to b if week > 999+999+999+999+999+999+999+999+999+999+9;a to c", "a");
            is("by 1", x.ahead(0, 1, 0), 2);
            GrownPost z = lastWeek("a to b if week > 999+999+999+999+999+999+999+999+999+999+9;a to a", "a");
            is("by 40", z.ahead(0, 40, 0), 0);
            GrownPost y = lastWeek("a to a if week > 999+999+999+999+999+999+999+999+999+999+8;a to c", "a");
            is("by 3", y.ahead(0, 3, 0), 0);
            is("by 3", y.ahead(0, 3, 1), 4);
        });
    }

    private void says() {
        edge(21, "no such LETTER, no such KIND: too small, too large", () -> {
            GrownPost x = letters("a", "b");
            noIndex("says, LETTER", 2, i -> x.says(i, 0, false));
            noIndex("holds, LETTER", 2, i -> x.says(i, 0, true));
            noIndex("says, KIND", 12, i -> x.says(0, i, false));
            noIndex("holds, KIND", 12, i -> x.says(0, i, true));
        });
        edge(21, "N 0: it does now", () -> {
            GrownPost x = lawful("l to b", "al");
            is("says", x.says(0, 11, false), 0);
            is("holds", x.says(0, 0, true), 0);
            is("says not what another LINE is", x.says(0, 0, false), NONE);
        });
        edge(21, "N 40, the last; NONE by 41", () -> {
            is("says by 40", lawful(LATE, "a").says(0, 1, false), 40);
            is("holds by 40", lawful(LATE, "a").says(0, 1, true), 40);
            is("says by 41", lawful(TOO_LATE, "a").says(0, 1, false), NONE);
            is("holds by 41", lawful(TOO_LATE, "a").says(0, 1, true), NONE);
        });
        edge(21, "NONE: never", () -> {
            GrownPost x = lawful("a to b", "a");
            is("says", x.says(0, 11, false), NONE);
            is("holds", x.says(0, 11, true), NONE);
        });
        edge(21, "a HOT one's first LINE of a WEEK it HOLDS, but SAYS not", () -> {
            GrownPost x = Due.world(lettersText("a") + ";hot 0", "a to b;b to c");
            is("says b", x.says(0, 1, false), NONE);
            is("holds b", x.says(0, 1, true), 1);
            is("says c", x.says(0, 2, false), 1);
        });
        edge(21, "the first N: of several", () -> {
            GrownPost x = lawful("a to b;b to a", "a");
            is("says b", x.says(0, 1, false), 1);
            is("says a", x.says(0, 0, false), 0);
        });
        edge(21, "the KIND of a 24th LINE; of a 25th, never", () -> {
            String law = "a to b if length > 22;b to c;a to a";
            is("the 24th", lawful(law, "a").says(0, 1, true), 23);
            is("the 25th", lawful(law, "a").says(0, 2, true), NONE);
        });
        edge(21, "refused: nothing changes", () -> {
            refusedIndex(x -> x.says(2, 0, false));
            refusedIndex(x -> x.says(0, 12, true));
        });
    }

    private void stops() {
        edge(22, "no such LETTER: too small, too large", () -> {
            GrownPost x = letters("a", "b");
            noIndex("stops", 2, x::stops);
        });
        edge(22, "N 0: OPEN, 24 LINES, or nothing FOLLOWS now", () -> {
            GrownPost x = Due.world(lettersText("a", FULL, "b", "a") + ";open 0", "a to a if week < 1 and length < 2 or length > 20");
            is("OPEN", x.stops(0), 0);
            is("24 LINES", x.stops(1), 0);
            is("nothing FOLLOWS", x.stops(2), 0);
            is("in the WEEK behind", x.stops(3), 1);
            is("without THE LAW", letters("a").stops(0), 0);
        });
        edge(22, "by 23 of 1 LINE, the latest there is", () -> {
            is("of 1", lawful("a to a", "a").stops(0), 23);
            is("of 23", lawful("a to a", FULL.substring(1)).stops(0), 1);
            is("HOT, of 1", Due.world(lettersText("a") + ";hot 0", "a to a").stops(0), 12);
            is("HOT, of 2", Due.world(lettersText("aa") + ";hot 0", "a to a").stops(0), 11);
        });
        edge(22, "the first N: though it would GROW again", () -> {
            GrownPost x = lawful("a to a if week < 3 or week > 4", "a");
            is("stops", x.stops(0), 3);
            is("not yet", lawful("a to a if week > 0", "a").stops(0), 0);
        });
        edge(22, "in the WEEK that begins then, not in the one ahead of it", () -> {
            GrownPost x = Due.world("week 50;" + lettersText("a"), "a to a if winter");
            is("50 and 51 are winter", x.stops(0), 2);
        });
        edge(22, "refused: nothing changes", () -> refusedIndex(x -> x.stops(2)));
    }

    private void stays() {
        edge(23, "no such LETTER, no such KIND: too small, too large", () -> {
            GrownPost x = letters("a", "b");
            noIndex("stays, LETTER", 2, i -> x.stays(i, 0));
            noIndex("stays, KIND", 12, i -> x.stays(0, i));
        });
        edge(23, "0 without", () -> {
            is("never", lawful("a to b", "a").stays(0, 2), 0);
            is("by 41 alone", lawful(TOO_LATE, "a").stays(0, 1), 0);
            is("another LINE", lawful("", "la").stays(0, 11), 0);
        });
        edge(23, "40 the last: 1 from 40 on, 41 from 0 on", () -> {
            is("from 40 on", lawful(LATE, "a").stays(0, 1), 1);
            is("up to 39", lawful(LATE, "a").stays(0, 0), 40);
            is("from 0 on", lawful("", "a").stays(0, 0), 41);
            is("up to 40", lawful(TOO_LATE, "a").stays(0, 0), 41);
        });
        edge(23, "one alone, now and later", () -> {
            GrownPost x = lawful("a to b;b to c", "a");
            is("now", x.stays(0, 0), 1);
            is("later", x.stays(0, 1), 1);
            is("to the last", x.stays(0, 2), 39);
        });
        edge(23, "one behind another: from the first on, a later stay does not count", () -> {
            GrownPost x = lawful("a to b if week < 1;b to a if week < 2;a to c if week > 5", "a");
            is("a", x.stays(0, 0), 1);
            is("b", x.stays(0, 1), 1);
        });
        edge(23, "refused: nothing changes", () -> {
            refusedIndex(x -> x.stays(2, 0));
            refusedIndex(x -> x.stays(0, 12));
        });
    }

    private void sendArguments() {
        edge(24, "no such KIND: too small, too large", () -> {
            GrownPost x = new GrownPost();
            noIndex("send", 12, i -> x.send(0, 0, i, 0, false));
            noIndex("how many", 12, i -> x.send(0, 0, i, 0, true));
        });
        edge(24, "SENDER is none: below 0, above 9", () -> {
            GrownPost x = new GrownPost();
            noNumber("send", 0, 9, i -> x.send(i, 0, 0, 0, false));
            noNumber("how many", 0, 9, i -> x.send(i, 0, 0, 0, true));
        });
        edge(24, "TEMPER is none: below 0, above 9", () -> {
            GrownPost x = new GrownPost();
            noNumber("send", 0, 9, i -> x.send(0, i, 0, 0, false));
            noNumber("how many", 0, 9, i -> x.send(0, i, 0, 0, true));
        });
        edge(24, "N is none: below 0, above 40", () -> {
            GrownPost x = new GrownPost();
            noNumber("send", 0, 40, i -> x.send(0, 0, 0, i, false));
            noNumber("how many", 0, 40, i -> x.send(0, 0, 0, i, true));
        });
        edge(24, "of two exceptions: no such KIND goes first", () -> {
            GrownPost x = new GrownPost();
            noIndexFirst("send", () -> x.send(10, 0, 12, 0, false));
            noIndexFirst("send", () -> x.send(0, -1, -1, 0, false));
            noIndexFirst("send", () -> x.send(0, 0, 12, 41, true));
        });
        edge(24, "refused: nothing changes", () -> {
            refusedIndex(x -> x.send(0, 0, 12, 0, false));
            refusedNumber(x -> x.send(0, 0, 0, 41, true));
            refusedNumber(x -> x.send(10, 0, 0, 0, true));
        });
    }

    private void sends() {
        edge(24, "SENDER and TEMPER 0 and 9", () -> {
            GrownPost x = lawful("a to b if sender < 1 and temper > 8;a to c if sender > 8 and temper < 1");
            is("0 and 9", x.send(0, 9, 1, 1, true), 13 + 13);
            is("9 and 0", x.send(9, 0, 2, 1, true), 13 + 13);
            is("9 and 9", x.send(9, 9, 1, 1, true), 13);
        });
        edge(24, "a single one: 0, the first, and 11, the last", () -> {
            GrownPost x = new GrownPost();
            is("a", x.send(0, 0, 0, 0, false), 0);
            is("l", x.send(0, 0, 11, 0, false), 11);
        });
        edge(24, "two: 12, the first, and 155, the last", () -> {
            is("aa", lawful("a to b if before < 1;b to c").send(0, 0, 2, 2, false), 1);
            is("aa", lawful("a to c if before < 1").send(0, 0, 2, 1, true), 14);
            is("aa alone", lawful("a to l if before < 1;l to k;b to l if before < 12").send(0, 0, 11, 1, false), 12);
            is("ll alone", lawful("l to a if before > 10 and before < 12;a to b").send(0, 0, 0, 1, false), 155);
            is("al", lawful("l to b if before < 1;b to c").send(0, 0, 1, 1, false), 23);
            is("la", lawful("a to b if before > 10 and before < 12;b to c").send(0, 0, 1, 1, false), 144);
        });
        edge(24, "NONE, and 0 of them", () -> {
            GrownPost x = lawful("a to b");
            is("send", x.send(0, 0, 0, 1, false), NONE);
            is("how many", x.send(0, 0, 0, 1, true), 0);
        });
        edge(24, "all 156 rows", () -> {
            String law = "a to l;b to l;c to l;d to l;e to l;f to l;g to l;h to l;i to l;j to l;k to l;l to l";
            is("how many", lawful(law).send(0, 0, 11, 1, true), 156);
            is("how many, 40", lawful(law).send(0, 0, 11, 40, true), 156);
            is("send", lawful(law).send(0, 0, 11, 1, false), 0);
        });
        edge(24, "N 0: rows as they are", () -> is("how many", lawful("a to b").send(0, 0, 0, 0, true), 13));
        edge(24, "N 40: the 40th WEEK counts, a 41st does not", () -> {
            is("by 39", lawful(LATE).send(0, 0, 1, 39, true), 13);
            is("by 40", lawful(LATE).send(0, 0, 1, 40, true), 26);
            is("by 41", lawful(TOO_LATE).send(0, 0, 1, 40, true), 13);
        });
        edge(24, "SEALED, not HOT", () -> {
            is("not HOT", lawful("a to b if hot").send(0, 0, 1, 1, false), 1);
            is("one LINE a WEEK", lawful("a to b;b to c").send(0, 0, 1, 1, false), 0);
        });
        edge(24, "written now: in the last WEEK, before 12 without", () -> {
            is("WEEK", lastWeek("a to b if week > 999").send(0, 0, 1, 1, false), 0);
            is("before", lawful("a to b if before > 11").send(0, 0, 1, 1, true), 1 + 13);
        });
        edge(24, "full: with eight LETTERS there it answers, and none is written", () -> {
            GrownPost x = crowded();
            is("send", x.send(0, 0, 11, 0, false), 11);
            is("LETTERS", x.count(0), 8);
        });
    }

    private void cuts() {
        edge(25, "no such LETTER, no such KIND: too small, too large", () -> {
            GrownPost x = letters("ab", "b");
            noIndex("cuts, LETTER", 2, i -> x.cuts(i, 0, 0, false));
            noIndex("cuts, KIND", 12, i -> x.cuts(0, i, 0, false));
            noIndex("cuts, KIND, other", 12, i -> x.cuts(0, i, 0, true));
        });
        edge(25, "N is none: below 0, above 40", () -> {
            GrownPost x = letters("ab");
            noNumber("cuts", 0, 40, i -> x.cuts(0, 0, i, false));
            noNumber("cuts, other", 0, 40, i -> x.cuts(0, 0, i, true));
        });
        edge(25, "of two exceptions: no such LETTER or KIND goes first", () -> {
            GrownPost x = letters("ab");
            noIndexFirst("cuts", () -> x.cuts(1, 0, 41, false));
            noIndexFirst("cuts", () -> x.cuts(0, 12, -1, false));
        });
        edge(25, "no LINE, 0, if it is so", () -> {
            GrownPost x = letters("ab");
            is("is", x.cuts(0, 1, 0, false), 0);
            is("is not", x.cuts(0, 0, 0, true), 0);
        });
        edge(25, "one stays: all but one of 24 at most", () -> {
            GrownPost x = letters("b" + FULL.substring(1), "b", "a" + "b".repeat(23));
            is("the first", x.cuts(0, 1, 0, false), 23);
            is("one LINE, is", x.cuts(1, 1, 0, false), 0);
            is("one LINE, is not", x.cuts(1, 1, 0, true), NONE);
            is("is not", x.cuts(2, 1, 0, true), 23);
        });
        edge(25, "NONE", () -> {
            GrownPost x = letters("ab", "aa");
            is("is", x.cuts(0, 2, 0, false), NONE);
            is("is not", x.cuts(1, 0, 0, true), NONE);
        });
        edge(25, "N 0 and N 40", () -> {
            is("by 0", lawful("a to b", "a").cuts(0, 1, 0, false), NONE);
            is("by 39", lawful(LATE, "a").cuts(0, 1, 39, false), NONE);
            is("by 40", lawful(LATE, "a").cuts(0, 1, 40, false), 0);
            is("by 41", lawful(TOO_LATE, "a").cuts(0, 1, 40, false), NONE);
        });
        edge(25, "a full one GROWS, when LINES are cut", () -> {
            GrownPost x = lawful("a to b", FULL);
            is("in a WEEK", x.cuts(0, 1, 1, false), 1);
        });
        edge(25, "refused: nothing changes", () -> {
            refusedIndex(x -> x.cuts(2, 0, 0, false));
            refusedIndex(x -> x.cuts(0, 12, 0, false));
            refusedNumber(x -> x.cuts(0, 0, 41, false));
        });
    }

    private void outs() {
        edge(26, "no such LETTER, no such KIND: too small, too large", () -> {
            GrownPost x = letters("ab", "b");
            noIndex("out, LETTER", 2, i -> x.out(i, 0, 0, false));
            noIndex("out, KIND", 12, i -> x.out(0, i, 0, false));
            noIndex("out, KIND, other", 12, i -> x.out(0, i, 0, true));
        });
        edge(26, "N is none: below 0, above 40", () -> {
            GrownPost x = letters("ab", "b");
            noNumber("out", 0, 40, i -> x.out(0, 0, i, false));
            noNumber("out of one LINE", 0, 40, i -> x.out(1, 0, i, true));
        });
        edge(26, "of two exceptions: no such LETTER or KIND goes first", () -> {
            GrownPost x = letters("ab");
            noIndexFirst("out", () -> x.out(1, 0, 41, false));
            noIndexFirst("out", () -> x.out(0, 12, -1, false));
        });
        edge(26, "not if it has but one", () -> {
            GrownPost x = letters("a");
            is("is", x.out(0, 0, 0, false), 0);
            is("is not", x.out(0, 0, 0, true), 0);
            is("is not", x.out(0, 1, 40, true), 0);
        });
        edge(26, "LINE 0 is 1, of two: each alone", () -> {
            GrownPost x = letters("ab");
            is("b stays", x.out(0, 1, 0, false), 1);
            is("a stays", x.out(0, 0, 0, false), 2);
            is("no a stays", x.out(0, 0, 0, true), 1);
        });
        edge(26, "LINE 23 is the highest bit, of 24; all of them", () -> {
            GrownPost x = letters(FULL.substring(1) + "b", FULL);
            is("the last", x.out(0, 0, 0, false), 1 << 23);
            is("the others", x.out(0, 1, 0, false), (1 << 23) - 1);
            is("all", x.out(1, 0, 0, false), (1 << 24) - 1);
            is("none", x.out(1, 0, 0, true), 0);
        });
        edge(26, "Sets of none: 0", () -> is("out", letters("ab").out(0, 2, 0, false), 0));
        edge(26, "N 40: the 40th WEEK counts, a 41st does not", () -> {
            is("by 39", lawful(LATE, "aa").out(0, 1, 39, false), 0);
            is("by 40", lawful(LATE, "aa").out(0, 1, 40, false), 3);
            is("by 41", lawful(TOO_LATE, "aa").out(0, 1, 40, false), 0);
        });
        edge(26, "refused: nothing changes", () -> {
            refusedIndex(x -> x.out(2, 0, 0, false));
            refusedNumber(x -> x.out(0, 0, 41, false));
        });
    }
}
