import java.nio.charset.StandardCharsets;

/** Boundary cases of promises 1 to 6, and of the terms that texts are told in. */
final class TextEdges extends Edges {
    private static final String LETTER = "letter from 1 temper 2 a";

    TextEdges(Due due, int[] told) {
        super(due, told);
    }

    @Override
    void tell() {
        newObjects();
        feeding();
        ending();
        postEmpty();
        postRows();
        postNumbers();
        postMarks();
        postWeeks();
        postTooMany();
        postWords();
        postNeedsMore();
        postRefused();
        lawEmpty();
        lawLines();
        lawNumbers();
        lawDeep();
        lawNeedsMore();
        lawRefused();
        faults();
    }

    private void newObjects() {
        edge(1, "empty: No LETTER", () -> {
            GrownPost x = new GrownPost();
            is("LETTERS", x.count(0), 0);
            is("LINES", x.count(6), 0);
            noIndex("letter", 0, i -> x.letter(i, 0));
        });
        edge(1, "empty: what is asked of all LETTERS", () -> {
            GrownPost x = new GrownPost();
            is("drawer", x.drawer(), NONE);
            is("spies of 0 WORDS", x.spies(0), 0);
            is("shelves", x.shelves(1, 40, false), 0);
            is("trial", x.trial(40, NONE), 0);
            is("span", x.span(40, false), 0);
            is("latest", x.latest(0), NONE);
            is("OPEN ones", x.count(7), 0);
            is("HOT ones", x.count(8), 0);
        });
        edge(1, "NONE is -1", () -> is("NONE", GrownPost.NONE, -1));
        edge(1, "at first: WORDS 3, WEEK 0, SLIP 0, SEED 1", () -> {
            GrownPost x = new GrownPost();
            for (int kind = 0; kind < 12; kind++) {
                is("words", x.words(kind), 3);
            }
            is("WEEK", x.count(4), 0);
            is("SLIP", x.count(5), 0);
            is("SEED", x.seed(1), 1);
        });
        edge(1, "empty: no PROMISE, text, LAW, ACT, fault, THE IMAGE, nothing on the TAPE", () -> {
            GrownPost x = new GrownPost();
            is("PROMISES", x.count(1), 0);
            is("texts", x.count(2), 0);
            is("THE LAW", x.count(3), NONE);
            is("LINES that came", x.count(9), 0);
            is("ACTS", x.count(10), 0);
            is("fault", x.fault(), NONE);
            is("undo", x.undo(), false);
            is("back", x.back(), false);
            is("end 1", x.end(1), false);
        });
        edge(1, "at most 512 calls: the 512th is answered", () -> {
            GrownPost x = new GrownPost();
            for (int i = 1; i <= 511; i++) {
                x.seed(i);
            }
            is("the 512th", x.seed(0), 511);
        });
    }

    private static void fill(GrownPost x, int number, int times) {
        for (int i = 0; i < times; i++) {
            x.feed(number, number, number, number, number);
        }
    }

    private void feeding() {
        edge(2, "empty: twenty bytes behind none", () -> is("feed", new GrownPost().feed(0, 0, 0, 0, 0), 20));
        edge(2, "full: 400 bytes", () -> {
            GrownPost x = new GrownPost();
            fill(x, 0, 19);
            is("the last that fit", x.feed(0, 0, 0, 0, 0), 400);
            is("all are there", x.end(400), true);
        });
        edge(2, "too many: 401 would be more than 400", () -> {
            GrownPost x = new GrownPost();
            fill(x, 0, 20);
            x.end(381);
            is("feed behind 381", x.feed(0, 0, 0, 0, 0), NONE);
            x.end(380);
            is("feed behind 380", x.feed(0, 0, 0, 0, 0), 400);
        });
        edge(2, "refused: NONE, and none come, behind 400", () -> {
            GrownPost x = new GrownPost();
            fill(x, 0x20202020, 20);
            is("feed", x.feed(0x7a7a7a7a, 0x7a7a7a7a, 0x7a7a7a7a, 0x7a7a7a7a, 0x7a7a7a7a), NONE);
            is("end 401", x.end(401), false);
            is("blanks alone", x.post(), 1);
        });
        edge(2, "refused: NONE, and none come, behind 381", () -> {
            GrownPost x = new GrownPost();
            fill(x, 0x20202020, 20);
            x.end(381);
            is("feed", x.feed(0x7a7a7a7a, 0x7a7a7a7a, 0x7a7a7a7a, 0x7a7a7a7a, 0x7a7a7a7a), NONE);
            is("end 382", x.end(382), false);
            is("end 381", x.end(381), true);
            is("blanks alone", x.post(), 1);
        });
        edge(2, "of each number the highest first", () -> {
            GrownPost x = new GrownPost();
            x.feed(0x00010203, 0x04050607, 0x08090a0b, 0x0b0a0908, 0x07060504);
            x.write(0, 0);
            due.lines("KINDS", x, 0, "abcdefghijkllkjihgfe");
        });
        edge(2, "wrap-around: a number below 0 has four bytes like others", () -> {
            for (int at = 0; at < 4; at++) {
                GrownPost x = new GrownPost();
                int high = 0x20202020 ^ (0x20 ^ 0x80 + at) << 24 - 8 * at;
                x.feed(high, 0x20202020, 0x20202020, 0x20202020, 0x20202020);
                due.noNumber("post", x::post);
                is("fault", x.fault(), at);
            }
            GrownPost x = new GrownPost();
            is("feed", x.feed(-1, MIN, MAX, -1, -1), 20);
        });
        edge(2, "behind the TAPE: behind one that was cut", () -> {
            GrownPost x = new GrownPost();
            x.feed(0x00010203, 0, 0, 0, 0);
            x.end(2);
            is("feed", x.feed(0x0b0a0908, 0, 0, 0, 0), 22);
            x.end(6);
            x.write(0, 0);
            due.lines("KINDS", x, 0, "ablkji");
        });
    }

    private void ending() {
        edge(3, "too large: fewer than n, false, and nothing happens", () -> {
            GrownPost x = new GrownPost();
            x.feed(0x01020000, 0, 0, 0, 0);
            is("end 21", x.end(21), false);
            is("end most", x.end(MAX), false);
            is("end 20", x.end(20), true);
            x.end(2);
            x.write(0, 0);
            due.lines("KINDS", x, 0, "bc");
        });
        edge(3, "too small: n below 0, false, and nothing happens", () -> {
            GrownPost x = new GrownPost();
            x.feed(0x01020000, 0, 0, 0, 0);
            is("end -1", x.end(-1), false);
            is("end least", x.end(MIN), false);
            is("end 20", x.end(20), true);
        });
        edge(3, "empty: 0 of none, and 1 of none", () -> {
            GrownPost x = new GrownPost();
            is("end 0", x.end(0), true);
            is("end 1", x.end(1), false);
            is("end -1", x.end(-1), false);
        });
        edge(3, "empty: 0 of twenty", () -> {
            GrownPost x = new GrownPost();
            x.feed(0, 0, 0, 0, 0);
            is("end 0", x.end(0), true);
            is("end 1", x.end(1), false);
        });
        edge(3, "full: 400 of 400, 401 not", () -> {
            GrownPost x = new GrownPost();
            fill(x, 0, 20);
            is("end 401", x.end(401), false);
            is("end 400", x.end(400), true);
            is("end 399", x.end(399), true);
            is("end 400", x.end(400), false);
        });
    }

    private void postEmpty() {
        edge(4, "empty: an empty text has no LINE, and is a text", () -> {
            GrownPost x = new GrownPost();
            due.rightPost(x, "", 1);
            due.rightPost(x, "", 2);
            is("texts", x.count(2), 2);
        });
        edge(4, "empty: blanks alone have no LINE", () -> {
            GrownPost x = new GrownPost();
            due.rightPost(x, " ", 1);
            due.rightPost(x, " ".repeat(400), 2);
        });
        edge(4, "full: a text of 400 bytes", () -> {
            GrownPost x = new GrownPost();
            due.rightPost(x, " ".repeat(392) + "slip 100", 1);
            is("SLIP", x.count(5), 100);
            due.rightPost(x, lettersText(FULL, FULL, FULL, FULL, FULL, FULL, FULL, FULL) + ";open 7  ;hot 7  ", 2);
            is("OPEN", x.count(7), 128);
            is("HOT", x.count(8), 128);
        });
        edge(4, "full: a text of 400 bytes, wrong at its last byte, and at its length", () -> {
            GrownPost x = new GrownPost();
            due.wrongPost(x, " ".repeat(399) + "z", 399);
            due.wrongPost(x, " ".repeat(396) + "slip", 400);
        });
        edge(4, "refused: a wrong text uses the TAPE up", () -> {
            GrownPost x = new GrownPost();
            Due.put(x, "slip 1;slip");
            due.noNumber("post", x::post);
            is("end 1", x.end(1), false);
        });
        edge(4, "a right text uses the TAPE up", () -> {
            GrownPost x = new GrownPost();
            due.rightPost(x, "slip 1", 1);
            is("end 1", x.end(1), false);
        });
    }

    private void postRows() {
        edge(4, "KINDS, 1 to 24, least: 1", () -> {
            GrownPost x = new GrownPost();
            due.rightPost(x, LETTER, 1);
            due.lines("LINES", x, 0, "a");
        });
        edge(4, "KINDS, 1 to 24, most: 24", () -> {
            GrownPost x = new GrownPost();
            due.rightPost(x, "letter from 1 temper 2 abcdefghijklabcdefghijkl", 1);
            due.lines("LINES", x, 0, "abcdefghijklabcdefghijkl");
        });
        edge(4, "KINDS, 1 to 24, too many: 25", () ->
                due.wrongPost(new GrownPost(), "letter from 1 temper 2 abcdefghijklabcdefghijkla", 23));
        edge(4, "KINDS, 1 to 24, too few: none", () -> {
            due.wrongPost(new GrownPost(), "letter from 1 temper 2", 22);
            due.wrongPost(new GrownPost(), "letter from 1 temper 2;slip 1", 22);
        });
        edge(4, "KINDS of a to l: 0 to 11", () -> {
            GrownPost x = new GrownPost();
            due.rightPost(x, "letter from 1 temper 2 al", 1);
            is("a", x.line(0, 0, false), 0);
            is("l", x.line(0, 1, false), 11);
        });
        edge(4, "KINDS of a to l: what stands ahead of a and behind l is none", () -> {
            for (String row : new String[] {"m", "am", "ma", "z", "aza", "`", "{", "A", "0", "0a", FULL.substring(1) + "m"}) {
                due.wrongPost(new GrownPost(), "letter from 1 temper 2 " + row, 23);
            }
        });
        edge(4, "KINDS one behind another without blanks", () -> due.wrongPost(new GrownPost(), LETTER + " b", 25));
        edge(4, "K: one such, a and l; m, two of them, none are none", () -> {
            GrownPost x = new GrownPost();
            due.rightPost(x, "words a 1;words l 2;promise a l", 1);
            is("words a", x.words(0), 1);
            is("words l", x.words(11), 2);
            due.wrongPost(x, "words m 1", 6);
            due.wrongPost(x, "words ab 1", 6);
            due.wrongPost(x, "words 1", 6);
            due.wrongPost(x, "words ` 1", 6);
            due.wrongPost(x, "promise m a", 8);
            due.wrongPost(x, "promise aa", 8);
            due.wrongPost(x, "promise a m", 10);
            due.wrongPost(x, "promise a ll", 10);
            due.wrongPost(x, "promise a;", 9);
        });
        edge(4, "its LINES came in the WEEK as it is by then", () -> {
            GrownPost x = new GrownPost();
            due.rightPost(x, LETTER + ";week 5;" + LETTER + "b;week 999;" + LETTER, 1);
            is("ahead of the week", x.line(0, 0, true), 0);
            is("behind it, the first", x.line(1, 0, true), 5);
            is("behind it, the last", x.line(1, 1, true), 5);
            is("behind the last", x.line(2, 0, true), 999);
        });
        edge(4, "a LETTER told is SEALED, not HOT", () -> {
            GrownPost x = new GrownPost();
            due.rightPost(x, LETTER, 1);
            is("OPEN", x.letter(0, 3), 0);
            is("HOT", x.letter(0, 4), 0);
        });
    }

    private void postNumbers() {
        edge(4, "a SENDER 0 to 9", () -> {
            GrownPost x = new GrownPost();
            due.rightPost(x, "letter from 0 temper 5 a;letter from 9 temper 5 a", 1);
            is("least", x.letter(0, 2), 0);
            is("most", x.letter(1, 2), 9);
            due.wrongPost(x, "letter from 10 temper 5 a", 12);
            due.wrongPost(x, "letter from -1 temper 5 a", 12);
            due.wrongPost(x, "letter from temper 5 a", 12);
        });
        edge(4, "TEMPER 0 to 9", () -> {
            GrownPost x = new GrownPost();
            due.rightPost(x, "letter from 5 temper 0 a;letter from 5 temper 9 a", 1);
            is("least", x.letter(0, 1), 0);
            is("most", x.letter(1, 1), 9);
            due.wrongPost(x, "letter from 5 temper 10 a", 21);
            due.wrongPost(x, "letter from 5 temper -1 a", 21);
            due.wrongPost(x, "letter from 5 temper a", 21);
        });
        edge(4, "WORDS 1 to 9", () -> {
            GrownPost x = new GrownPost();
            due.rightPost(x, "words c 1;words d 9", 1);
            is("least", x.words(2), 1);
            is("most", x.words(3), 9);
            due.wrongPost(x, "words c 0", 8);
            due.wrongPost(x, "words c 10", 8);
            is("of a wrong text nothing stays", x.words(2), 1);
        });
        edge(4, "SLIP 0 to 100", () -> {
            GrownPost x = new GrownPost();
            due.rightPost(x, "slip 100", 1);
            is("most", x.count(5), 100);
            due.wrongPost(x, "slip 101", 5);
            due.wrongPost(x, "slip -1", 5);
            is("stays", x.count(5), 100);
            due.rightPost(x, "slip 0", 2);
            is("least", x.count(5), 0);
        });
        edge(4, "Numbers are of 1 to 3 digits", () -> {
            GrownPost x = new GrownPost();
            due.rightPost(x, "slip 1;slip 02;slip 003;letter from 009 temper 000 a;hot 000;words a 09;week 007", 1);
            is("SLIP", x.count(5), 3);
            is("SENDER", x.letter(0, 2), 9);
            is("HOT", x.letter(0, 4), 1);
            is("WORDS", x.words(0), 9);
            is("WEEK", x.count(4), 7);
        });
        edge(4, "a number of more digits: its begin", () -> {
            GrownPost x = new GrownPost();
            due.wrongPost(x, "slip 0001", 5);
            due.wrongPost(x, "letter from 0001 temper 1 a", 12);
            due.wrongPost(x, "letter from 1 temper 0001 a", 21);
            due.wrongPost(x, "words a 0001", 8);
            due.wrongPost(x, LETTER + ";hot 0000", 29);
            due.wrongPost(x, LETTER + ";open 0000", 30);
            due.wrongPost(x, "week 0000", 5);
            due.wrongPost(x, "slip 4294967296", 5);
            due.wrongPost(x, "slip 18446744073709551617", 5);
        });
        edge(4, "a number of more digits: its begin, where no number can stand", () -> {
            due.wrongPost(new GrownPost(), "0000", 0);
            due.wrongPost(new GrownPost(), "slip 1 0000", 7);
            due.wrongPost(new GrownPost(), "slip 1;0000", 7);
            due.wrongPost(new GrownPost(), "slip 1 1", 7);
        });
        edge(4, "a number out of its bounds: its begin", () -> {
            due.wrongPost(new GrownPost(), "slip 999", 5);
            due.wrongPost(new GrownPost(), "  slip  101 ; slip 1", 8);
        });
    }

    private void postMarks() {
        edge(4, "hot L: the last LETTER that there is by then, not the next", () -> {
            GrownPost x = letters("a", "a");
            due.rightPost(x, "hot 1", 2);
            is("HOT", x.count(8), 2);
            due.wrongPost(x, "hot 2", 4);
            due.rightPost(x, LETTER + ";hot 2", 3);
            is("HOT", x.count(8), 6);
            due.wrongPost(x, "hot 3;" + LETTER, 4);
        });
        edge(4, "open L: the last LETTER that there is by then, not the next", () -> {
            GrownPost x = letters("a", "a");
            due.rightPost(x, "open 1", 2);
            is("OPEN", x.count(7), 2);
            due.wrongPost(x, "open 2", 5);
            due.rightPost(x, LETTER + ";open 2", 3);
            is("OPEN", x.count(7), 6);
            due.wrongPost(x, "open 3;" + LETTER, 5);
        });
        edge(4, "hot L, open L: the eighth of eight", () -> {
            GrownPost x = letters("a", "a", "a", "a", "a", "a", "a", "a");
            due.rightPost(x, "hot 7;open 7", 2);
            is("HOT", x.count(8), 128);
            is("OPEN", x.count(7), 128);
            due.wrongPost(x, "hot 8", 4);
            due.wrongPost(x, "open 8", 5);
        });
        edge(4, "hot L, open L: without LETTERS none is one", () -> {
            due.wrongPost(new GrownPost(), "hot 0", 4);
            due.wrongPost(new GrownPost(), "open 0", 5);
        });
        edge(4, "hot L, open L: not one that is burnt", () -> {
            GrownPost x = letters("a", "a");
            x.burn(0);
            due.wrongPost(x, "hot 1", 4);
            due.rightPost(x, "open 0", 2);
        });
        edge(4, "hot L, open L: again, it stays so", () -> {
            GrownPost x = letters("a");
            due.rightPost(x, "hot 0;hot 0;open 0;open 0", 2);
            is("HOT", x.letter(0, 4), 1);
            is("OPEN", x.letter(0, 3), 1);
        });
    }

    private void postWeeks() {
        edge(4, "N of week: 0, the least", () -> {
            GrownPost x = new GrownPost();
            due.rightPost(x, "week 0", 1);
            is("WEEK", x.count(4), 0);
        });
        edge(4, "N of week: 999, the most", () -> {
            GrownPost x = new GrownPost();
            due.rightPost(x, "week 999", 1);
            is("WEEK", x.count(4), 999);
            due.wrongPost(x, "week 1000", 5);
        });
        edge(4, "N of week: not below what WEEK is by then", () -> {
            GrownPost x = new GrownPost();
            due.rightPost(x, "week 7", 1);
            due.wrongPost(x, "week 6", 5);
            due.rightPost(x, "week 7", 2);
            due.wrongPost(x, "week 9;week 8", 12);
            is("WEEK", x.count(4), 7);
            due.rightPost(x, "week 8;week 8;week 9", 3);
            is("WEEK", x.count(4), 9);
        });
        edge(4, "N of week: none any more, when WEEK is above 999", () -> {
            GrownPost x = new GrownPost();
            due.rightPost(x, "week 999", 1);
            due.rightPost(x, "week 999", 2);
            x.weeks(1);
            is("WEEK", x.count(4), 1000);
            due.wrongPost(x, "week 999", 5);
            due.wrongPost(x, "week 1000", 5);
        });
    }

    private void postTooMany() {
        String line = "slip 1";
        String most = (line + ";").repeat(13) + line;
        edge(4, "LINES, full: 14 of a text", () -> {
            GrownPost x = new GrownPost();
            due.rightPost(x, (line + ";").repeat(13) + "slip 7", 1);
            is("the 14th", x.count(5), 7);
        });
        edge(4, "LINES, too many: the first word of the 15th", () -> {
            due.wrongPost(new GrownPost(), most + ";slip 1", 98);
            due.wrongPost(new GrownPost(), most + " ;  slip 1", 101);
            due.wrongPost(new GrownPost(), most + ";slip 101", 98);
            due.wrongPost(new GrownPost(), most + ";slip 1;zzz", 98);
        });
        edge(4, "LINES, full, and ; behind: the text's length", () -> {
            due.wrongPost(new GrownPost(), most + ";", 98);
            due.wrongPost(new GrownPost(), most + ";  ", 100);
        });
        edge(4, "LETTERS, full: eight by one text, and by several", () -> {
            GrownPost x = new GrownPost();
            due.rightPost(x, (LETTER + ";").repeat(7) + LETTER + "b", 1);
            is("LETTERS", x.count(0), 8);
            due.lines("the eighth", x, 7, "ab");
            GrownPost y = letters("a", "a", "a", "a", "a", "a", "a");
            due.rightPost(y, LETTER, 2);
            is("LETTERS", y.count(0), 8);
        });
        edge(4, "LETTERS, too many: the first word of the ninth", () -> {
            due.wrongPost(new GrownPost(), (LETTER + ";").repeat(8) + LETTER, 200);
            due.wrongPost(new GrownPost(), (LETTER + ";").repeat(8) + "  letter from 10", 202);
            due.wrongPost(new GrownPost(), (LETTER + ";").repeat(8) + "letter", 200);
            GrownPost x = crowded();
            due.wrongPost(x, LETTER, 0);
            due.wrongPost(x, "slip 1;" + LETTER, 7);
            x.burn(0);
            due.rightPost(x, LETTER, 2);
        });
        edge(4, "PROMISES, full: eight", () -> {
            GrownPost x = new GrownPost();
            due.rightPost(x, "promise a b;".repeat(7) + "promise k l", 1);
            is("PROMISES", x.count(1), 8);
            is("the eighth", x.promise(7, true), 11);
        });
        edge(4, "PROMISES, too many: the first word of the ninth", () -> {
            due.wrongPost(new GrownPost(), "promise a b;".repeat(8) + "promise c d", 96);
            due.wrongPost(new GrownPost(), "promise a b;".repeat(8) + " promise m", 97);
            GrownPost x = new GrownPost();
            due.rightPost(x, "promise a b;".repeat(7) + "promise k l", 1);
            due.wrongPost(x, "promise a b", 0);
            due.wrongPost(x, "promise", 0);
            is("PROMISES", x.count(1), 8);
        });
        edge(4, "texts, full: the twelfth", () -> {
            GrownPost x = new GrownPost();
            for (int i = 1; i <= 12; i++) {
                due.rightPost(x, "slip " + i, i);
            }
            is("texts", x.count(2), 12);
            is("SLIP", x.count(5), 12);
        });
    }

    private void postWords() {
        edge(4, "Words are as long as a to z go on", () -> {
            due.wrongPost(new GrownPost(), "slipz 1", 0);
            due.wrongPost(new GrownPost(), "slipa1", 0);
            due.wrongPost(new GrownPost(), "sli 1", 0);
            due.wrongPost(new GrownPost(), "letterfrom 1 temper 2 a", 0);
            due.wrongPost(new GrownPost(), "letter from 1 tempera", 14);
            due.wrongPost(new GrownPost(), "wordsa 1", 0);
        });
        edge(4, "Words end where no a to z stands", () -> {
            GrownPost x = new GrownPost();
            due.rightPost(x, "slip1;letter from2temper3abc;words a4;hot0", 1);
            is("SLIP", x.count(5), 1);
            is("SENDER", x.letter(0, 2), 2);
            due.lines("KINDS", x, 0, "abc");
            due.wrongPost(x, "Slip 1", 0);
            due.wrongPost(x, "sliP 1", 0);
            due.wrongPost(x, "slipA 1", 4);
            due.wrongPost(x, "slip_1", 4);
            due.wrongPost(x, "slip 1a", 6);
            due.wrongPost(x, "words aB 1", 7);
            due.wrongPost(x, "letter from 1 temper 2 aB", 24);
        });
        edge(4, "blanks between all, ahead and behind", () -> {
            GrownPost x = new GrownPost();
            due.rightPost(x, "   letter   from   1   temper   2   ab   ;   slip   7   ", 1);
            due.lines("KINDS", x, 0, "ab");
            is("SLIP", x.count(5), 7);
        });
        edge(4, "blanks (32) alone are blanks", () -> {
            for (char c : new char[] {0, 9, 10, 13, 31, 33, 127, 128, 160, 255}) {
                due.wrongPost(new GrownPost(), c + "slip 1", 0);
                due.wrongPost(new GrownPost(), "slip" + c + "1", 4);
                due.wrongPost(new GrownPost(), "slip 1" + c, 6);
            }
        });
        edge(4, "a word that is none", () -> {
            for (String word : new String[] {"stamp", "from", "temper", "to", "a", "ab", "if", "letters", "lette"}) {
                due.wrongPost(new GrownPost(), "  " + word + " 1", 2);
            }
        });
        edge(4, "the first thing that cannot stand there", () -> {
            due.wrongPost(new GrownPost(), "1", 0);
            due.wrongPost(new GrownPost(), ";", 0);
            due.wrongPost(new GrownPost(), " ; ", 1);
            due.wrongPost(new GrownPost(), "slip 1;;slip 1", 7);
            due.wrongPost(new GrownPost(), "slip 1 slip 1", 7);
            due.wrongPost(new GrownPost(), "slip 1,slip 1", 6);
            due.wrongPost(new GrownPost(), "letter to 1 temper 2 a", 7);
            due.wrongPost(new GrownPost(), "letter 1 temper 2 a", 7);
            due.wrongPost(new GrownPost(), "letter from 1 2 a", 14);
            due.wrongPost(new GrownPost(), LETTER + "1", 24);
            due.wrongPost(new GrownPost(), LETTER + " 1", 25);
            due.wrongPost(new GrownPost(), "week +1", 5);
        });
    }

    private void postNeedsMore() {
        edge(4, "the text's length, if more must come", () -> {
            String[] texts = {"letter", "letter from", "letter from 1", "letter from 1 temper", "letter from 1 temper 2", "words",
                "words a", "promise", "promise a", "slip", "hot", "open", "week", "slip 1;"};
            for (String text : texts) {
                due.wrongPost(new GrownPost(), text, text.length());
            }
        });
        edge(4, "the text's length, behind blanks too", () -> {
            due.wrongPost(new GrownPost(), "slip   ", 7);
            due.wrongPost(new GrownPost(), "slip 1;   ", 10);
            due.wrongPost(letters("a"), "hot ", 4);
        });
    }

    private void postRefused() {
        String right = "letter from 9 temper 9 abc;words b 9;promise c c;slip 99;hot 0;open 1;week 100";
        edge(4, "refused: Of a wrong text nothing stays", () ->
                refusedTape(Edges::lived, IllegalArgumentException.class, bytes(right + ";week 99"), GrownPost::post));
        edge(4, "refused: Of a text with a LETTER too many nothing stays", () ->
                refusedTape(Edges::crowded, IllegalArgumentException.class, bytes("slip 9;" + LETTER), GrownPost::post));
        edge(4, "refused: the 13th text, of which nothing stays", () ->
                refusedTape(TextEdges::told, UnsupportedOperationException.class, bytes(right), GrownPost::post));
        edge(4, "refused: the 13th text, an empty one", () ->
                refusedTape(TextEdges::told, UnsupportedOperationException.class, bytes(""), GrownPost::post));
        edge(4, "of two exceptions: a wrong 13th text is wrong", () ->
                refusedTape(TextEdges::told, IllegalArgumentException.class, bytes("slip 101"), GrownPost::post));
        edge(4, "a text after one gone back to: there are fewer", () -> {
            GrownPost x = new GrownPost();
            x.image();
            for (int i = 1; i <= 12; i++) {
                due.rightPost(x, "", i);
            }
            x.back();
            due.rightPost(x, "", 1);
        });
    }

    private static byte[] bytes(String text) {
        return text.getBytes(StandardCharsets.ISO_8859_1);
    }

    /** Twelve texts, THE IMAGE and two ACTS. */
    private static GrownPost told() {
        GrownPost x = letters("ab", "c");
        for (int i = 2; i <= 12; i++) {
            Due.post(x, "slip " + i);
        }
        x.image();
        x.heat(1, true);
        x.weeks(1);
        return x;
    }

    private void lawEmpty() {
        edge(5, "empty: an empty text has no LINE", () -> {
            GrownPost x = new GrownPost();
            is("THE LAW without one", x.count(3), NONE);
            due.rightLaw(x, "", 0);
            is("THE LAW of no LINE", x.count(3), 0);
        });
        edge(5, "empty: blanks alone have no LINE", () -> {
            GrownPost x = new GrownPost();
            due.rightLaw(x, " ".repeat(400), 0);
            is("THE LAW", x.count(3), 0);
        });
        edge(5, "empty: an empty one in place of the one before", () -> {
            GrownPost x = lawful("a to b", "a");
            due.rightLaw(x, "", 0);
            is("what comes", x.letter(0, 7), NONE);
        });
        edge(5, "full: a text of 400 bytes", () -> {
            GrownPost x = letters("a");
            due.rightLaw(x, " ".repeat(394) + "a to b", 1);
            is("what comes", x.letter(0, 7), 1);
            due.rightLaw(x, "a to c if 193<1" + "+1".repeat(192) + " ", 1);
            is("193 is not below 193", x.letter(0, 7), NONE);
            due.rightLaw(x, "a to c if 192<1" + "+1".repeat(192) + " ", 1);
            is("192 is below 193", x.letter(0, 7), 2);
            due.rightLaw(x, "a to d if hot" + " or hot".repeat(54) + " or 1 > 0", 1);
            is("the last of all that may hold", x.letter(0, 7), 3);
        });
        edge(5, "full: a text of 400 bytes, wrong at its last byte, and at its length", () -> {
            GrownPost x = new GrownPost();
            due.wrongLaw(x, " ".repeat(393) + "a to bm", 398);
            due.wrongLaw(x, " ".repeat(393) + "a to b;", 400);
            due.wrongLaw(x, "a to b if 1<1" + "+1".repeat(193) + "+", 400);
        });
    }

    private void lawLines() {
        String line = "a to b;";
        edge(5, "LINES, full: the twelfth, and it is looked at", () -> {
            GrownPost x = letters("k");
            due.rightLaw(x, line.repeat(11) + "k to l", 12);
            is("LINES", x.count(3), 12);
            is("what comes", x.letter(0, 7), 11);
        });
        edge(5, "LINES, too many: the first word of the 13th", () -> {
            due.wrongLaw(new GrownPost(), line.repeat(11) + "a to b; a to b", 85);
            due.wrongLaw(new GrownPost(), line.repeat(11) + "a to b;m to b", 84);
            due.wrongLaw(new GrownPost(), line.repeat(11) + "a to b;a", 84);
        });
        edge(5, "LINES, full, and ; behind: the text's length", () -> {
            due.wrongLaw(new GrownPost(), line.repeat(12), 84);
            due.wrongLaw(new GrownPost(), line.repeat(12) + "  ", 86);
        });
        edge(5, "K: a and l; m, two of them, none are none", () -> {
            GrownPost x = letters("a", "l");
            due.rightLaw(x, "a to l;l to a", 2);
            is("behind a", x.letter(0, 7), 11);
            is("behind l", x.letter(1, 7), 0);
            due.wrongLaw(x, "m to a", 0);
            due.wrongLaw(x, "ab to a", 0);
            due.wrongLaw(x, "to a", 0);
            due.wrongLaw(x, "a to m", 5);
            due.wrongLaw(x, "a to ab", 5);
            due.wrongLaw(x, "a to if hot", 5);
            due.wrongLaw(x, "` to a", 0);
        });
        edge(5, "Words are as long as a to z go on, blanks between all", () -> {
            GrownPost x = letters("a");
            due.rightLaw(x, "  a  to  b  if  (  length  +  1  <  9  )  and  not  hot  ", 1);
            is("what comes", x.letter(0, 7), 1);
            due.rightLaw(x, "a to c if(length+1<9)and not(hot)or 1<2", 1);
            is("what comes", x.letter(0, 7), 2);
            due.wrongLaw(x, "atob", 0);
            due.wrongLaw(x, "a tob", 2);
            due.wrongLaw(x, "a to bif hot", 5);
            due.wrongLaw(x, "a toB", 4);
            due.wrongLaw(x, "a to bC", 6);
            due.wrongLaw(x, "a to b if hotA", 13);
            due.wrongLaw(x, "a to b if nothot", 10);
            due.wrongLaw(x, "a to b if hotand hot", 10);
            due.wrongLaw(x, "a to b if 1<2and3<4or 5<", 24);
        });
        edge(5, "blanks (32) alone are blanks", () -> {
            for (char c : new char[] {0, 9, 10, 13, 160, 255}) {
                due.wrongLaw(new GrownPost(), c + "a to b", 0);
                due.wrongLaw(new GrownPost(), "a" + c + "to b", 1);
                due.wrongLaw(new GrownPost(), "a to b" + c, 6);
            }
        });
        edge(5, "in place of the one before: all of it is gone", () -> {
            GrownPost x = lawful("a to b;b to c", "a", "b");
            due.rightLaw(x, "a to d", 1);
            is("behind a", x.letter(0, 7), 3);
            is("behind b", x.letter(1, 7), NONE);
            is("LINES", x.count(3), 1);
        });
        edge(5, "in place of the one before: its C is gone, and that of a wrong one", () -> {
            GrownPost x = lawful("a to b if 1 < 0", "a");
            due.rightLaw(x, "a to c", 1);
            is("what comes", x.letter(0, 7), 2);
            due.wrongLaw(x, "a to b if 1 < 0 and", 19);
            due.rightLaw(x, "a to d", 1);
            is("what comes", x.letter(0, 7), 3);
        });
        edge(5, "in place of the one before: full texts, again and again", () -> {
            GrownPost x = letters("a");
            for (int i = 0; i < 3; i++) {
                due.rightLaw(x, "a to c if 192<1" + "+1".repeat(192) + " ", 1);
                is("192 is below 193", x.letter(0, 7), 2);
            }
        });
    }

    private void lawNumbers() {
        edge(5, "NUMBER: 0, and 999, the most", () -> {
            GrownPost x = letters("a");
            due.rightLaw(x, "a to b if 0 < 1 and 998 < 999", 1);
            is("what comes", x.letter(0, 7), 1);
            due.wrongLaw(x, "a to b if 1000 > 0", 10);
            due.wrongLaw(x, "a to b if 1 < 1000", 14);
        });
        edge(5, "All numbers are of 1 to 3 digits", () -> {
            GrownPost x = letters("a");
            due.rightLaw(x, "a to b if 007 > 6 and 07 < 8", 1);
            is("what comes", x.letter(0, 7), 1);
            due.wrongLaw(x, "a to b if 0007 > 6", 10);
            due.wrongLaw(x, "a to b if 7 + 0007 > 6", 14);
            due.wrongLaw(x, "a to b if 4294967297 < 2", 10);
            due.wrongLaw(x, "0000", 0);
            due.wrongLaw(x, "a to b 0000", 7);
            due.wrongLaw(x, "a to b if hot 0000", 14);
        });
        edge(5, "a SUM above 999", () -> {
            GrownPost x = letters("a");
            due.rightLaw(x, "a to b if 999 + 999 > 999 + 998 and not 999 + 999 > 999 + 999", 1);
            is("what comes", x.letter(0, 7), 1);
        });
        edge(5, "a NUMBER is no word, and no sign", () -> {
            due.wrongLaw(new GrownPost(), "a to b if -1 < 2", 10);
            due.wrongLaw(new GrownPost(), "a to b if +1 < 2", 10);
            due.wrongLaw(new GrownPost(), "a to b if 1 + -1 < 2", 14);
            due.wrongLaw(new GrownPost(), "1 to 2", 0);
        });
    }

    private void lawDeep() {
        String[] six = {"((((((hot))))))", "not not not not not not hot", "(not (not (not hot)))", "not(not(not(hot)))",
            "(((((not hot)))))", "not not not not not (hot)"};
        edge(5, "( and not at most 6 deep: six", () -> {
            for (String c : six) {
                due.rightLaw(new GrownPost(), "a to b if " + c, 1);
            }
        });
        edge(5, "the ( or not that is a 7th one deep", () -> {
            due.wrongLaw(new GrownPost(), "a to b if (((((((hot)))))))", 16);
            due.wrongLaw(new GrownPost(), "a to b if not not not not not not not hot", 34);
            due.wrongLaw(new GrownPost(), "a to b if not not not not not not (hot)", 34);
            due.wrongLaw(new GrownPost(), "a to b if ((((((not hot))))))", 16);
            due.wrongLaw(new GrownPost(), "a to b if (((((( hot and not hot))))))", 25);
            due.wrongLaw(new GrownPost(), "a to b if (not(not(not(hot))))", 22);
            due.wrongLaw(new GrownPost(), "a to b if ((((((", 16);
            due.wrongLaw(new GrownPost(), "a to b if (((((((", 16);
        });
        edge(5, "within one another: those beside do not count", () -> {
            due.rightLaw(new GrownPost(), "a to b if (hot) and (hot) and (hot) and (hot) and (hot) and (hot) and (hot) or not hot", 1);
            due.rightLaw(new GrownPost(), "a to b if (((((hot) and (hot)) or (hot))))and ((((((hot))))))", 1);
            due.rightLaw(new GrownPost(), "a to b if not not not not not not hot and not not not not not not hot", 1);
            due.rightLaw(new GrownPost(), "a to b if ((((((hot))))));b to c if ((((((hot))))))", 2);
        });
        edge(5, "six deep holds as it says", () -> {
            GrownPost x = letters("a");
            due.rightLaw(x, "a to b if not not not not not not hot;a to c if not not not not not hot", 2);
            is("what comes", x.letter(0, 7), 2);
            due.rightLaw(x, "a to b if not(not(not(hot)));a to c", 2);
            is("what comes", x.letter(0, 7), 1);
        });
    }

    private void lawNeedsMore() {
        edge(5, "the text's length, if more must come", () -> {
            String[] texts = {"a", "a to", "a to b if", "a to b if not", "a to b if (", "a to b if (hot", "a to b if hot and",
                "a to b if hot or", "a to b if 1", "a to b if 1 +", "a to b if 1 <", "a to b if length >", "a to b if 1 < 2 +",
                "a to b;", "a to b if hot;", "a to b if not not", "a to b if (1 < 2", "a to b   if   "};
            for (String text : texts) {
                due.wrongLaw(new GrownPost(), text, text.length());
            }
        });
        edge(5, "the first thing that cannot stand there", () -> {
            due.wrongLaw(new GrownPost(), ";", 0);
            due.wrongLaw(new GrownPost(), "a b", 2);
            due.wrongLaw(new GrownPost(), "a to b hot", 7);
            due.wrongLaw(new GrownPost(), "a to b if ;", 10);
            due.wrongLaw(new GrownPost(), "a to b if ()", 11);
            due.wrongLaw(new GrownPost(), "a to b if hot hot", 14);
            due.wrongLaw(new GrownPost(), "a to b if hot not hot", 14);
            due.wrongLaw(new GrownPost(), "a to b if hot)", 13);
            due.wrongLaw(new GrownPost(), "a to b if (hot;", 14);
            due.wrongLaw(new GrownPost(), "a to b if hot and or hot", 18);
            due.wrongLaw(new GrownPost(), "a to b if 1 1", 12);
            due.wrongLaw(new GrownPost(), "a to b if 1 < 2 < 3", 16);
            due.wrongLaw(new GrownPost(), "a to b if 1 = 2", 12);
            due.wrongLaw(new GrownPost(), "a to b if (1) < 2", 12);
            due.wrongLaw(new GrownPost(), "a to b if hot < 2", 14);
            due.wrongLaw(new GrownPost(), "a to b if 1 < winter", 14);
            due.wrongLaw(new GrownPost(), "a to b if 1 + hot < 2", 14);
            due.wrongLaw(new GrownPost(), "a to b if a < 2", 10);
            due.wrongLaw(new GrownPost(), "a to b if letter < 2", 10);
            due.wrongLaw(new GrownPost(), "a to b if 1 < 2 + )", 18);
        });
    }

    private void lawRefused() {
        edge(5, "refused: Of a wrong text nothing stays, THE LAW before does", () ->
                refusedTape(Edges::lived, IllegalArgumentException.class, bytes("a to c;b to c;c to d if 1 <"), GrownPost::law));
        edge(5, "refused: a wrong text, and none before", () -> {
            GrownPost x = new GrownPost();
            due.wrongLaw(x, "a to b;", 7);
            is("THE LAW", x.count(3), NONE);
        });
        edge(5, "a right text uses the TAPE up", () -> {
            GrownPost x = new GrownPost();
            due.rightLaw(x, "a to b", 1);
            is("end 1", x.end(1), false);
        });
        edge(5, "THE LAW is no text of THE POST: a 13th one is taken", () -> {
            GrownPost x = told();
            for (int i = 0; i < 13; i++) {
                due.rightLaw(x, "a to b", 1);
            }
            is("texts", x.count(2), 12);
        });
    }

    private void faults() {
        edge(6, "NONE ahead of any", () -> is("fault", new GrownPost().fault(), NONE));
        edge(6, "NONE without one", () -> {
            GrownPost x = new GrownPost();
            due.wrongPost(x, "z", 0);
            due.rightPost(x, "slip 1", 1);
            due.wrongLaw(x, "a to m", 5);
            due.rightLaw(x, "", 0);
        });
        edge(6, "the first byte, 0, and the text's length, 400", () -> {
            GrownPost x = new GrownPost();
            due.wrongLaw(x, ";".repeat(400), 0);
            due.wrongPost(x, "slip" + " ".repeat(396), 400);
        });
        edge(6, "of the latest text that was read, of either sort", () -> {
            GrownPost x = new GrownPost();
            due.wrongPost(x, "slip 1;slip z", 12);
            due.wrongLaw(x, "a to z", 5);
            due.wrongPost(x, "slip z", 5);
            due.rightLaw(x, "a to b", 1);
        });
        edge(6, "refused: a text that is read and refused, NONE of a right one", () -> {
            GrownPost x = told();
            due.wrongPost(x, "slip z", 5);
            Due.put(x, "slip 1");
            due.fails("post", UnsupportedOperationException.class, x::post);
            is("fault", x.fault(), NONE);
            due.wrongPost(x, "slip z", 5);
        });
        edge(6, "it stays by all that reads no text", () -> {
            GrownPost x = letters("a");
            due.wrongPost(x, "slip z", 5);
            x.image();
            Due.putKinds(x, "m");
            due.noNumber("write", () -> x.write(0, 0));
            is("write", Due.write(x, "a", 0, 0), 1);
            is("fault", x.fault(), 5);
            x.weeks(1);
            x.undo();
            x.back();
            is("fault", x.fault(), 5);
        });
    }
}
