/** Promises 1 to 6: a new object, feed, end, post, law, fault. */
public final class TextsTest {
    private static final Due due = new Due("TextsTest");

    public static void main(String[] args) {
        newObject();
        tape();
        postLines();
        postFaults();
        postLimits();
        blanksAndWords();
        lawFaults();
        lawDepth();
        lawMeaning();
        lawReplaces();
        fullTapes();
        due.close();
    }

    private static void newObject() {
        GrownPost x = new GrownPost();
        int[] want = {0, 0, 0, -1, 0, 0, 0, 0, 0, 0, 0};
        for (int what = 0; what < want.length; what++) {
            due.is("new count " + what, x.count(what), want[what]);
        }
        due.is("new fault", x.fault(), -1);
        due.is("new words", x.words(0), 3);
        due.is("new words", x.words(11), 3);
        due.is("new undo", x.undo(), false);
        due.is("new back", x.back(), false);
        due.is("new seed", x.seed(4), 1);
        due.noLetter("new letter", () -> x.letter(0, 0));
    }

    private static void tape() {
        GrownPost x = new GrownPost();
        for (int i = 1; i <= 20; i++) {
            due.is("feed " + i, x.feed(0, 0, 0, 0, 0), 20 * i);
        }
        due.is("feed a full one", x.feed(0, 0, 0, 0, 0), -1);
        due.is("end above", x.end(401), false);
        due.is("end below", x.end(-1), false);
        due.is("end all", x.end(400), true);
        due.is("feed still full", x.feed(0, 0, 0, 0, 0), -1);
        due.is("end 381", x.end(381), true);
        due.is("feed 401", x.feed(0, 0, 0, 0, 0), -1);
        due.is("end 382", x.end(382), false);
        due.is("end 380", x.end(380), true);
        due.is("feed 400", x.feed(0, 0, 0, 0, 0), 400);
        due.is("end 0", x.end(0), true);
        // The highest byte first: 's' 'l' 'i' 'p' | ' ' '7' ' ' ' ' ...
        due.is("feed", x.feed(0x736c6970, 0x20372020, 0x20202020, 0x20202020, 0x20202020), 20);
        due.is("post of fed", x.post(), 1);
        due.is("slip of fed", x.count(5), 7);
        due.is("tape used up", x.end(1), false);
        x.feed(0x7a000000, 0, 0, 0, 0);
        due.noNumber("post z", x::post);
        due.is("tape used up by a wrong text", x.end(1), false);
        x.feed(0x7a000000, 0, 0, 0, 0);
        due.noNumber("law z", x::law);
        due.is("tape used up by a wrong law", x.end(1), false);
        Due.put(x, "zz");
        due.noNumber("write zz", () -> x.write(1, 1));
        due.is("tape used up by a wrong letter", x.end(1), false);
    }

    private static void postLines() {
        GrownPost x = new GrownPost();
        due.rightPost(x, "letter from 9 temper 0 la;words l 9;words a 1;promise l a;slip 100;hot 0;week 999", 1);
        due.is("LETTERS", x.count(0), 1);
        due.lines("letter", x, 0, "la");
        due.is("sender", x.letter(0, 2), 9);
        due.is("temper", x.letter(0, 1), 0);
        due.is("words l", x.words(11), 9);
        due.is("words a", x.words(0), 1);
        due.is("promise", x.promise(0, false), 11);
        due.is("promise", x.promise(0, true), 0);
        due.is("slip", x.count(5), 100);
        due.is("hot", x.count(8), 1);
        due.is("week", x.count(4), 999);
        due.is("came ahead of the week", x.line(0, 0, true), 0);
        due.rightPost(x, "letter from 0 temper 9 abcdefghijklabcdefghijkl;open 1;slip 0;words a 2;words a 4", 2);
        due.is("came in the week", x.line(1, 23, true), 999);
        due.is("open", x.letter(1, 3), 1);
        due.is("not open", x.letter(0, 3), 0);
        due.is("slip", x.count(5), 0);
        due.is("last words", x.words(0), 4);
        due.rightPost(x, "letter from 0 temper 0 a;hot 1;hot 1;open 0;week 999", 3);
        due.is("hot", x.count(8), 3);
        due.is("open", x.count(7), 3);
        due.rightPost(x, "", 4);
        due.rightPost(x, "   ", 5);
        GrownPost y = new GrownPost();
        due.rightPost(y, "letter from 1 temper 1 if", 1);
        due.lines("a row that is a word of the law", y, 0, "if");
    }

    private static void postFaults() {
        GrownPost x = new GrownPost();
        due.wrongPost(x, "letter", 6);
        due.wrongPost(x, "letter  ", 8);
        due.wrongPost(x, "letter to 1", 7);
        due.wrongPost(x, "letter from 10 temper 1 a", 12);
        due.wrongPost(x, "letter from 0001 temper 1 a", 12);
        due.wrongPost(x, "letter from a", 12);
        due.wrongPost(x, "letter from 1 temper 10 a", 21);
        due.wrongPost(x, "letter from 1 temper 1 am", 23);
        due.wrongPost(x, "letter from 1 temper 1 1", 23);
        due.wrongPost(x, "letter from 1 temper 1 a b", 25);
        due.wrongPost(x, "letter from 1 temper 1 abcdefghijklabcdefghijkla", 23);
        due.wrongPost(x, "letter from 1 temper 1 a,b", 24);
        due.wrongPost(x, "words a 10", 8);
        due.wrongPost(x, "words a 0", 8);
        due.wrongPost(x, "words aa 1", 6);
        due.wrongPost(x, "words 1 a", 6);
        due.wrongPost(x, "promise a m", 10);
        due.wrongPost(x, "promise ab", 8);
        due.wrongPost(x, "slip 101", 5);
        due.wrongPost(x, "slip -1", 5);
        due.wrongPost(x, "slip 0000", 5);
        due.wrongPost(x, "slip 1 2", 7);
        due.wrongPost(x, "slip 1 slip 2", 7);
        due.wrongPost(x, "slip 1;;slip 2", 7);
        due.wrongPost(x, ";slip 1", 0);
        due.wrongPost(x, "slip 1; ", 8);
        due.wrongPost(x, "hot 0", 4);
        due.wrongPost(x, "open 8", 5);
        due.wrongPost(x, "hot 1;letter from 1 temper 1 a", 4);
        due.wrongPost(x, "letter from 1 temper 1 a;hot 1", 29);
        due.wrongPost(x, "week 1000", 5);
        due.wrongPost(x, "week 7;week 6", 12);
        due.wrongPost(x, "Slip 1", 0);
        due.wrongPost(x, "  stamp", 2);
        due.wrongPost(x, "slips 1", 0);
        due.wrongPost(x, "slip\t1", 4);
        due.wrongPost(x, "slipz 1", 0);
        due.wrongPost(x, "slip 1a", 6);
        due.is("nothing stays", x.count(0) + x.count(1) + x.count(2) + x.count(4) + x.count(5), 0);
        due.rightPost(x, "week 7", 1);
        due.wrongPost(x, "week 6", 5);
        due.rightPost(x, "week 7", 2);
        x.weeks(60);
        due.wrongPost(x, "week 66", 5);
        due.rightPost(x, "week 67", 3);
    }

    private static void postLimits() {
        GrownPost x = new GrownPost();
        String line = "slip 1";
        StringBuilder text = new StringBuilder(line);
        for (int i = 1; i < 14; i++) {
            text.append(';').append(line);
        }
        due.rightPost(x, text.toString(), 1);
        due.wrongPost(x, text + ";", 98);
        due.wrongPost(x, text + ";  slip 1", 100);
        due.wrongPost(x, text + ";;", 98);
        GrownPost letters = new GrownPost();
        String a = "letter from 1 temper 1 a;";
        due.wrongPost(letters, a + a + a + a + a + a + a + a + " letter from 1 temper 1 a", 201);
        due.rightPost(letters, a + a + a + a + a + a + a + "letter from 1 temper 1 b;hot 7", 1);
        due.wrongPost(letters, "letter", 0);
        due.wrongPost(letters, "hot 8", 4);
        due.is("LETTERS", letters.count(0), 8);
        GrownPost promises = new GrownPost();
        String p = "promise a b;";
        due.wrongPost(promises, p + p + p + p + p + p + p + p + "promise", 96);
        due.rightPost(promises, p + p + p + p + p + p + p + "promise c c", 1);
        due.wrongPost(promises, "slip 1;promise a b", 7);
        due.is("PROMISES", promises.count(1), 8);
        GrownPost texts = new GrownPost();
        for (int i = 1; i <= 12; i++) {
            due.rightPost(texts, "slip " + i, i);
        }
        Due.put(texts, "slip 99");
        due.fails("post 13", UnsupportedOperationException.class, texts::post);
        due.is("fault of a refused text", texts.fault(), -1);
        due.is("slip stays", texts.count(5), 12);
        due.is("tape used up", texts.end(1), false);
        due.wrongPost(texts, "slip 101", 5);
        due.is("texts", texts.count(2), 12);
    }

    private static void blanksAndWords() {
        GrownPost x = new GrownPost();
        due.rightPost(x, "  slip5 ; letter from1temper  2 abc  ;words a7;hot0;week012 ", 1);
        due.is("slip", x.count(5), 5);
        due.is("week", x.count(4), 12);
        due.is("words", x.words(0), 7);
        due.wrongPost(x, "letterfrom 1 temper 1 a", 0);
        due.rightLaw(x, " a to b if(hot)and not(winter)or 3<length+temper ; c to d ", 2);
        due.wrongLaw(x, "atob", 0);
        due.wrongLaw(x, "a tob", 2);
        due.rightLaw(x, "   ", 0);
    }

    private static void lawFaults() {
        GrownPost x = new GrownPost();
        due.wrongLaw(x, "a to ab", 5);
        due.wrongLaw(x, "a to m", 5);
        due.wrongLaw(x, "a b", 2);
        due.wrongLaw(x, "a to b b", 7);
        due.wrongLaw(x, "a to b if", 9);
        due.wrongLaw(x, "a to b if  ", 11);
        due.wrongLaw(x, "a to b if;", 9);
        due.wrongLaw(x, "a to b if hot hot", 14);
        due.wrongLaw(x, "a to b if hot and", 17);
        due.wrongLaw(x, "a to b if or hot", 10);
        due.wrongLaw(x, "a to b if ()", 11);
        due.wrongLaw(x, "a to b if hot)", 13);
        due.wrongLaw(x, "a to b if 3", 11);
        due.wrongLaw(x, "a to b if 3 3", 12);
        due.wrongLaw(x, "a to b if 3 = 3", 12);
        due.wrongLaw(x, "a to b if 3 < hot", 14);
        due.wrongLaw(x, "a to b if 3 + < 4", 14);
        due.wrongLaw(x, "a to b if 3 < 4 < 5", 16);
        due.wrongLaw(x, "a to b if 1000 < 4", 10);
        due.wrongLaw(x, "a to b if 0001 < 4", 10);
        due.wrongLaw(x, "a to b if 3 < 1234", 14);
        due.wrongLaw(x, "a to b if hot < 3", 14);
        due.wrongLaw(x, "a to b if winter + 1 > 3", 17);
        due.wrongLaw(x, "a to b if (3) < 4", 12);
        due.wrongLaw(x, "a to b if lengths < 4", 10);
        due.wrongLaw(x, "a to b if letter < 4", 10);
        due.wrongLaw(x, "a to b if a < 4", 10);
        due.wrongLaw(x, "a to b if not", 13);
        due.wrongLaw(x, "a to b if not 3", 15);
        due.wrongLaw(x, "a to b,b to c", 6);
        due.wrongLaw(x, "a to b if 3 < week - 1", 19);
        due.wrongLaw(x, "\u00e4 to b", 0);
        due.is("no law stays", x.count(3), -1);
        String line = "a to b;";
        String eleven = line + line + line + line + line + line + line + line + line + line + line;
        due.rightLaw(x, eleven + "b to c", 12);
        due.wrongLaw(x, eleven + "b to c;", 84);
        due.wrongLaw(x, eleven + "b to c;x", 84);
        due.wrongLaw(x, eleven + "b to c; b to c", 85);
        due.is("the law before stays", x.count(3), 12);
    }

    private static void lawDepth() {
        GrownPost x = new GrownPost();
        due.rightLaw(x, "a to b if not not not not not not hot", 1);
        due.wrongLaw(x, "a to b if not not not not not not (hot)", 34);
        due.rightLaw(x, "a to b if ((((((hot))))))", 1);
        due.wrongLaw(x, "a to b if (((((((hot)))))))", 16);
        due.rightLaw(x, "a to b if (not(not(not hot)))and((hot))", 1);
        due.wrongLaw(x, "a to b if not(not(not(not hot)))", 22);
    }

    /** Whether a condition holds for a LETTER 'ca' of SENDER 4 with TEMPER 7, not HOT, in WEEK 30 (season 2). */
    private static void holds(String condition, boolean want) {
        GrownPost x = Due.world("week 30;letter from 4 temper 7 ca", "a to b if " + condition);
        due.is(condition, x.letter(0, 7) == 1, want);
    }

    private static void lawMeaning() {
        holds("length > 1", true);
        holds("length > 2", false);
        holds("length < 3", true);
        holds("length < 2", false);
        holds("temper > 6 and temper < 8", true);
        holds("sender > 3 and sender < 5", true);
        holds("before > 1 and before < 3", true);
        holds("week > 29 and week < 31", true);
        holds("season > 1 and season < 3", true);
        holds("winter", false);
        holds("not winter", true);
        holds("not (1 < 2)", false);
        holds("not not hot", false);
        holds("winter or not 2 > 1", false);
        holds("hot", false);
        holds("hot or not hot", true);
        holds("hot and hot or not hot", true);
        holds("not hot or hot and hot", true);
        holds("(not hot or hot) and hot", false);
        holds("not (hot or winter)", true);
        holds("not hot and hot", false);
        holds("not hot and 1 < 2 and 2 < 3", true);
        holds("1 < 2 and 3 < 2 or 2 > 1 and 1 > 2", false);
        holds("length + temper + sender < 14", true);
        holds("length + temper + sender < 13", false);
        holds("13 < length + temper + sender", false);
        holds("12 < length + temper + sender", true);
        holds("999 + 999 > 999 + 998", true);
        holds("999 + 999 > 999 + 999", false);
        GrownPost winter = Due.world("week 39;letter from 4 temper 7 a;hot 0", "a to b if winter and hot and before > 11");
        due.is("winter, hot, nothing before", winter.letter(0, 7), 1);
        GrownPost first = Due.world("letter from 4 temper 7 a", "a to b if hot;b to c;a to d;a to e");
        due.is("the first that holds", first.letter(0, 7), 3);
    }

    private static void lawReplaces() {
        GrownPost x = Due.world("letter from 4 temper 7 a", "a to b;b to c");
        due.is("two", x.count(3), 2);
        due.rightLaw(x, "a to c", 1);
        due.is("replaced", x.letter(0, 7), 2);
        due.wrongLaw(x, "a to d;", 7);
        due.is("a wrong one changes nothing", x.letter(0, 7), 2);
        due.rightLaw(x, "", 0);
        due.is("none", x.count(3), 0);
        due.is("nothing follows", x.letter(0, 7), -1);
    }

    private static void fullTapes() {
        GrownPost x = new GrownPost();
        due.wrongPost(x, ";".repeat(400), 0);
        due.wrongLaw(x, ")".repeat(400), 0);
        due.wrongLaw(x, "a to b if 1<1" + "+1".repeat(193) + ";", 400);
        due.rightLaw(x, "a to b if 1<1" + "+1".repeat(193) + " ", 1);
        Due.post(x, "letter from 1 temper 1 a");
        due.is("1 is below 194", x.letter(0, 7), 1);
        due.wrongPost(x, "9".repeat(400), 0);
        due.wrongPost(x, "slip " + "9".repeat(395), 5);
        due.wrongPost(x, "z".repeat(400), 0);
        due.rightPost(x, " ".repeat(394) + "slip 7", 2);
        due.is("slip", x.count(5), 7);
    }
}
