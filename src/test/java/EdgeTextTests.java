/**
 * Promises 1 to 4: a test for each sentence that names a boundary, its words as the document has
 * them stand above it.
 */
public final class EdgeTextTests extends Due {
    public static void main(String[] args) throws IllegalAccessException {
        runEach(EdgeTextTests.class, 1, 4);
        finish();
    }

    // ---- 1: As at first

    /** "At first there is UNIT 0 alone, no REEL." */
    private static void promise01_unit0AloneNoReel() {
        SplicedWeb x = new SplicedWeb();
        due("UNITS", x.count(0), 1);
        due("REELS", x.count(1), 0);
        due("the REEL that is on", x.count(7), NONE);
        due("the next one", x.count(8), NONE);
        due("UNIT 1", x.unit(1, 0), NO);
        due("REEL 0", x.reel(0, 0), NO);
    }

    /** "EYE .. 3 at first", "LIMIT .. 3 at first", "IDLE .. 1 at first", "SPIN .. 5 at first" */
    private static void promise01_settingsAtFirst() {
        SplicedWeb x = new SplicedWeb();
        due("EYE", x.count(13), 3);
        due("LIMIT", x.count(14), 3);
        due("IDLE", x.count(15), 1);
        due("SPIN", x.count(16), 5);
    }

    /** "It RUNS (at first)", "AHEAD is on (at first)", "SPUN .. 0 at first", all that is counted is 0 */
    private static void promise01_runsWithNothingCounted() {
        SplicedWeb x = new SplicedWeb();
        due("RUNS", x.count(10), 1);
        due("AHEAD", x.count(11), 1);
        for (int what : new int[] {2, 3, 4, 5, 6, 9, 12, 17, 18, 19}) {
            due("count(" + what + ")", x.count(what), 0);
        }
    }

    /** Empty in every way: nothing came, nothing is under way, nothing can be UNDONE, no IMAGE is there */
    private static void promise01_emptyInEveryWay() {
        SplicedWeb x = new SplicedWeb();
        lastIs("none came", x, NOT, NOT, NOT, NOT, NOT, NOT, NOT);
        due("none under way", x.error(0, 0), NOT);
        due("undo()", x.undo(), STATE);
        due("back(0)", x.back(0), STATE);
        due("back(1)", x.back(1), STATE);
        due("clear()", x.clear(), 0);
        due("forget()", x.forget(), 0);
    }

    /** What is done to one object is not seen at another. */
    private static void promise01_objectsAreTheirOwn() {
        SplicedWeb one = new SplicedWeb();
        SplicedWeb other = busy();
        due("UNITS of the one", one.count(0), 1);
        due("letters of the one", one.count(18), 0);
        due("UNITS of the other", other.count(0), 4);
    }

    // ---- 2: A letter (0 .. 255) comes to THE TEXT: how many it has. BAD; FULL: 120.

    /** "A letter (0 .. 255)": the least and the greatest */
    private static void promise02_letters0And255() {
        SplicedWeb x = new SplicedWeb();
        due("type(0)", x.type(0), 1);
        due("type(255)", x.type(255), 2);
        due("letters", x.count(18), 2);
    }

    /** "A letter (0 .. 255) .. BAD": too small, too large */
    private static void promise02_lettersBeyondAreBad() {
        for (int letter : new int[] {-1, 256, LEAST, GREATEST, 256 + 'u', 'u' - 256}) {
            refused("type(" + letter + ")", Due::busy, x -> x.type(letter), BAD);
        }
    }

    /** "120 letters at most": the 120th comes, and is read */
    private static void promise02_the120thComes() {
        SplicedWeb x = new SplicedWeb();
        type(x, " ".repeat(117) + "u6");
        due("the 120th", x.type(';'), 120);
        due("tells()", x.tells(), 1);
        due("GAP", x.unit(1, 0), 6);
    }

    /** "FULL: 120" */
    private static void promise02_the121stIsRefused() {
        refused("type('x')", Due::full, x -> x.type('x'), FULL);
        refused("type(0)", Due::full, x -> x.type(0), FULL);
        SplicedWeb x = full();
        x.type('x');
        due("the text is as it was", x.tells(), 1);
    }

    /** "the first of these that is so: BAD .. FULL" */
    private static void promise02_badGoesAheadOfFull() {
        refused("type(-1)", Due::full, x -> x.type(-1), BAD);
        refused("type(256)", Due::full, x -> x.type(256), BAD);
    }

    // ---- 3: THE TEXT is empty: how many letters it had.

    /** "how many letters it had": none */
    private static void promise03_anEmptyText() {
        SplicedWeb x = new SplicedWeb();
        due("clear()", x.clear(), 0);
        due("letters", x.count(18), 0);
    }

    /** "how many letters it had": 120, and then there is room for 120 again */
    private static void promise03_aFullText() {
        SplicedWeb x = full();
        due("clear()", x.clear(), 120);
        due("clear() again", x.clear(), 0);
        type(x, "x".repeat(119));
        due("the 120th", x.type('x'), 120);
        due("the 121st", x.type('x'), FULL);
    }

    /** "THE TEXT is empty": nothing of it is read later */
    private static void promise03_whatWasClearedIsNotRead() {
        SplicedWeb x = new SplicedWeb();
        type(x, "u1;u1;x");
        x.clear();
        due("tells()", x.tells(), 0);
        due("UNITS", x.count(0), 1);
        type(x, "u1;u1;u1");
        x.clear();
        due("a shorter one", tell(x, "u2;"), 1);
    }

    /** It is refused never, and nothing but THE TEXT is changed. */
    private static void promise03_nothingElseIsChanged() {
        SplicedWeb x = busy();
        int[] was = pictureOfRun(x);
        due("clear()", x.clear(), 3);
        same("what 2 tells", pictureOfRun(x), was);
        due("SEEN", x.count(17), 1);
        due("may be UNDONE", x.count(19), 6);
        due("an IMAGE", x.back(0), 13);
    }

    // ---- 4: how many ITEMS

    private static void items(String text, int items) {
        SplicedWeb x = busy();
        x.clear();
        due("tells() of \"" + text + "\"", tell(x, text), items);
        due("letters behind \"" + text + "\"", x.count(18), 0);
    }

    /** -10 less FAULT, and nothing is changed: not THE TEXT either. */
    private static void fault(String text, int place) {
        refused("tells() of \"" + text + "\"", () -> busyWith(text), SplicedWeb::tells, -10 - place);
        due("letters kept of \"" + text + "\"", lettersBehindTells(text), text.length());
    }

    private static SplicedWeb busyWith(String text) {
        SplicedWeb x = busy();
        x.clear();
        type(x, text);
        return x;
    }

    private static int lettersBehindTells(String text) {
        SplicedWeb x = busyWith(text);
        x.tells();
        return x.count(18);
    }

    /** "ITEMS (none, too)" */
    private static void promise04_noItems() {
        items("", 0);
        items(" ", 0);
        items(" ".repeat(120), 0);
    }

    /** "blanks (32), any number, ahead of, between, behind TOKENS" */
    private static void promise04_blanksAnywhere() {
        items("   u1;", 1);
        items("u   1;", 1);
        items("u1   ;", 1);
        items("u1;   ", 1);
        items("r  9  -  3  ;  e  2  ;", 2);
        items("u1;" + " ".repeat(114) + "u1;", 2);
    }

    /** "(needed only between two NUMBERS)" */
    private static void promise04_blanksAreNeededBetweenNumbersOnly() {
        items("u1;r9-3;e2;l4;i0;p1;", 6);
        SplicedWeb x = told("r9 3;");
        due("COPIES of r9 3;", x.reel(0, 0), 9);
        due("STRETCH of r9 3;", x.reel(0, 1), 3);
        fault("r93;", 3);
        fault("r123;", 1);
    }

    /** "blanks (32)": no other letter is one */
    private static void promise04_noOtherLetterIsABlank() {
        for (int letter : new int[] {0, 9, 10, 13, 31, 33, 160, 255}) {
            fault("u1;" + (char) letter, 3);
            fault("u" + (char) letter + "1;", 1);
        }
    }

    /** "of any other letter .. that TOKEN's": the neighbours of those that are told, and capitals */
    private static void promise04_anyOtherLetter() {
        for (char letter : "/:,._x tvqsdfmkhjoq<=URELIP".toCharArray()) {
            if (letter != ' ') {
                fault(letter + "1;", 0);
                fault("u1" + letter, 2);
                fault("u1;" + letter, 3);
            }
        }
        fault("u" + (char) 178 + ";", 1);
        fault("u" + (char) 185 + ";", 1);
    }

    /** "(the next UNIT: GAP)", "GAP, 1 to 6" */
    private static void promise04_gaps() {
        SplicedWeb x = told("u1;u6;");
        due("GAP 1", x.unit(1, 0), 1);
        due("GAP 6", x.unit(2, 0), 6);
        due("WAY", x.unit(2, 1), 7);
        fault("u0;", 1);
        fault("u7;", 1);
        fault("u1; u 7;", 6);
    }

    /** "(1 to 4)", "a fourth u" */
    private static void promise04_aFourthUnitToldIsTooMany() {
        items("u6;u6;u6;", 3);
        due("UNITS", told("u6;u6;u6;").count(0), 4);
        fault("u1;u1;u1;u1;", 9);
        fault("u1;u1;u1; u", 10);
        fault("u1;e1;u1;r9 1;u1;i1;u", 20);
    }

    /** "REELS 0, 1, .. (8 at most)", "a ninth r" */
    private static void promise04_aNinthReelIsTooMany() {
        String eight = "r1 1;".repeat(8);
        items(eight, 8);
        due("REELS", told(eight).count(1), 8);
        fault(eight + "r1 1;", 40);
        fault(eight + "u1;  r", 45);
    }

    /** "COPIES (1 to 99)" */
    private static void promise04_copies() {
        due("COPIES 1", told("r1 0;").reel(0, 0), 1);
        due("COPIES 99", told("r99 0;").reel(0, 0), 99);
        fault("r0 1;", 1);
        fault("r100 1;", 1);
        fault("r-1 1;", 1);
    }

    /** "STRETCH (-9 to 9)", "with - below 0" */
    private static void promise04_stretches() {
        due("STRETCH 9", told("r1 9;").reel(0, 1), 9);
        due("STRETCH 0", told("r1 0;").reel(0, 1), 0);
        due("STRETCH -1", told("r1-1;").reel(0, 1), -1);
        due("STRETCH -9", told("r1 - 9;").reel(0, 1), -9);
        fault("r1 10;", 3);
        fault("r1-10;", 3);
        fault("r1--1;", 3);
    }

    /** "-0 is 0" */
    private static void promise04_zeroWithABarIsZero() {
        items("r1-0;", 1);
        due("STRETCH", told("r1 - 0 ;").reel(0, 1), 0);
        fault("r1-00;", 3);
    }

    /** "- below 0" is told of a STRETCH alone */
    private static void promise04_aBarStandsAheadOfAStretchAlone() {
        fault("u-1;", 1);
        fault("e-1;", 1);
        fault("l-1;", 1);
        fault("i-0;", 1);
        fault("p-1;", 1);
        fault("-", 0);
        fault("r1 1-;", 4);
    }

    /** "EYE copies (1 to 9 .." */
    private static void promise04_eyes() {
        due("EYE 1", told("e1;").count(13), 1);
        due("EYE 9", told("e9;").count(13), 9);
        fault("e0;", 1);
        fault("e10;", 1);
    }

    /** "LIMIT (1 to 20 .." */
    private static void promise04_limits() {
        due("LIMIT 1", told("l1;").count(14), 1);
        due("LIMIT 20", told("l20;").count(14), 20);
        fault("l0;", 1);
        fault("l21;", 1);
    }

    /** "IDLE (0 to 9 .." */
    private static void promise04_idles() {
        due("IDLE 0", told("i0;").count(15), 0);
        due("IDLE 9", told("i9;").count(15), 9);
        fault("i10;", 1);
    }

    /** "SPIN (1 to 20 .." */
    private static void promise04_spins() {
        due("SPIN 1", told("p1;").count(16), 1);
        due("SPIN 20", told("p20;").count(16), 20);
        fault("p0;", 1);
        fault("p21;", 1);
    }

    /** "the last four once at most each", "a letter told again" */
    private static void promise04_theLastFourOnceAtMost() {
        items("e1;l1;i1;p1;", 4);
        for (String letter : new String[] {"e", "l", "i", "p"}) {
            fault(letter + "1;" + letter + "1;", 3);
            fault(letter + "1;u1; " + letter, 7);
        }
        fault("e1;l1;i1;p1;i1;", 12);
        items("u1;u1;r1 1;r1 1;", 4);
    }

    /** What was told once is told anew by the next text, and after a fault too. */
    private static void promise04_onceIsMeantOfOneText() {
        SplicedWeb x = told("e2;");
        due("e again in another text", tell(x, "e4;"), 1);
        due("EYE", x.count(13), 4);
        due("a fault", tell(x, "l9;l"), -13);
        x.clear();
        due("l behind a fault", tell(x, "l9;"), 1);
    }

    /** "a NUMBER above 99 .. that TOKEN's": not by what it wraps around to */
    private static void promise04_numbersAbove99() {
        fault("r100 1;", 1);
        fault("r 257 1;", 2);
        fault("r4294967297 1;", 1);
        fault("r18446744073709551617 1;", 1);
        fault("r1 4294967297;", 3);
        fault("u65537;", 1);
        fault("u1;100", 3);
        fault("r" + "9".repeat(119), 1);
        fault("r" + "9".repeat(117) + "1;", 1);
    }

    /** "or with a 0 ahead of others" */
    private static void promise04_aZeroAhead() {
        fault("u01;", 1);
        fault("u00;", 1);
        fault("r01 1;", 1);
        fault("r1 01;", 3);
        fault("r1 00;", 3);
        fault("i00;", 1);
        fault("i01;", 1);
        fault("i000000000;", 1);
        items("i0;r10 0;", 2);
    }

    /** "the text's length, if it ends too early" */
    private static void promise04_itEndsTooEarly() {
        String whole = "r9-3;";
        for (int length = 1; length < whole.length(); length++) {
            fault(whole.substring(0, length), length);
        }
        for (String letter : new String[] {"u", "e", "l", "i", "p"}) {
            fault(letter, 1);
            fault(letter + "1", 2);
        }
        fault("r9 3", 4);
    }

    /** The length is the text's, blanks behind the last TOKEN among it. */
    private static void promise04_itEndsTooEarlyBehindBlanks() {
        fault("u   ", 4);
        fault("u1  ", 4);
        fault("u1;r9 - ", 8);
        fault("u1" + " ".repeat(118), 120);
    }

    /** A TOKEN that can't stand goes ahead of the end that comes too early. */
    private static void promise04_aTokenGoesAheadOfTheEnd() {
        fault("u7", 1);
        fault("uu", 1);
        fault("r9-;", 3);
        fault("r9;", 2);
        fault("e;", 1);
        fault(";", 0);
        fault("u1;;", 3);
        fault("r;", 1);
        fault("r-;", 1);
        fault("5", 0);
        fault("99;", 0);
        fault("u1; 0", 4);
        fault("u1 1", 3);
        fault("r1 1 1", 5);
    }

    /** "the first TOKEN that can't stand there": of several faults the first */
    private static void promise04_theFirstOfSeveral() {
        fault("u7;x", 1);
        fault("x;u7;", 0);
        fault("u1;e1;u9;e1;", 7);
        fault("r1 1;r0 01;", 6);
    }

    /** "-10 less FAULT": at the first place and at the last of a full text */
    private static void promise04_theFirstAndTheLastPlace() {
        fault("x" + " ".repeat(119), 0);
        fault(" ".repeat(119) + "x", 119);
        fault(" ".repeat(119) + "u", 120);
    }

    /** "what it does not tell is as at first": of the emptiest text all */
    private static void promise04_whatIsNotToldIsAsAtFirst() {
        SplicedWeb x = told("u1;u2;e9;l9;i9;p9;r9 9;");
        due("tells() of nothing", x.tells(), 0);
        same("all is as at first", picture(x), picture(new SplicedWeb()));
    }

    /** "all of 2 as at first, what was SEEN, IMAGES are gone, nothing can be UNDONE" */
    private static void promise04_allIsAnew() {
        for (SplicedWeb x : new SplicedWeb[] {busy(), broken(), full()}) {
            x.clear();
            due("tells()", tell(x, "u2;u1;r5 3;"), 3);
            same("as of a new object", picture(x), picture(told("u2;u1;r5 3;")));
            due("undo()", x.undo(), STATE);
            due("back(0)", x.back(0), STATE);
            due("back(1)", x.back(1), STATE);
        }
    }

    /** "THE TEXT .. is empty then": it can be filled again */
    private static void promise04_theTextIsEmptyThen() {
        SplicedWeb x = full();
        due("tells()", x.tells(), 1);
        due("letters", x.count(18), 0);
        due("type", x.type('u'), 1);
    }

    /** "(THE TEXT stays, too)": it can be gone on with */
    private static void promise04_theTextStaysBehindAFault() {
        SplicedWeb x = new SplicedWeb();
        due("u1", tell(x, "u1"), -12);
        due("the ; comes", x.type(';'), 3);
        due("tells()", x.tells(), 1);
    }
}
