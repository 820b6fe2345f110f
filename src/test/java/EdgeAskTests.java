import java.util.Arrays;

/**
 * Promises 12 to 24: a test for each sentence that names a boundary, its words as the document has
 * them stand above it.
 */
public final class EdgeAskTests extends Due {
    private static final String FOUR = "u1;u1;u1;";

    public static void main(String[] args) throws IllegalAccessException {
        runEach(EdgeAskTests.class, 12, 24);
        finish();
    }

    // ---- 12: Of a UNIT .. NO: BAD.

    /** "NO: BAD": no such UNIT */
    private static void promise12_noSuchUnit() {
        for (int k : new int[] {-1, 4, LEAST, GREATEST}) {
            for (int what = 0; what <= 5; what++) {
                due("unit(" + k + ", " + what + ")", busy().unit(k, what), NO);
            }
            refused("unit(" + k + ", 0)", Due::busy, x -> x.unit(k, 0), NO);
        }
        due("the last UNIT", busy().unit(3, 0), 1);
        due("UNIT 1 of a new object", new SplicedWeb().unit(1, 0), NO);
        due("UNIT 3 of three", broken().unit(3, 3), NO);
    }

    /** "NO: BAD": no such thing of a UNIT */
    private static void promise12_noSuchWhat() {
        for (int what : new int[] {-1, 6, LEAST, GREATEST}) {
            refused("unit(1, " + what + ")", Due::busy, x -> x.unit(1, what), NO);
            due("unit(0, " + what + ")", new SplicedWeb().unit(0, what), NO);
        }
    }

    /** "0 GAP (0 of UNIT 0)", "WAY .. (0 of UNIT 0)", "OFF .. 0 .. always of UNIT 0", SHIFT "none of UNIT 0" */
    private static void promise12_unit0() {
        unitIs("UNIT 0", busy(), 0, 0, 0, 0, 0, 0, 0);
        unitIs("UNIT 0, BROKEN", broken(), 0, 0, 0, 0, 0, 0, 0);
        unitIs("UNIT 0, new", new SplicedWeb(), 0, 0, 0, 0, 0, 0, 0);
    }

    /** "1 WAY": the longest */
    private static void promise12_theLongestWay() {
        SplicedWeb x = told("u6;u6;u6;");
        for (int k = 0; k <= 3; k++) {
            due("WAY of UNIT " + k, x.unit(k, 1), 6 * k);
        }
    }

    /** "5 what is to be passed ahead to it in all": nothing, one, several at one TICK and at others */
    private static void promise12_toBePassedInAll() {
        SplicedWeb x = told("u1;u6;e9;i9;r99 0;");
        due("nothing", x.unit(2, 5), 0);
        x.corrects(1, 20);
        due("one", x.unit(2, 5), -20);
        x.corrects(1, -3);
        due("two at one TICK", x.unit(2, 5), -17);
        x.ticks(1);
        x.corrects(1, -9);
        due("another at another TICK", x.unit(2, 5), -8);
        x.corrects(1, -8);
        due("that make 0 together", x.unit(2, 5), 0);
        x.ticks(6);
        due("the first two came", x.unit(2, 5), 17);
        due("to UNIT 1 never", x.unit(1, 5), 0);
    }

    // ---- 13: Of a REEL .. NO: BAD.

    /** "NO: BAD": no such REEL */
    private static void promise13_noSuchReel() {
        for (int r : new int[] {-1, 3, LEAST, GREATEST}) {
            for (int what = 0; what <= 2; what++) {
                due("reel(" + r + ", " + what + ")", busy().reel(r, what), NO);
            }
            refused("reel(" + r + ", 2)", Due::busy, x -> x.reel(r, 2), NO);
        }
        due("REEL 0 of a new object", new SplicedWeb().reel(0, 0), NO);
        due("REEL -9 of a new object", new SplicedWeb().reel(NONE, 2), NO);
    }

    /** "NO: BAD": no such thing of a REEL */
    private static void promise13_noSuchWhat() {
        for (int what : new int[] {-1, 3, LEAST, GREATEST}) {
            refused("reel(0, " + what + ")", Due::busy, x -> x.reel(0, what), NO);
        }
    }

    /** "8 at most": the last of eight */
    private static void promise13_theEighthReel() {
        SplicedWeb x = told("r1 1;".repeat(7) + "r99-9;");
        due("COPIES", x.reel(7, 0), 99);
        due("STRETCH", x.reel(7, 1), -9);
        due("LEFT", x.reel(7, 2), 99);
        due("a ninth", x.reel(8, 0), NO);
    }

    /** "2 LEFT (COPIES, if it was not on yet)": ahead, while and behind it is on */
    private static void promise13_left() {
        SplicedWeb x = told("p1;r2 0;r3 0;r4 0;");
        due("on, all LEFT", x.reel(0, 2), 2);
        due("not on yet", x.reel(1, 2), 3);
        x.spins();
        due("spun is not on yet", x.reel(1, 2), 3);
        x.ticks(2);
        due("none LEFT", x.reel(0, 2), 0);
        due("still not on yet", x.reel(1, 2), 3);
        x.ticks(1);
        due("it was on", x.reel(0, 2), 0);
        due("on by a TICK", x.reel(1, 2), 2);
        due("not on yet", x.reel(2, 2), 4);
        due("COPIES of one that was on", x.reel(0, 0), 2);
    }

    // ---- 14: The copy that came to the CAMERA last .. NOT: none came yet. NO: BAD.

    /** "NO: BAD": too small, too large */
    private static void promise14_noSuchWhat() {
        for (int what : new int[] {-1, 7, LEAST, GREATEST}) {
            refused("last(" + what + ")", Due::busy, x -> x.last(what), NO);
        }
    }

    /** "NOT: none came yet": up to the TICK ahead of the first, for each thing */
    private static void promise14_noneCameYet() {
        SplicedWeb x = told("u2;e3;r9 1;");
        x.ticks(5);
        lastIs("one TICK ahead", x, NOT, NOT, NOT, NOT, NOT, NOT, NOT);
        x.ticks(1);
        lastIs("the first", x, 0, 0, 1, 0, 1, 0, 0);
    }

    /** "the first of these that is so": BAD though none came */
    private static void promise14_badGoesAheadOfNone() {
        due("last(7)", new SplicedWeb().last(7), NO);
        due("last(-1)", new SplicedWeb().last(-1), NO);
    }

    /** "3 to 6 ERRORS of UNITS 0 to 3 (0 of one that there is not)" */
    private static void promise14_errorsOfUnitsThatThereAreNot() {
        for (int units = 1; units <= 4; units++) {
            SplicedWeb x = told("u1;".repeat(units - 1) + "e1;i9;r99 3;");
            x.ticks(units + 1);
            for (int k = 0; k <= 3; k++) {
                due("ERROR of UNIT " + k + " of " + units, x.last(3 + k), k < units ? 3 * k : 0);
            }
        }
    }

    /** The same, when there were more UNITS in the text that was told ahead of this one */
    private static void promise14_errorsOfUnitsThatAreGone() {
        SplicedWeb x = told(FOUR + "e9;i9;r99 3;");
        x.ticks(40);
        due("ERROR of UNIT 3", x.last(6), 9);
        tell(x, "u1;e9;i9;r99 3;");
        x.ticks(11);
        lastIs("two UNITS", x, 0, 0, 1, 0, 3, 0, 0);
        x.ticks(20);
        lastIs("two UNITS", x, 20, 0, 1, 0, 3, 0, 0);
    }

    /** Copies that are WASTE by a break did not come to the CAMERA */
    private static void promise14_aBreakIsNoCamera() {
        SplicedWeb x = told("e9;r5 0;r5 0;");
        x.ticks(60);
        due("WASTE", x.count(5), 5);
        due("number", x.last(0), NOT);
        x = told("e1;r5 0;r5 0;");
        x.ticks(60);
        due("number", x.last(0), 3);
        x.starts();
        due("number when started", x.last(0), 3);
    }

    // ---- 15: ERROR of a UNIT on the copy that is under way .. NOT .. NO: BAD (k below 0).

    /** "NO: BAD (k below 0)" */
    private static void promise15_kBelow0() {
        for (int k : new int[] {-1, LEAST}) {
            refused("error(1, " + k + ")", Due::busy, x -> x.error(1, k), NO);
            due("error(0, " + k + ") of a new object", new SplicedWeb().error(0, k), NO);
        }
    }

    /** "NO: BAD": no such UNIT, whatever k is */
    private static void promise15_noSuchUnit() {
        for (int unit : new int[] {-1, 4, LEAST, GREATEST}) {
            refused("error(" + unit + ", 0)", Due::busy, x -> x.error(unit, 0), NO);
            due("error(" + unit + ", 99)", busy().error(unit, 99), NO);
        }
        due("error(1, 0) of a new object", new SplicedWeb().error(1, 0), NO);
    }

    /** "NOT: not so many copies": none, as many as there are, one more, far more */
    private static void promise15_notSoManyCopies() {
        due("none", new SplicedWeb().error(0, 0), NOT);
        SplicedWeb x = told("u6;u6;u6;e9;i9;r99 1;");
        for (int ticks = 1; ticks <= 40; ticks++) {
            x.ticks(1);
            int underWay = Math.min(ticks, 27);
            due("the oldest behind TICK " + ticks, x.error(0, underWay - 1), 0);
            due("one more behind TICK " + ticks, x.error(0, underWay), NOT);
        }
        due("the oldest of UNIT 3", x.error(3, 26), 3);
        for (int k : new int[] {27, 28, 31, 32, 33, 64, GREATEST}) {
            due("error(3, " + k + ")", x.error(3, k), NOT);
        }
    }

    /** "NOT: .. or it was not printed there yet": for each UNIT the first that is printed */
    private static void promise15_notPrintedThereYet() {
        SplicedWeb x = told("u1;u6;u2;e1;i9;r99 1;");
        x.ticks(30);
        int[] way = {0, 1, 7, 9};
        for (int k = 0; k <= 3; k++) {
            due("printed at UNIT " + k, x.error(k, way[k]), k);
            if (k > 0) {
                due("not yet at UNIT " + k, x.error(k, way[k] - 1), NOT);
            }
        }
    }

    /** "(0: the one that began last)" */
    private static void promise15_theOneThatBeganLast() {
        SplicedWeb x = told("u1;e3;i9;p1;r3 1;r9 2;");
        x.spins();
        x.ticks(5);
        due("STRETCH 2, copy 3", x.error(1, 1), 2);
        due("STRETCH 1, copy 2", x.error(1, 2), 1);
        due("copy 4 is not printed", x.error(1, 0), NOT);
        due("copy 4 is there", x.error(0, 0), 0);
    }

    /** When BROKEN, and when STARTED, none is under way */
    private static void promise15_noneUnderWay() {
        SplicedWeb x = broken();
        due("BROKEN", x.error(0, 0), NOT);
        x.starts();
        due("STARTED", x.error(0, 0), NOT);
        x.ticks(1);
        due("a TICK behind", x.error(0, 0), 0);
        due("no older one", x.error(0, 1), NOT);
    }

    // ---- 16: STEADY; NONE.

    /** "NONE, .. if it is BROKEN" */
    private static void promise16_broken() {
        refused("steady()", Due::broken, SplicedWeb::steady, NONE);
    }

    /** "NONE, .. or no REEL is on" */
    private static void promise16_noReelIsOn() {
        refused("steady()", SplicedWeb::new, SplicedWeb::steady, NONE);
        refused("steady() of UNITS alone", () -> told("u1;u1;"), SplicedWeb::steady, NONE);
    }

    /** "the fewest TICKS (0 ..": steady from now on */
    private static void promise16_steadyFromNow() {
        due("UNIT 0 alone", told("r1 9;").steady(), 0);
        due("no STRETCH", told(FOUR + "i0;r1 0;").steady(), 0);
    }

    /** "no ERROR more than IDLE away from 0": just IDLE, and one more, on either side */
    private static void promise16_idle() {
        due("at IDLE", told("u1;e1;i3;r9 3;").steady(), 0);
        due("at IDLE below 0", told("u1;e1;i3;r9-3;").steady(), 0);
        due("beyond", told("u1;e1;i3;r9 4;").steady(), 4);
        due("beyond below 0", told("u1;e1;i3;r9-4;").steady(), 4);
        due("the last UNIT alone is beyond", told(FOUR + "e1;i3;l20;r9 1;").steady(), 0);
        due("the last UNIT alone is beyond", told(FOUR + "e1;i2;l20;r9 1;").steady(), 6);
    }

    /** "(0 to 200)", "NONE, if by none": just 200, then 201; such a WAIT no run makes, it is set from outside */
    private static void promise16_200() {
        due("no WAIT", withWait(0).steady(), 4);
        due("199", withWait(195).steady(), 199);
        due("200", withWait(196).steady(), 200);
        due("201", withWait(197).steady(), NONE);
        due("299", withWait(295).steady(), NONE);
        due("never", withWait(1000).steady(), NONE);
    }

    /** OFF of UNIT 1 is 3, and it comes to be CORRECTED by the first copy behind so many. */
    private static SplicedWeb withWait(int wait) {
        SplicedWeb x = told("u1;e1;i0;r9 0;");
        x.drifts(1, 3);
        ((int[]) inner(inner(x, "press"), "waits"))[1] = wait;
        return x;
    }

    /** "by TICK 300 from now": the first that comes is the one of TICK 300, then 301; it is set from outside, too */
    private static void promise16_byTick300() {
        due("the first copy of all", firstComesAt(3).steady(), 4);
        due("200 is the last that is out", firstComesAt(199).steady(), 200);
        due("299", firstComesAt(299).steady(), NONE);
        due("300", firstComesAt(300).steady(), NONE);
        due("301", firstComesAt(301).steady(), 0);
    }

    /** OFF of UNIT 1 is 3, and copies are held back, so that the first comes to the CAMERA at this TICK. */
    private static SplicedWeb firstComesAt(int tick) {
        SplicedWeb x = told("u1;e1;i0;r9 0;");
        x.drifts(1, 3);
        setInner(inner(inner(x, "press"), "band"), "underWay", 3 - tick);
        return x;
    }

    /** "(the REEL that is on lasting for ever": with one copy, with none LEFT, the next one being spun */
    private static void promise16_theReelLastsForEver() {
        SplicedWeb x = told("u1;e1;i0;p1;r1 2;r9 9;");
        due("one copy LEFT", x.steady(), 4);
        x.spins();
        x.ticks(1);
        due("none LEFT", x.steady(), 3);
        due("none is pasted by it", x.count(12), 0);
    }

    /** "(Nothing is changed.)" */
    private static void promise16_nothingIsChanged() {
        SplicedWeb x = busy();
        int steady = x.steady();
        refused("steady()", Due::busy, SplicedWeb::steady, steady);
    }

    // ---- 17: COST of a splice (it may be below 0). NOT: there is none.

    /** "none (NOT), if it is BROKEN": though there is a next REEL */
    private static void promise17_broken() {
        refused("cost()", Due::broken, SplicedWeb::cost, NOT);
    }

    /** "none (NOT), .. or there is no next REEL": none at all, one alone, the last of several */
    private static void promise17_noNextReel() {
        refused("cost() of no REEL", SplicedWeb::new, SplicedWeb::cost, NOT);
        refused("cost() of one REEL", () -> told("u1;r9 0;"), SplicedWeb::cost, NOT);
        SplicedWeb x = told("p1;r1 0;r9 0;");
        due("a next one", x.cost(), 1);
        x.spins();
        x.ticks(2);
        due("the last", x.cost(), NOT);
    }

    /** "(it may be below 0)", 0 too */
    private static void promise17_belowZeroAndZero() {
        due("below 0", told("u1;e1;l2;i9;r9 5;r9 0;").cost(), -197);
        SplicedWeb x = told("u1;e1;l2;i9;r9 5;r9 5;");
        due("all is WASTE with and without", x.cost(), 0);
    }

    /** "by TICK 200 from now": the copies that come by it, by the shortest way and the longest */
    private static void promise17_byTick200() {
        due("shortest", told("u1;e1;l2;i9;r1 0;r1 5;").cost(), 198);
        due("longest", told("u6;u6;u6;e9;l2;i9;r1 0;r1 1;").cost(), 173);
        SplicedWeb x = told("u1;e1;l2;i9;r9 0;r9 5;");
        x.ticks(5);
        due("from now", x.cost(), 198);
    }

    /** "(whatever is LEFT, SPUN)": all LEFT, none LEFT, not spun, spun too little, spun */
    private static void promise17_whateverIsLeftAndSpun() {
        String text = "u1;e1;l2;i0;p4;r9 0;r9 3;";
        SplicedWeb x = told(text);
        due("all LEFT, not spun", x.cost(), 3);
        x.ticks(9);
        due("none LEFT, not spun", x.cost(), 3);
        x = told(text);
        x.ticks(8);
        x.spins();
        due("one LEFT, SPUN 1", x.cost(), 3);
        x.ticks(1);
        due("none LEFT, spun too little", x.cost(), 3);
        x = told(text);
        x.spins();
        x.ticks(9);
        due("none LEFT, spun", x.cost(), 3);
    }

    /** "both lasting for ever": REELS of one copy cost as those of 99 */
    private static void promise17_bothLastForEver() {
        due("one copy each", told("u1;e1;l2;i0;r1 0;r1 3;").cost(), 3);
        due("99 each", told("u1;e1;l2;i0;r99 0;r99 3;").cost(), 3);
    }

    /** "(Nothing is changed.)" */
    private static void promise17_nothingIsChanged() {
        SplicedWeb x = busy();
        int cost = x.cost();
        refused("cost()", Due::busy, SplicedWeb::cost, cost);
    }

    // ---- 18: SEEN (a UNIT but 0; x -99 .. 99): how much there is. BAD; FULL: 6.

    /** "x -99 .. 99": the least and the greatest */
    private static void promise18_seen99() {
        SplicedWeb x = told("u1;");
        due("sees(1, 99)", x.sees(1, 99), 1);
        due("sees(1, -99)", x.sees(1, -99), 2);
    }

    /** "x -99 .. 99 .. BAD": too small, too large */
    private static void promise18_xBeyondIsBad() {
        for (int amount : new int[] {-100, 100, LEAST, GREATEST}) {
            refused("sees(1, " + amount + ")", Due::busy, x -> x.sees(1, amount), BAD);
        }
    }

    /** "a UNIT but 0 .. BAD", "there is no such thing" */
    private static void promise18_noSuchUnitIsBad() {
        for (int unit : new int[] {0, -1, 4, LEAST, GREATEST}) {
            refused("sees(" + unit + ", 1)", Due::busy, x -> x.sees(unit, 1), BAD);
        }
        due("the last UNIT", busy().sees(3, 1), 2);
        refused("sees(1, 1)", SplicedWeb::new, x -> x.sees(1, 1), BAD);
    }

    /** "SEEN (6 at most)", "FULL: 6": the sixth is, the seventh is not */
    private static void promise18_theSeventhIsFull() {
        SplicedWeb x = told("u1;");
        for (int i = 1; i <= 6; i++) {
            due("sees() " + i, x.sees(1, 2), i);
        }
        due("sees() 7", x.sees(1, 2), FULL);
        refused("sees(1, 3)", Due::full, w -> w.sees(1, 3), FULL);
    }

    /** "the first of these that is so: BAD .., FULL" */
    private static void promise18_badGoesAheadOfFull() {
        refused("sees(0, 1)", Due::full, x -> x.sees(0, 1), BAD);
        refused("sees(4, 1)", Due::full, x -> x.sees(4, 1), BAD);
        refused("sees(1, 100)", Due::full, x -> x.sees(1, 100), BAD);
    }

    // ---- 19: Nothing is SEEN: how much was.

    /** "how much was": nothing */
    private static void promise19_nothingWas() {
        due("a new object", new SplicedWeb().forget(), 0);
        SplicedWeb x = busy();
        due("one", x.forget(), 1);
        due("none then", x.forget(), 0);
    }

    /** "how much was": six, and then there is room for six again */
    private static void promise19_sixWere() {
        SplicedWeb x = full();
        due("forget()", x.forget(), 6);
        due("SEEN", x.count(17), 0);
        due("which() of nothing SEEN", x.which(), 127);
        for (int i = 1; i <= 6; i++) {
            due("sees() " + i, x.sees(2, 0), i);
        }
        due("sees() 7", x.sees(2, 0), FULL);
        due("which() of what is SEEN now", x.which(), 2 + 8 + 64);
    }

    // ---- 20: WHICH, as bits 0 to 6.

    private static SplicedWeb seen(String text, int... pairs) {
        SplicedWeb x = told(text);
        for (int i = 0; i + 1 < pairs.length; i += 2) {
            x.sees(pairs[i], pairs[i + 1]);
        }
        return x;
    }

    private static void which(String text, int want, int... pairs) {
        due("which() by " + Arrays.toString(pairs), seen(text, pairs).which(), want);
    }

    /** "CAUSES (of UNITS that there are)": nothing SEEN, by one UNIT to four */
    private static void promise20_nothingSeen() {
        which("", 1);
        which("u1;", 1 + 2 + 16);
        which("u1;u1;", 1 + 2 + 4 + 16 + 32);
        which(FOUR, 127);
    }

    /** "(of UNITS that there are)": what would fit a UNIT that there is not */
    private static void promise20_unitsThatThereAre() {
        which("u1;", 0, 1, 0);
        which("u1;u1;", 4 + 32, 1, 0);
        which("u1;u1;", 0, 1, 0, 2, 0);
    }

    /** "s being -20 to 20": STRETCH by 20, and by 21, at each UNIT */
    private static void promise20_stretchBy20() {
        for (int sign : new int[] {1, -1}) {
            which(FOUR, 1 + 2 + 16, 1, 20 * sign);
            which(FOUR, 1, 2, 40 * sign);
            which(FOUR, 1, 3, 60 * sign);
            which(FOUR, 0, 2, 42 * sign);
            which(FOUR, 0, 3, 63 * sign);
            which(FOUR, 0, 2, 39 * sign);
            which(FOUR, 0, 3, 59 * sign);
            which(FOUR, 0, 3, 99 * sign);
        }
    }

    /** "s being -20 to 20": OFF and SHIFT by 20, and by 21 */
    private static void promise20_offAndShiftBy20() {
        for (int sign : new int[] {1, -1}) {
            which(FOUR, 2, 1, 20 * sign, 2, 0);
            which(FOUR, 16, 1, 20 * sign, 2, 20 * sign);
            which(FOUR, 8 + 64, 3, 20 * sign, 2, 0);
            which(FOUR, 0, 1, 21 * sign);
            which(FOUR, 0, 3, 21 * sign, 2, 0);
            which(FOUR, 1, 3, 21 * sign, 1, 7 * sign);
        }
    }

    /** "not 0": nothing makes all of them 0 */
    private static void promise20_notByNothing() {
        which(FOUR, 0, 1, 0, 2, 0, 3, 0);
        which(FOUR, 4 + 8 + 32 + 64, 1, 0);
        which(FOUR, 2 + 8 + 64, 2, 0);
        which(FOUR, 2 + 4, 3, 0);
    }

    /** "x is s for j of k or higher": just k, and one below */
    private static void promise20_shiftFromItsUnitOn() {
        which(FOUR, 16, 1, 5, 2, 5, 3, 5);
        which(FOUR, 32, 1, 0, 2, 5, 3, 5);
        which(FOUR, 8 + 64, 1, 0, 2, 0, 3, 5);
        which(FOUR, 0, 1, 5, 2, 5, 3, 0);
    }

    /** "all that was SEEN": the first and the sixth count as the others do */
    private static void promise20_allThatWasSeen() {
        which(FOUR, 2, 2, 0, 1, 5, 1, 5, 1, 5, 1, 5, 1, 5);
        which(FOUR, 2, 1, 5, 1, 5, 1, 5, 1, 5, 1, 5, 2, 0);
        which(FOUR, 0, 1, 5, 1, 5, 1, 5, 1, 5, 1, 5, 1, 6);
        which(FOUR, 0, 1, 6, 1, 5, 1, 5, 1, 5, 1, 5, 1, 5);
    }

    // ---- 21: LOOK; NONE.

    private static void look(String text, int want, int... pairs) {
        due("look() by " + Arrays.toString(pairs), seen(text, pairs).look(), want);
    }

    /** "NONE (one can be at most)": none can be */
    private static void promise21_noneCanBe() {
        look(FOUR, NONE, 1, 21);
        look("u1;", NONE, 1, 0);
    }

    /** "NONE (one can be at most)": just one can be; STRETCH alone, of UNIT 0 alone, too */
    private static void promise21_oneCanBe() {
        look(FOUR, NONE, 3, 60);
        look(FOUR, NONE, 1, 5, 2, 0);
        look(FOUR, NONE, 1, 5, 2, 5);
        look("", NONE);
    }

    /** "one can be at most": two can be, then one is looked at, though it parts them not */
    private static void promise21_twoCanBe() {
        look(FOUR, 3, 1, 0, 2, 5);
        look(FOUR, 1, 3, 5, 2, 0);
        look(FOUR, 1, 2, 0, 3, 7);
    }

    /** "of several the least" */
    private static void promise21_ofSeveralTheLeast() {
        look(FOUR, 1);
        look("u1;u1;", 1);
        look("u1;", 1);
        look(FOUR, 2, 1, 5);
        look(FOUR, 2, 1, 0);
    }

    // ---- 22: An IMAGE is kept: TICKS ever. BAD.

    /** "BAD": too small, too large */
    private static void promise22_noSuchImage() {
        for (int image : new int[] {-1, 2, LEAST, GREATEST}) {
            refused("keep(" + image + ")", Due::busy, x -> x.keep(image), BAD);
        }
    }

    /** "IMAGES 0, 1": each by itself; "TICKS ever": at first 0 */
    private static void promise22_bothImages() {
        SplicedWeb x = told("u1;r9 0;");
        due("keep(0)", x.keep(0), 0);
        x.ticks(3);
        due("keep(1)", x.keep(1), 3);
        x.ticks(3);
        due("back(0)", x.back(0), 0);
        due("back(1)", x.back(1), 3);
        due("TICKS", x.count(2), 3);
    }

    /** One that is kept over another takes its place; what is done later is not in it */
    private static void promise22_keptOver() {
        SplicedWeb x = told("u1;r9 0;");
        x.keep(0);
        x.drifts(1, 4);
        x.keep(0);
        x.drifts(1, 5);
        x.back(0);
        due("OFF", x.unit(1, 2), 4);
        x.drifts(1, 6);
        x.back(0);
        due("OFF again", x.unit(1, 2), 4);
    }

    /** Nothing is changed by keep(): what can be UNDONE stays, being full too */
    private static void promise22_nothingIsLost() {
        SplicedWeb x = full();
        due("keep(0)", x.keep(0), 0);
        due("may be UNDONE", x.count(19), 6);
        due("undo()", x.undo(), 5);
        due("OFF", x.unit(1, 2), 6);
    }

    // ---- 23: All of that becomes as an IMAGE has it: TICKS ever. BAD; STATE: none was kept.

    /** "BAD": too small, too large */
    private static void promise23_noSuchImage() {
        for (int image : new int[] {-1, 2, LEAST, GREATEST}) {
            refused("back(" + image + ")", Due::busy, x -> x.back(image), BAD);
        }
    }

    /** "STATE: none was kept": of the other one alone, of neither */
    private static void promise23_noneWasKept() {
        refused("back(1)", Due::busy, x -> x.back(1), STATE);
        refused("back(0)", Due::broken, x -> x.back(0), STATE);
        refused("back(0) of a new object", SplicedWeb::new, x -> x.back(0), STATE);
        refused("back(1) of a new object", SplicedWeb::new, x -> x.back(1), STATE);
    }

    /** "the first of these that is so: BAD .., STATE .." */
    private static void promise23_badGoesAheadOfState() {
        refused("back(2)", SplicedWeb::new, x -> x.back(2), BAD);
        refused("back(-1)", SplicedWeb::new, x -> x.back(-1), BAD);
    }

    /** "(A text told: .. IMAGES are gone"; by one that has a fault they are not */
    private static void promise23_goneByAText() {
        SplicedWeb x = full();
        x.clear();
        due("a fault", tell(x, "x"), -10);
        due("back(0)", x.back(0), 0);
        x.clear();
        due("a text", x.tells(), 0);
        due("back(0) behind it", x.back(0), STATE);
        due("back(1) behind it", x.back(1), STATE);
    }

    /** "(nothing can be UNDONE behind back())", "keep all that 2 tells; nothing else" */
    private static void promise23_nothingCanBeUndone() {
        SplicedWeb x = full();
        due("back(0)", x.back(0), 0);
        due("may be UNDONE", x.count(19), 0);
        due("undo()", x.undo(), STATE);
        due("SEEN", x.count(17), 6);
        due("letters", x.count(18), 120);
        due("what is done then", x.drifts(1, 9), 1);
        due("can be UNDONE", x.undo(), 0);
        due("to what the IMAGE has", x.unit(1, 2), 0);
    }

    /** A SPLICE under way, GOOD and WASTE that came, kept as an IMAGE. */
    private static SplicedWeb splicedAndKept() {
        SplicedWeb x = told("u1;u2;u1;e3;l4;i0;p1;r9 1;r40-2;r9 3;");
        x.spins();
        x.ticks(12);
        x.keep(1);
        return x;
    }

    /** "All of that becomes as an IMAGE has it": as of one that was never anywhere else, now and later */
    private static void promise23_allBecomesAsTheImageHasIt() {
        SplicedWeb x = splicedAndKept();
        x.ticks(50);
        due("back(1)", x.back(1), 12);
        same("now", pictureOfRun(x), pictureOfRun(splicedAndKept()));
        x = splicedAndKept();
        x.ticks(50);
        x.back(1);
        SplicedWeb other = splicedAndKept();
        for (int i = 1; i <= 9; i++) {
            due("ticks() " + i, x.ticks(1), other.ticks(1));
            for (int what = 0; what <= 6; what++) {
                due("last(" + what + ") " + i + " TICKS later", x.last(what), other.last(what));
            }
        }
    }

    /** The same of a SPLICE that was pasted, and of the copy that came last */
    private static void promise23_aSplice() {
        SplicedWeb x = told("e1;p1;r1 0;r9 0;");
        x.spins();
        x.keep(0);
        x.ticks(3);
        x.keep(1);
        x.ticks(1);
        x.back(1);
        lastIs("the SPLICE", x, 1, 1, 0);
        due("SPLICES", x.count(12), 1);
        x.back(0);
        lastIs("none came", x, NOT, NOT, NOT);
        due("no SPLICES", x.count(12), 0);
        x.back(1);
        lastIs("the SPLICE again", x, 1, 1, 0);
        due("SPLICES again", x.count(12), 1);
    }

    /** Out of BROKEN and into it */
    private static void promise23_outOfBrokenAndIntoIt() {
        SplicedWeb x = broken();
        x.keep(0);
        due("back(1)", x.back(1), 0);
        due("RUNS", x.count(10), 1);
        due("ticks()", x.ticks(1), 0);
        due("back(0)", x.back(0), 6);
        due("BROKEN", x.count(10), 0);
        due("ticks()", x.ticks(1), STATE);
    }

    // ---- 24: count

    /** "BAD": too small, too large */
    private static void promise24_noSuchWhat() {
        for (int what : new int[] {-1, 20, LEAST, GREATEST}) {
            refused("count(" + what + ")", Due::busy, x -> x.count(what), BAD);
        }
    }

    /** "7 the REEL that is on (NONE), 8 the next one (NONE)": no REEL, one alone, the last of eight */
    private static void promise24_noReel() {
        due("none on", new SplicedWeb().count(7), NONE);
        due("none next", new SplicedWeb().count(8), NONE);
        due("one is on", told("r9 0;").count(7), 0);
        due("none next of one", told("r9 0;").count(8), NONE);
        due("the next of two", told("r9 0;r9 0;").count(8), 1);
        SplicedWeb x = told("r1 0;".repeat(8));
        for (int r = 1; r <= 7; r++) {
            x.ticks(2);
            x.starts();
        }
        due("the eighth is on", x.count(7), 7);
        due("none next of eight", x.count(8), NONE);
    }

    /** All that can be full, as it is counted */
    private static void promise24_fullAndEmpty() {
        SplicedWeb x = full();
        due("SEEN", x.count(17), 6);
        due("letters", x.count(18), 120);
        due("may be UNDONE", x.count(19), 6);
        x.forget();
        x.clear();
        x.back(0);
        due("SEEN none", x.count(17), 0);
        due("no letters", x.count(18), 0);
        due("none may be UNDONE", x.count(19), 0);
    }

    /** "10 whether it RUNS (1, 0), 11 whether AHEAD is on (1, 0)": each of both */
    private static void promise24_runsAndAhead() {
        SplicedWeb x = told("r1 0;r1 0;");
        due("RUNS", x.count(10), 1);
        due("AHEAD", x.count(11), 1);
        x.ticks(2);
        x.aheads(0);
        due("RUNS no more", x.count(10), 0);
        due("AHEAD off", x.count(11), 0);
        x.starts();
        x.aheads(1);
        due("RUNS again", x.count(10), 1);
        due("AHEAD on again", x.count(11), 1);
    }
}
