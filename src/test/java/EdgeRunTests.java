/**
 * Promises 5 to 11: a test for each sentence that names a boundary, its words as the document has
 * them stand above it.
 */
public final class EdgeRunTests extends Due {
    public static void main(String[] args) throws IllegalAccessException {
        runEach(EdgeRunTests.class, 5, 11);
        finish();
    }

    /** No run of calls comes near 9999 TICKS (8 REELS of 99 COPIES), so they are set from outside. */
    private static SplicedWeb withTicksEver(SplicedWeb x, int ticks) {
        setInner(inner(x, "press"), "ticksEver", ticks);
        return x;
    }

    private static void brokenAt(String when, SplicedWeb x, int ticks, int copies, int good, int waste) {
        counts(when, x, x.count(0), x.count(1), ticks, copies, good, waste, 0);
        due(when + ": RUNS", x.count(10), 0);
    }

    // ---- 5: n (1 .. 60) TICKS

    /** "n (1 .. 60)": the least */
    private static void promise05_oneTick() {
        SplicedWeb x = told("e1;r99 0;");
        due("ticks(1)", x.ticks(1), 0);
        due("TICKS", x.count(2), 1);
        due("ticks(1)", x.ticks(1), 1);
    }

    /** "n (1 .. 60)": the greatest */
    private static void promise05_sixtyTicks() {
        SplicedWeb x = told("e1;r99 0;");
        due("ticks(60)", x.ticks(60), 59);
        due("TICKS", x.count(2), 60);
    }

    /** "n (1 .. 60) .. BAD": too small, too large */
    private static void promise05_nBeyondIsBad() {
        for (int n : new int[] {0, -1, 61, LEAST, GREATEST}) {
            refused("ticks(" + n + ")", Due::busy, x -> x.ticks(n), BAD);
        }
    }

    /** "STATE: it is BROKEN" */
    private static void promise05_brokenIsState() {
        refused("ticks(1)", Due::broken, x -> x.ticks(1), STATE);
        refused("ticks(60)", Due::broken, x -> x.ticks(60), STATE);
    }

    /** "the first of these that is so: BAD .., STATE .." */
    private static void promise05_badGoesAheadOfState() {
        refused("ticks(0)", Due::broken, x -> x.ticks(0), BAD);
        refused("ticks(61)", Due::broken, x -> x.ticks(61), BAD);
    }

    /** "FULL: there would be more than 9999 TICKS ever": just 9999 can be */
    private static void promise05_9999TicksCanBe() {
        SplicedWeb x = withTicksEver(told("e1;r99 0;"), 9939);
        due("ticks(60)", x.ticks(60), 59);
        due("TICKS", x.count(2), 9999);
    }

    /** "FULL: there would be more than 9999 TICKS ever" */
    private static void promise05_moreThan9999AreFull() {
        refused("ticks(60)", () -> withTicksEver(busy(), 9940), x -> x.ticks(60), FULL);
        refused("ticks(1)", () -> withTicksEver(busy(), 9999), x -> x.ticks(1), FULL);
        due("ticks(59)", withTicksEver(told("e1;r99 0;"), 9940).ticks(59), 58);
    }

    /** "the first of these that is so: BAD .., STATE .., FULL" */
    private static void promise05_badAndStateGoAheadOfFull() {
        refused("ticks(61)", () -> withTicksEver(busy(), 9999), x -> x.ticks(61), BAD);
        refused("ticks(1)", () -> withTicksEver(broken(), 9999), x -> x.ticks(1), STATE);
    }

    /** "or as many as there can be till it is BROKEN", "the TICK is over by that (it counts)" */
    private static void promise05_asManyAsThereCanBe() {
        SplicedWeb x = told("e1;r5 0;");
        due("ticks(60)", x.ticks(60), 4);
        brokenAt("behind it", x, 6, 5, 4, 1);
        due("it is UNDONE at once", x.undo(), 0);
        due("TICKS", x.count(2), 0);
    }

    /** "how many copies came to the CAMERA GOOD by them": not by those ahead of them */
    private static void promise05_goodByTheseTicksAlone() {
        SplicedWeb x = told("e1;r99 0;");
        due("ticks(10)", x.ticks(10), 9);
        due("ticks(10)", x.ticks(10), 10);
        due("GOOD ever", x.count(4), 19);
    }

    /** "If none is LEFT on the REEL that is on": the last one of a REEL still begins */
    private static void promise05_theLastCopyOfAReel() {
        SplicedWeb x = told("e1;r5 0;");
        due("ticks(5)", x.ticks(5), 4);
        due("LEFT", x.reel(0, 2), 0);
        due("RUNS", x.count(10), 1);
        due("ticks(1)", x.ticks(1), 0);
        brokenAt("behind it", x, 6, 5, 4, 1);
    }

    /** "COPIES (1 ..": a REEL of one copy */
    private static void promise05_aReelOfOneCopy() {
        SplicedWeb x = told("e1;p1;r1 0;r1 0;");
        x.spins();
        x.ticks(1);
        due("LEFT", x.reel(0, 2), 0);
        due("RUNS", x.count(10), 1);
        x.ticks(1);
        due("pasted", x.count(7), 1);
        due("LEFT of the pasted one", x.reel(1, 2), 0);
        x.ticks(1);
        due("RUNS no more", x.count(10), 0);
    }

    /** "(or there is none)": no REEL is on */
    private static void promise05_noReelIsOn() {
        SplicedWeb x = new SplicedWeb();
        due("ticks(60)", x.ticks(60), 0);
        brokenAt("behind it", x, 1, 0, 0, 0);
        due("the REEL that is on", x.count(7), NONE);
        due("ticks(1)", x.ticks(1), STATE);
    }

    /** The same behind texts that told REELS: none of theirs is on */
    private static void promise05_noReelOfAnOlderTextIsOn() {
        SplicedWeb x = told("r9 9;r9 9;");
        for (int i = 0; i < 3; i++) {
            due("tells() of no REEL", tell(x, "u1;"), 1);
            x.ticks(1);
            brokenAt("behind it", x, 1, 0, 0, 0);
        }
    }

    /** "SPUN is SPIN or more": just SPIN, by the greatest SPIN and by the least */
    private static void promise05_spunJustLongEnough() {
        SplicedWeb x = told("e1;p20;r19 0;r9 0;");
        x.spins();
        x.ticks(19);
        due("SPUN", x.count(9), 20);
        x.ticks(1);
        due("pasted", x.count(7), 1);
        due("SPLICES", x.count(12), 1);
        due("SPUN then", x.count(9), 0);
        due("RUNS", x.count(10), 1);
        x = told("e1;p1;r1 0;r9 0;");
        x.ticks(1);
        x.spins();
        x.ticks(1);
        due("pasted by SPIN 1", x.count(7), 1);
    }

    /** "SPUN is SPIN or more .. Else it is BROKEN": one TICK too few */
    private static void promise05_spunOneTickTooFew() {
        SplicedWeb x = told("e1;p20;r18 0;r9 0;");
        x.spins();
        x.ticks(18);
        due("SPUN", x.count(9), 19);
        x.ticks(1);
        brokenAt("behind it", x, 19, 18, 17, 1);
        due("the REEL that is on", x.count(7), 0);
        due("the next one", x.count(8), 1);
        due("SPLICES", x.count(12), 0);
    }

    /** "or more": far more */
    private static void promise05_spunFarLonger() {
        SplicedWeb x = told("e1;p1;r99 0;r9 0;");
        x.spins();
        x.ticks(60);
        x.ticks(39);
        due("SPUN", x.count(9), 100);
        x.ticks(1);
        due("pasted", x.count(7), 1);
    }

    /** "it is spun": by the least SPIN one that is not spun breaks it */
    private static void promise05_notSpunBreaks() {
        SplicedWeb x = told("e1;p1;r1 0;r9 0;");
        x.ticks(2);
        brokenAt("behind it", x, 2, 1, 0, 1);
    }

    /** "it is pasted: .. SPUN is 0": the one behind it has to be spun anew */
    private static void promise05_theOneBehindIsNotSpun() {
        SplicedWeb x = told("e1;p1;r1 0;r1 0;r1 0;");
        x.spins();
        x.ticks(2);
        counts("pasted", x, 1, 3, 2, 2, 1, 0, 1, 1, 2, 0, 1, 1, 1);
        x.ticks(1);
        brokenAt("behind it", x, 3, 2, 1, 1);
    }

    /** "if there is a next REEL .. Else it is BROKEN": behind the last REEL */
    private static void promise05_noNextReel() {
        SplicedWeb x = told("e1;p1;r1 0;r2 0;");
        x.spins();
        x.ticks(60);
        brokenAt("behind it", x, 4, 3, 1, 2);
        due("the REEL that is on", x.count(7), 1);
        due("the next one", x.count(8), NONE);
    }

    /** "all copies under way are WASTE and gone": as many as can be */
    private static void promise05_allUnderWayAreWaste() {
        SplicedWeb x = told("u6;u6;u6;e9;r27 0;");
        x.ticks(27);
        due("under way", x.count(6), 27);
        x.ticks(1);
        brokenAt("behind it", x, 28, 27, 0, 27);
        for (int k = 0; k <= 3; k++) {
            due("ERROR of UNIT " + k, x.error(k, 0), NOT);
        }
        due("none came to the CAMERA", x.last(0), NOT);
    }

    /** "all that is to be passed ahead is gone" */
    private static void promise05_whatIsToBePassedIsGone() {
        SplicedWeb x = told("u1;u6;u6;e1;i9;r3 0;r9 0;");
        x.ticks(3);
        x.corrects(1, 5);
        x.corrects(2, 7);
        unitIs("ahead of it", x, 2, 6, 7, 0, 7, 7, -5);
        unitIs("ahead of it", x, 3, 6, 13, 0, 0, 0, -7);
        x.ticks(1);
        due("to UNIT 2", x.unit(2, 5), 0);
        due("to UNIT 3", x.unit(3, 5), 0);
        x.starts();
        x.ticks(9);
        due("SHIFT of UNIT 1 stays", x.unit(1, 3), 5);
        due("SHIFT of UNIT 2 has no more", x.unit(2, 3), 7);
        due("SHIFT of UNIT 3 has none", x.unit(3, 3), 0);
    }

    /** "the TICK is over by that": neither SPUN nor WAIT goes on by it */
    private static void promise05_aTickThatBreaksIsOver() {
        SplicedWeb x = told("u1;e1;p5;r3 0;r1 0;");
        x.spins();
        x.ticks(3);
        x.corrects(1, 1);
        x.ticks(1);
        due("SPUN", x.count(9), 4);
        due("WAIT", x.unit(1, 4), 1);
        due("the copy that came last", x.last(0), 0);
    }

    /** "numbers from 0 on" */
    private static void promise05_theFirstNumberIs0() {
        SplicedWeb x = told("e1;r9 0;");
        x.ticks(2);
        due("number", x.last(0), 0);
        x.ticks(1);
        due("the next", x.last(0), 1);
    }

    /** "it prints the copy that began WAY TICKS ago, if there is one": not sooner, then just */
    private static void promise05_noCopyBeganWayTicksAgo() {
        for (int gap = 1; gap <= 6; gap++) {
            SplicedWeb x = told("u" + gap + ";e1;r99 2;");
            x.ticks(gap);
            due("GAP " + gap + ": not yet", x.error(1, gap - 1), NOT);
            x.ticks(1);
            due("GAP " + gap + ": printed", x.error(1, gap), 2);
            due("GAP " + gap + ": the one behind is not", x.error(1, gap - 1), NOT);
        }
    }

    /** "if there is one": of those ahead of a break there is none */
    private static void promise05_noCopyOfAheadOfTheBreak() {
        SplicedWeb x = told("u2;e1;i9;r2 5;r9 1;");
        x.ticks(3);
        x.starts();
        x.ticks(2);
        due("not printed yet", x.error(1, 1), NOT);
        due("two under way", x.count(6), 2);
        x.ticks(1);
        due("printed", x.error(1, 2), 1);
        due("none came yet", x.last(0), NOT);
        x.ticks(1);
        lastIs("the first of them", x, 2, 0, 1, 0, 1, 0, 0);
    }

    /** "comes to the CAMERA, if there is one": by the shortest way and by the longest */
    private static void promise05_theFirstToTheCamera() {
        SplicedWeb x = told("e1;r99 0;");
        x.ticks(1);
        due("shortest: none", x.last(0), NOT);
        x.ticks(1);
        due("shortest: came", x.last(0), 0);
        due("shortest: under way", x.count(6), 1);
        x = told("u6;u6;u6;e9;r99 0;");
        x.ticks(27);
        due("longest: none", x.last(0), NOT);
        due("longest: under way", x.count(6), 27);
        x.ticks(1);
        due("longest: came", x.last(0), 0);
        due("longest: under way still", x.count(6), 27);
    }

    private static void goodByLimit(String text, int off, int good) {
        SplicedWeb x = told(text);
        x.drifts(1, off);
        due("the first copy of " + text + " by OFF " + off, x.ticks(3), good);
        due("WASTE of " + text + " by OFF " + off, x.count(5), 1 - good);
    }

    /** "some ERROR is more than LIMIT away from 0": just LIMIT is not, on either side */
    private static void promise05_limit() {
        for (int off : new int[] {3, 4}) {
            goodByLimit("u1;e1;i9;l3;r9 0;", off, off == 3 ? 1 : 0);
            goodByLimit("u1;e1;i9;l3;r9 0;", -off, off == 3 ? 1 : 0);
        }
        goodByLimit("u1;e1;l1;r9 0;", 1, 1);
        goodByLimit("u1;e1;l1;r9 0;", -2, 0);
        goodByLimit("u1;e1;l20;r9 0;", 20, 1);
        goodByLimit("u1;e1;l20;r9 0;", -20, 1);
        goodByLimit("u1;e1;l20;r9 1;", 20, 0);
        goodByLimit("u1;e1;l20;r9-1;", -20, 0);
    }

    /** "some ERROR": of one UNIT alone, whichever it is */
    private static void promise05_someError() {
        for (int k = 1; k <= 3; k++) {
            SplicedWeb x = told("u1;u1;u1;e1;i9;l3;r9 0;");
            x.drifts(k, 4);
            due("UNIT " + k + " beyond LIMIT", x.ticks(5), 0);
            x = told("u1;u1;u1;e1;i9;l3;r9 0;");
            x.drifts(k, -3);
            due("UNIT " + k + " at LIMIT", x.ticks(5), 1);
        }
    }

    private static void correctedByIdle(String text, int off, int shift) {
        SplicedWeb x = told(text);
        x.drifts(1, off);
        x.ticks(3);
        due("SHIFT of " + text + " by OFF " + off, x.unit(1, 3), shift);
        due("WAIT of " + text + " by OFF " + off, x.unit(1, 4), shift == 0 ? 0 : 1);
    }

    /** "its ERROR on that copy is more than IDLE away from 0": just IDLE is not, on either side */
    private static void promise05_idle() {
        correctedByIdle("u1;e1;i0;r9 1;", -1, 0);
        correctedByIdle("u1;e1;i0;r9 0;", 1, 1);
        correctedByIdle("u1;e1;i0;r9 0;", -1, -1);
        correctedByIdle("u1;e1;i9;r9 0;", 9, 0);
        correctedByIdle("u1;e1;i9;r9 0;", -9, 0);
        correctedByIdle("u1;e1;i9;r9 0;", 10, 10);
        correctedByIdle("u1;e1;i9;r9 0;", -10, -10);
    }

    /** "it is WASTE, if it is a SPLICE": without any ERROR */
    private static void promise05_aSpliceIsWaste() {
        SplicedWeb x = told("e1;p1;r1 0;r9 0;");
        x.spins();
        x.ticks(1);
        due("the copy ahead of it", x.ticks(1), 1);
        due("the SPLICE", x.ticks(1), 0);
        lastIs("the SPLICE", x, 1, 1, 0, 0, 0, 0, 0);
        due("WASTE", x.count(5), 1);
        due("the copy behind it", x.ticks(1), 1);
    }

    /** "and the copy is no SPLICE": by one nothing is CORRECTED, by the next it is */
    private static void promise05_aSpliceDoesNotCorrect() {
        SplicedWeb x = told("u1;e1;i0;l20;p1;r1 0;r9 9;");
        x.spins();
        x.ticks(4);
        due("the SPLICE came", x.last(1), 1);
        due("its ERROR", x.last(4), 9);
        unitIs("by the SPLICE", x, 1, 1, 1, 0, 0, 0, 0);
        x.ticks(1);
        unitIs("by the next", x, 1, 1, 1, 0, 9, 1, 0);
    }

    /** "if WAIT of it is above 0, WAIT is 1 less": by a SPLICE, too */
    private static void promise05_waitGoesOnByASplice() {
        SplicedWeb x = told("u1;e2;i0;l20;p1;r1 0;r9 0;");
        x.spins();
        x.ticks(3);
        due("WAIT", x.corrects(1, 5), 2);
        x.ticks(1);
        due("by copy 0", x.unit(1, 4), 1);
        x.ticks(1);
        due("it is a SPLICE", x.last(1), 1);
        due("by the SPLICE", x.unit(1, 4), 0);
        x.ticks(1);
        unitIs("by copy 2", x, 1, 1, 1, 0, 0, 2, 0);
    }

    /** "if WAIT of it is above 0 .. else": the copy by which it becomes 0 does not correct */
    private static void promise05_aWaitOfOne() {
        SplicedWeb x = told("u1;e1;i0;l20;r9 0;");
        x.drifts(1, 4);
        x.ticks(2);
        due("WAIT", x.corrects(1, 1), 1);
        x.ticks(1);
        due("the ERROR that came", x.last(4), 4);
        unitIs("WAIT becomes 0", x, 1, 1, 1, 4, 1, 0, 0);
        x.ticks(1);
        due("the ERROR that came then", x.last(4), 3);
        unitIs("CORRECTED", x, 1, 1, 1, 4, 4, 1, 0);
    }

    /** "Then (if one came)": while none comes, WAIT stays */
    private static void promise05_noCopyCameNoWait() {
        SplicedWeb x = told("u1;e1;r9 0;");
        x.corrects(1, 2);
        x.ticks(2);
        due("none came", x.unit(1, 4), 1);
        x.ticks(1);
        due("one came", x.unit(1, 4), 0);
    }

    /** "SPUN is 1 more, if it is above 0 already" */
    private static void promise05_spunAtZeroStays() {
        SplicedWeb x = told("r9 0;r9 0;");
        x.ticks(5);
        due("not spun", x.count(9), 0);
        x.spins();
        x.ticks(1);
        due("spun", x.count(9), 2);
    }

    /** "in the TICK that comes so many TICKS behind the next one as its GAP is": for each GAP, at any time */
    private static void promise05_passedAheadAtItsTick() {
        for (int gap = 1; gap <= 6; gap++) {
            for (int before = 0; before <= 9; before++) {
                String when = "GAP " + gap + " behind " + before + " TICKS: ";
                SplicedWeb x = told("u1;u" + gap + ";e9;i9;r99 0;");
                if (before > 0) {
                    x.ticks(before);
                }
                x.corrects(1, 5);
                x.ticks(gap);
                due(when + "SHIFT not yet", x.unit(2, 3), 0);
                due(when + "to be passed", x.unit(2, 5), -5);
                x.ticks(1);
                due(when + "SHIFT", x.unit(2, 3), -5);
                due(when + "to be passed no more", x.unit(2, 5), 0);
            }
        }
    }

    /** The same, some at each TICK by the longest GAP: none is lost, none comes twice */
    private static void promise05_passedAheadAtEachTick() {
        SplicedWeb x = told("u1;u6;e9;i9;l20;r99 0;");
        for (int i = 1; i <= 20; i++) {
            x.corrects(1, 1);
            x.ticks(1);
            due("SHIFT behind TICK " + i, x.unit(2, 3), -Math.max(0, i - 6));
            due("to be passed behind TICK " + i, x.unit(2, 5), -Math.min(i, 6));
        }
    }

    /** "each as it was when the copy was printed there": a SHIFT that comes at the TICK counts for it */
    private static void promise05_aShiftCountsFromItsTickOn() {
        SplicedWeb x = told("u1;u2;e1;i9;r99 0;");
        x.ticks(4);
        x.corrects(1, 5);
        x.ticks(1);
        due("UNIT 1 ahead of it", x.error(1, 2), 0);
        due("UNIT 1 from it on", x.error(1, 1), -5);
        due("UNIT 2 of a copy that UNIT 1 printed ahead of it", x.error(2, 3), 0);
        x.ticks(2);
        due("UNIT 2 of the first copy that UNIT 1 printed behind it", x.error(2, 3), 0);
        due("SHIFT of UNIT 2", x.unit(2, 3), -5);
    }

    /** As many copies as can be, 8 REELS of 99, by the longest way: each is told rightly to the end */
    private static void promise05_asManyCopiesAsCanBe() {
        int[] stretch = {1, -1, 2, -2, 3, -3, 0, 1};
        StringBuilder text = new StringBuilder("u6;u6;u6;e9;i9;l20;p1;");
        for (int s : stretch) {
            text.append("r99 ").append(s < 0 ? "-" : "").append(Math.abs(s)).append(";");
        }
        SplicedWeb x = told(text.toString());
        for (int t = 11; t <= 792; t += 11) {
            x.ticks(11);
            if (t % 99 == 11 && t < 693) {
                due("spins() at " + t, x.spins(), t / 99 + 1);
            }
            int n = t - 28;
            if (n >= 0) {
                due("number at " + t, x.last(0), n);
                due("SPLICE at " + t, x.last(1), n > 0 && n % 99 == 0 ? 1 : 0);
                due("ERROR of UNIT 1 at " + t, x.last(4), stretch[n / 99]);
                due("ERROR of UNIT 3 at " + t, x.last(6), 3 * stretch[n / 99]);
            }
        }
        due("RUNS", x.count(10), 1);
        due("SPLICES", x.count(12), 7);
        x.ticks(60);
        brokenAt("all REELS ran off", x, 793, 792, 758, 34);
    }

    // ---- 6: DRIFTED (a UNIT but 0; -20 .. 20): 1. BAD; STATE: it is so.

    /** "-20 .. 20": the least and the greatest */
    private static void promise06_offs20() {
        SplicedWeb x = busy();
        due("drifts(3, 20)", x.drifts(3, 20), 1);
        due("OFF", x.unit(3, 2), 20);
        due("drifts(3, -20)", x.drifts(3, -20), 1);
        due("OFF", x.unit(3, 2), -20);
    }

    /** "-20 .. 20 .. BAD": too small, too large */
    private static void promise06_offsBeyondAreBad() {
        for (int off : new int[] {-21, 21, LEAST, GREATEST}) {
            refused("drifts(1, " + off + ")", Due::busy, x -> x.drifts(1, off), BAD);
        }
    }

    /** "a UNIT but 0 .. BAD", "there is no such thing" */
    private static void promise06_noSuchUnitIsBad() {
        for (int unit : new int[] {0, -1, 4, LEAST, GREATEST}) {
            refused("drifts(" + unit + ", 1)", Due::busy, x -> x.drifts(unit, 1), BAD);
        }
        refused("drifts(1, 1)", SplicedWeb::new, x -> x.drifts(1, 1), BAD);
        refused("drifts(3, 1) of three UNITS", Due::broken, x -> x.drifts(3, 1), BAD);
    }

    /** "STATE: it is so": at first, and when it was made so */
    private static void promise06_soAlreadyIsState() {
        refused("drifts(2, 0)", Due::busy, x -> x.drifts(2, 0), STATE);
        refused("drifts(1, 5)", Due::busy, x -> x.drifts(1, 5), STATE);
    }

    /** "the first of these that is so: BAD .., STATE ..": OFF of UNIT 0 is 0 always */
    private static void promise06_badGoesAheadOfState() {
        refused("drifts(0, 0)", Due::busy, x -> x.drifts(0, 0), BAD);
        refused("drifts(4, 0)", Due::busy, x -> x.drifts(4, 0), BAD);
    }

    /** No STATE is told of BROKEN: it drifts then, too */
    private static void promise06_brokenDriftsToo() {
        SplicedWeb x = broken();
        due("drifts(2, -7)", x.drifts(2, -7), 1);
        due("OFF", x.unit(2, 2), -7);
    }

    // ---- 7: MOVED (a UNIT but 0; c -20 .. 20, not 0): its WAIT then. BAD.

    /** "c -20 .. 20": the least and the greatest */
    private static void promise07_moves20() {
        SplicedWeb x = told("u1;u1;r9 0;");
        due("corrects(1, 20)", x.corrects(1, 20), 4);
        due("SHIFT", x.unit(1, 3), 20);
        due("corrects(1, -20)", x.corrects(1, -20), 4);
        due("SHIFT then", x.unit(1, 3), 0);
        due("corrects(1, -1)", x.corrects(1, -1), 4);
        due("SHIFT below 0", x.unit(1, 3), -1);
    }

    /** "c -20 .. 20 .. BAD": too small, too large */
    private static void promise07_movesBeyondAreBad() {
        for (int c : new int[] {-21, 21, LEAST, GREATEST}) {
            refused("corrects(1, " + c + ")", Due::busy, x -> x.corrects(1, c), BAD);
        }
    }

    /** "not 0 .. BAD" */
    private static void promise07_byNothingIsBad() {
        refused("corrects(1, 0)", Due::busy, x -> x.corrects(1, 0), BAD);
        refused("corrects(1, 0)", Due::broken, x -> x.corrects(1, 0), BAD);
    }

    /** "a UNIT but 0 .. BAD", "there is no such thing" */
    private static void promise07_noSuchUnitIsBad() {
        for (int unit : new int[] {0, -1, 4, LEAST, GREATEST}) {
            refused("corrects(" + unit + ", 1)", Due::busy, x -> x.corrects(unit, 1), BAD);
        }
        refused("corrects(1, 1)", SplicedWeb::new, x -> x.corrects(1, 1), BAD);
        refused("corrects(3, 1) of three UNITS", Due::broken, x -> x.corrects(3, 1), BAD);
    }

    /** "its WAIT then": "WAY of the last UNIT less its WAY, and EYE", the most and the least */
    private static void promise07_theLongestAndTheShortestWait() {
        SplicedWeb x = told("u6;u6;u6;e9;r9 0;");
        due("UNIT 1", x.corrects(1, 1), 21);
        due("UNIT 2", x.corrects(2, 1), 15);
        due("UNIT 3", x.corrects(3, 1), 9);
        due("shortest", told("u1;e1;r9 0;").corrects(1, 1), 1);
    }

    /** "WAIT of it becomes": anew, not more, when it waits already */
    private static void promise07_waitBecomesAnew() {
        SplicedWeb x = told("u1;e3;i9;r99 0;");
        x.ticks(9);
        due("WAIT", x.corrects(1, 1), 3);
        x.ticks(2);
        due("WAIT less", x.unit(1, 4), 1);
        due("WAIT anew", x.corrects(1, 1), 3);
        due("SHIFT is more", x.unit(1, 3), 2);
    }

    /** "if .. there is a UNIT behind it": behind the last there is none */
    private static void promise07_noneBehindTheLast() {
        for (int units = 2; units <= 4; units++) {
            SplicedWeb x = told("u1;".repeat(units - 1) + "r9 0;");
            x.corrects(units - 1, 7);
            for (int k = 0; k < units; k++) {
                due("to UNIT " + k + " of " + units, x.unit(k, 5), 0);
            }
        }
    }

    /** "if AHEAD is on": off, nothing is to be passed */
    private static void promise07_aheadIsOff() {
        SplicedWeb x = told("u1;u1;r9 0;");
        x.aheads(0);
        x.corrects(1, 7);
        due("to UNIT 2", x.unit(2, 5), 0);
        x.aheads(1);
        x.corrects(1, 7);
        due("to UNIT 2 then", x.unit(2, 5), -7);
    }

    /** No STATE is told: it is moved while BROKEN, too */
    private static void promise07_brokenIsMovedToo() {
        SplicedWeb x = broken();
        due("corrects(1, 3)", x.corrects(1, 3), 2);
        due("SHIFT", x.unit(1, 3), 5);
        due("to be passed", x.unit(2, 5), -3);
    }

    // ---- 8: SPIN BEGUN

    /** "STATE: it is BROKEN": whether the next one was spun or not */
    private static void promise08_brokenIsState() {
        refused("spins()", Due::broken, SplicedWeb::spins, STATE);
        refused("spins(), none spun", EdgeRunTests::brokenUnspun, SplicedWeb::spins, STATE);
    }

    private static SplicedWeb brokenUnspun() {
        SplicedWeb x = told("r1 0;r3 0;");
        x.ticks(2);
        return x;
    }

    /** "STATE: .. there is no next REEL": none at all, one alone, the last of several */
    private static void promise08_noNextReelIsState() {
        refused("spins() of no REEL", SplicedWeb::new, SplicedWeb::spins, STATE);
        refused("spins() of one REEL", () -> told("r9 0;"), SplicedWeb::spins, STATE);
        refused("spins() of the last", EdgeRunTests::onTheLast, SplicedWeb::spins, STATE);
    }

    private static SplicedWeb onTheLast() {
        SplicedWeb x = told("p1;r1 0;r9 0;");
        x.spins();
        x.ticks(3);
        return x;
    }

    /** "STATE: .. or it is spun already" */
    private static void promise08_spunAlreadyIsState() {
        refused("spins()", Due::busy, SplicedWeb::spins, STATE);
        SplicedWeb x = told("r9 0;r9 0;");
        due("spins()", x.spins(), 1);
        due("spins() at once again", x.spins(), STATE);
        due("SPUN", x.count(9), 1);
    }

    /** "the REEL that is spun": up to the last of eight */
    private static void promise08_eachNextReel() {
        SplicedWeb x = told("p1;" + "r1 0;".repeat(8));
        for (int r = 1; r <= 7; r++) {
            due("spins()", x.spins(), r);
            x.ticks(r == 1 ? 2 : 1);
        }
        due("behind the last", x.spins(), STATE);
    }

    // ---- 9: STARTED

    /** "STATE: it RUNS" */
    private static void promise09_runsIsState() {
        refused("starts()", Due::busy, SplicedWeb::starts, STATE);
        refused("starts() of a new object", SplicedWeb::new, SplicedWeb::starts, STATE);
        SplicedWeb x = broken();
        x.starts();
        due("starts() again", x.starts(), STATE);
    }

    /** "STATE: .. or there is no next REEL": none at all, or the last was on */
    private static void promise09_noNextReelIsState() {
        refused("starts() of no REEL", EdgeRunTests::brokenWithoutReel, SplicedWeb::starts, STATE);
        refused("starts() behind the last", EdgeRunTests::brokenForGood, SplicedWeb::starts, STATE);
    }

    private static SplicedWeb brokenWithoutReel() {
        SplicedWeb x = told("u1;");
        x.ticks(1);
        return x;
    }

    private static SplicedWeb brokenForGood() {
        SplicedWeb x = told("r1 0;r1 0;");
        x.ticks(2);
        x.starts();
        x.ticks(2);
        return x;
    }

    /** "the REEL that is on then": up to the last of eight */
    private static void promise09_eachNextReel() {
        SplicedWeb x = told("r1 0;".repeat(8));
        for (int r = 1; r <= 7; r++) {
            x.ticks(2);
            due("starts()", x.starts(), r);
            due("the next one", x.count(8), r < 7 ? r + 1 : NONE);
            due("LEFT", x.reel(r, 2), 1);
        }
        x.ticks(2);
        due("behind the last", x.starts(), STATE);
        due("TICKS", x.count(2), 16);
    }

    /** "SPUN 0, no copy under way, WAITS 0; numbers of copies go on", and no SPLICE is pasted */
    private static void promise09_whatIsStarted() {
        SplicedWeb x = broken();
        due("SPUN ahead of it", x.count(9) > 0 ? 1 : 0, 1);
        due("WAIT ahead of it", x.unit(1, 4) > 0 ? 1 : 0, 1);
        due("starts()", x.starts(), 1);
        counts("started", x, 3, 2, 6, 5, 0, 5, 0, 1, NONE, 0, 1, 1, 0);
        for (int k = 0; k <= 2; k++) {
            due("WAIT of UNIT " + k, x.unit(k, 4), 0);
        }
        x.ticks(5);
        due("number", x.last(0), 5);
        due("it is no SPLICE", x.last(1), 0);
    }

    /** A REEL that is started with has all its COPIES: just so many TICKS till the next break */
    private static void promise09_allCopiesOfTheReel() {
        SplicedWeb x = told("r2 0;r3 0;");
        x.ticks(60);
        x.starts();
        x.ticks(3);
        due("RUNS", x.count(10), 1);
        x.ticks(1);
        due("BROKEN", x.count(10), 0);
    }

    // ---- 10: AHEAD is on (is = 1), off (0): 1. BAD; STATE: it is so.

    /** "is = 1 .. 0 .. BAD": too small, too large */
    private static void promise10_otherNumbersAreBad() {
        for (int is : new int[] {-1, 2, LEAST, GREATEST}) {
            refused("aheads(" + is + ")", Due::busy, x -> x.aheads(is), BAD);
        }
    }

    /** "STATE: it is so": on at first, off when it was made off */
    private static void promise10_soAlreadyIsState() {
        refused("aheads(1)", Due::busy, x -> x.aheads(1), STATE);
        refused("aheads(0)", EdgeRunTests::aheadOff, x -> x.aheads(0), STATE);
        due("aheads(1) when off", aheadOff().aheads(1), 1);
        refused("aheads(1) of a new object", SplicedWeb::new, x -> x.aheads(1), STATE);
    }

    private static SplicedWeb aheadOff() {
        SplicedWeb x = busy();
        due("aheads(0)", x.aheads(0), 1);
        due("AHEAD", x.count(11), 0);
        return x;
    }

    /** No STATE is told of BROKEN */
    private static void promise10_brokenToo() {
        SplicedWeb x = broken();
        due("aheads(0)", x.aheads(0), 1);
        due("AHEAD", x.count(11), 0);
    }

    // ---- 11: UNDONE: how many more may be. STATE: none.

    /** "STATE: none": nothing was done, all was undone */
    private static void promise11_noneIsState() {
        refused("undo() of a new object", SplicedWeb::new, SplicedWeb::undo, STATE);
        refused("undo() of what was told", () -> told("u1;r9 0;"), SplicedWeb::undo, STATE);
        refused("undo() when all is undone", EdgeRunTests::allUndone, SplicedWeb::undo, STATE);
    }

    private static SplicedWeb allUndone() {
        SplicedWeb x = told("u1;r9 0;");
        x.drifts(1, 3);
        x.ticks(2);
        x.undo();
        x.undo();
        return x;
    }

    /** "(6 are known, older ones are lost)": just six, then seven */
    private static void promise11_sixAreKnown() {
        for (int done = 5; done <= 7; done++) {
            SplicedWeb x = told("u1;r9 0;");
            for (int off = 1; off <= done; off++) {
                x.drifts(1, off);
            }
            int known = Math.min(done, 6);
            due("may be UNDONE of " + done, x.count(19), known);
            for (int more = known - 1; more >= 0; more--) {
                due("undo() of " + done, x.undo(), more);
            }
            due("OFF at the end of " + done, x.unit(1, 2), done - known);
            due("no more of " + done, x.undo(), STATE);
        }
    }

    /** The same round and round: undone and done again, the six latest are known */
    private static void promise11_roundAndRound() {
        SplicedWeb x = told("u1;r9 0;");
        for (int off = 1; off <= 20; off++) {
            x.drifts(1, off);
        }
        for (int more = 5; more >= 3; more--) {
            due("undo()", x.undo(), more);
        }
        for (int off = 1; off <= 5; off++) {
            x.drifts(1, off);
        }
        due("may be UNDONE", x.count(19), 6);
        for (int off : new int[] {4, 3, 2, 1, 17, 16}) {
            x.undo();
            due("OFF", x.unit(1, 2), off);
        }
        due("no more", x.undo(), STATE);
    }

    /** "the latest drifts(), corrects(), spins(), starts(), aheads(), ticks()": each of the six kinds */
    private static void promise11_eachKindIsUndone() {
        SplicedWeb x = told("u1;u1;e1;p9;r4 2;r9 1;");
        int[][] was = new int[7][];
        was[0] = shortPicture(x);
        x.drifts(1, 3);
        was[1] = shortPicture(x);
        x.corrects(1, 4);
        was[2] = shortPicture(x);
        x.spins();
        was[3] = shortPicture(x);
        x.aheads(0);
        was[4] = shortPicture(x);
        x.ticks(60);
        was[5] = shortPicture(x);
        x.starts();
        due("may be UNDONE", x.count(19), 6);
        for (int more = 5; more >= 0; more--) {
            due("undo()", x.undo(), more);
            same("behind undo() to " + more, shortPicture(x), was[more]);
        }
    }

    /** What 2 tells, by so few calls that seven of these stay under 512. */
    private static int[] shortPicture(SplicedWeb x) {
        int[] row = new int[11 + 6 + 4];
        int n = 0;
        for (int what = 2; what <= 12; what++) row[n++] = x.count(what);
        for (int what = 2; what <= 4; what++) row[n++] = x.unit(1, what);
        for (int what = 3; what <= 5; what++) row[n++] = x.unit(2, what);
        row[n++] = x.last(0);
        row[n++] = x.last(4);
        row[n++] = x.error(2, 2);
        row[n++] = x.reel(0, 2);
        return row;
    }

    /** A SPLICE under way, GOOD and WASTE that came, all UNITS CORRECTED. */
    private static SplicedWeb spliced() {
        SplicedWeb x = told("u1;u2;u1;e3;l4;i0;p1;r9 1;r40-2;r9 3;");
        x.spins();
        x.ticks(12);
        return x;
    }

    /** "all that 2 tells is as ahead of it": as of one on which it never was done, now and later */
    private static void promise11_allThat2TellsIsAsAheadOfIt() {
        SplicedWeb x = spliced();
        x.ticks(50);
        due("undo()", x.undo(), 2);
        same("now", pictureOfRun(x), pictureOfRun(spliced()));
        x = spliced();
        x.ticks(50);
        x.undo();
        SplicedWeb other = spliced();
        for (int i = 1; i <= 9; i++) {
            due("ticks() " + i, x.ticks(1), other.ticks(1));
            for (int what = 0; what <= 6; what++) {
                due("last(" + what + ") " + i + " TICKS later", x.last(what), other.last(what));
            }
        }
        due("SPLICE came", x.count(5) > 0 ? 1 : 0, 1);
    }

    /** "all that 2 tells": a SPLICE that was pasted, and the copy that came last */
    private static void promise11_aSpliceIsUndone() {
        SplicedWeb x = told("e1;p1;r1 0;r9 0;");
        x.spins();
        x.ticks(1);
        x.ticks(1);
        due("SPLICES", x.count(12), 1);
        x.ticks(1);
        lastIs("the SPLICE", x, 1, 1, 0);
        x.ticks(1);
        lastIs("the one behind it", x, 2, 0, 1);
        x.undo();
        lastIs("the SPLICE again", x, 1, 1, 0);
        x.undo();
        lastIs("the one ahead of it", x, 0, 0, 1);
        x.undo();
        due("no SPLICES", x.count(12), 0);
        lastIs("none came", x, NOT, NOT, NOT);
    }

    /** "that was not refused": refused ones are not known */
    private static void promise11_refusedOnesAreNotKnown() {
        SplicedWeb x = told("u1;r9 0;r9 0;");
        x.drifts(1, 3);
        x.spins();
        x.drifts(1, 3);
        x.drifts(0, 3);
        x.corrects(1, 0);
        x.spins();
        x.starts();
        x.aheads(1);
        x.aheads(2);
        x.ticks(0);
        due("may be UNDONE", x.count(19), 2);
        due("undo()", x.undo(), 1);
        due("SPUN", x.count(9), 0);
        due("OFF", x.unit(1, 2), 3);
    }

    /** Other calls than those six are not known, and not undone */
    private static void promise11_otherCallsAreNotKnown() {
        SplicedWeb x = told("u1;r9 0;");
        x.ticks(1);
        x.sees(1, 5);
        x.type('u');
        x.keep(0);
        x.clear();
        x.forget();
        x.steady();
        x.cost();
        due("may be UNDONE", x.count(19), 1);
        x.sees(1, 5);
        x.type('u');
        due("undo()", x.undo(), 0);
        due("SEEN", x.count(17), 1);
        due("letters", x.count(18), 1);
        due("the IMAGE", x.back(0), 1);
    }

    /** undo() itself is not UNDONE: the next one goes further back */
    private static void promise11_undoIsNotUndone() {
        SplicedWeb x = told("u1;r9 0;");
        x.drifts(1, 1);
        x.drifts(1, 2);
        x.undo();
        due("OFF", x.unit(1, 2), 1);
        x.undo();
        due("OFF further back", x.unit(1, 2), 0);
    }

    /** A break is UNDONE: it RUNS, and nothing is WASTE or gone */
    private static void promise11_aBreakIsUndone() {
        SplicedWeb x = told("u1;u6;e1;i0;r3 2;");
        x.ticks(3);
        x.corrects(1, 5);
        int[] was = picture(x);
        x.ticks(9);
        due("BROKEN", x.count(10), 0);
        due("undo()", x.undo(), 2);
        same("behind undo()", picture(x), was);
    }
}
