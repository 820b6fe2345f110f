/** For each promise of the document: ordinary inputs, the edges that it names, wrong inputs. */
public final class PromiseTests extends Due {
    public static void main(String[] args) {
        promise1();
        promise2();
        promise3();
        promise4();
        promise4Faults();
        promise4TellsAnew();
        promise5();
        promise5Errors();
        promise5Splice();
        promise5Breaks();
        promise5Waits();
        promise6();
        promise7();
        promise7PassedAhead();
        promise8();
        promise9();
        promise10();
        promise11();
        promise12();
        promise13();
        promise14();
        promise15();
        promise16();
        promise17();
        promise18and19();
        promise20();
        promise21();
        promise22and23();
        promise24();
        finish();
    }

    private static void promise1() {
        SplicedWeb x = new SplicedWeb();
        counts("1 new", x, 1, 0, 0, 0, 0, 0, 0, NONE, NONE, 0, 1, 1, 0, 3, 3, 1, 5, 0, 0, 0);
        unitIs("1 new", x, 0, 0, 0, 0, 0, 0, 0);
        lastIs("1 new", x, NOT, NOT, NOT, NOT, NOT, NOT, NOT);
        due("1 unit 1", x.unit(1, 0), NO);
        due("1 reel 0", x.reel(0, 0), NO);
        due("1 error", x.error(0, 0), NOT);
        due("1 steady", x.steady(), NONE);
        due("1 cost", x.cost(), NOT);
        due("1 which", x.which(), 1);
        due("1 look", x.look(), NONE);
        due("1 undo", x.undo(), STATE);
        due("1 back", x.back(0), STATE);
        due("1 other object is its own", new SplicedWeb().count(18), 0);
    }

    private static void promise2() {
        SplicedWeb x = new SplicedWeb();
        due("2 below", x.type(-1), BAD);
        due("2 above", x.type(256), BAD);
        due("2 least int", x.type(Integer.MIN_VALUE), BAD);
        due("2 greatest int", x.type(Integer.MAX_VALUE), BAD);
        due("2 none came by BAD", x.count(18), 0);
        due("2 letter 0", x.type(0), 1);
        due("2 letter 255", x.type(255), 2);
        for (int i = 3; i <= 120; i++) {
            due("2 letter " + i, x.type(32), i);
        }
        due("2 full", x.type(32), FULL);
        due("2 BAD goes ahead of FULL", x.type(256), BAD);
        due("2 length", x.count(18), 120);
    }

    private static void promise3() {
        SplicedWeb x = new SplicedWeb();
        due("3 empty", x.clear(), 0);
        x.type('u');
        x.type('1');
        due("3 two", x.clear(), 2);
        due("3 empty then", x.count(18), 0);
        due("3 again", x.clear(), 0);
        due("3 letters from 1 on", x.type('u'), 1);
        for (int i = 0; i < 130; i++) {
            x.type('x');
        }
        due("3 all", x.clear(), 120);
    }

    private static void promise4() {
        due("4 no item", tell(new SplicedWeb(), ""), 0);
        due("4 blanks", tell(new SplicedWeb(), "   "), 0);
        due("4 one item", tell(new SplicedWeb(), "u1;"), 1);
        SplicedWeb x = new SplicedWeb();
        due("4 all kinds", tell(x, "  u6 ;u 1;  r99 9;r1-9;r 5 - 0 ; e9;l20;i0;p20;  "), 9);
        due("4 text is empty then", x.count(18), 0);
        due("4 units", x.count(0), 3);
        due("4 reels", x.count(1), 3);
        due("4 gap 1", x.unit(1, 0), 6);
        due("4 way 2", x.unit(2, 1), 7);
        due("4 copies", x.reel(0, 0), 99);
        due("4 stretch", x.reel(0, 1), 9);
        due("4 stretch below 0", x.reel(1, 1), -9);
        due("4 -0 is 0", x.reel(2, 1), 0);
        due("4 eye", x.count(13), 9);
        due("4 limit", x.count(14), 20);
        due("4 idle", x.count(15), 0);
        due("4 spin", x.count(16), 20);
        due("4 least", tell(x, "e1;l1;i9;p1;r1 0;"), 5);
        due("4 units as at first", x.count(0), 1);
        due("4 reels anew", x.count(1), 1);
        due("4 eye 1", x.count(13), 1);
        due("4 limit 1", x.count(14), 1);
        due("4 idle 9", x.count(15), 9);
        due("4 spin 1", x.count(16), 1);
        due("4 nothing told", tell(x, ""), 0);
        counts("4 what is not told is as at first", x,
            1, 0, 0, 0, 0, 0, 0, NONE, NONE, 0, 1, 1, 0, 3, 3, 1, 5, 0, 0, 0);
        due("4 four units, eight reels",
            tell(x, "r1 1;r1 1;r1 1;r1 1;u1;u1;u1;r1 1;r1 1;r1 1;r1 1;"), 11);
        due("4 no blank but between numbers", tell(x, "r12-3;u4;"), 2);
        due("4 a full text", tell(x, "u1;" + " ".repeat(114) + "e2;"), 2);
        due("4 a full text that ends too early", tell(x, "u1;" + " ".repeat(115) + "e2"), -130);
    }

    private static void fault(String text, int place) {
        SplicedWeb x = told("u2;r9 1;");
        due("4 \"" + text + "\"", tell(x, text), -10 - place);
        due("4 text stays: \"" + text + "\"", x.count(18), text.length());
        due("4 units stay: \"" + text + "\"", x.count(0), 2);
        due("4 the same again: \"" + text + "\"", x.tells(), -10 - place);
    }

    private static void promise4Faults() {
        fault("u", 1);
        fault("u  ", 3);
        fault("u1", 2);
        fault("u1 ", 3);
        fault("r", 1);
        fault("r;", 1);
        fault("r1;", 2);
        fault("r1-;", 3);
        fault("r1", 2);
        fault("r1-", 3);
        fault("r1 - ", 5);
        fault("r1 1", 4);
        fault("u0;", 1);
        fault("u7;", 1);
        fault("u 10;", 2);
        fault("u100;", 1);
        fault("u00;", 1);
        fault("u01;", 1);
        fault("u-1;", 1);
        fault("u;", 1);
        fault("uu", 1);
        fault("u1 1;", 3);
        fault("u1u", 2);
        fault(";", 0);
        fault("  ;", 2);
        fault("u1;;", 3);
        fault("5", 0);
        fault("-", 0);
        fault("x", 0);
        fault("U1;", 0);
        fault("u\t1;", 1);
        fault("u1;" + (char) 0, 3);
        fault("u1;" + (char) 255, 3);
        fault("u" + (char) 178 + ";", 1);
        fault("r0 1;", 1);
        fault("r100 1;", 1);
        fault("r 999999999999999999999 1;", 2);
        fault("r1 4294967297;", 3);
        fault("r1 10;", 3);
        fault("r1-10;", 3);
        fault("r1--1;", 3);
        fault("r1 01;", 3);
        fault("r1-00;", 3);
        fault("r53;", 3);
        fault("r1 1 1;", 5);
        fault("r1 1-;", 4);
        fault("r-1 1;", 1);
        fault("e0;", 1);
        fault("e10;", 1);
        fault("e;", 1);
        fault("l0;", 1);
        fault("l21;", 1);
        fault("i10;", 1);
        fault("i-0;", 1);
        fault("p0;", 1);
        fault("p21;", 1);
        fault("e1;e", 3);
        fault("l1;u1;l1;", 6);
        fault("i1;i1;", 3);
        fault("p1;p", 3);
        fault("u1;u1;u1;u1;", 9);
        fault("r1 1;r1 1;r1 1;r1 1;r1 1;r1 1;r1 1;r1 1; r", 41);
        fault("u7;x", 1);
        fault("u1;e1;u9;e1;", 7);
    }

    private static void promise4TellsAnew() {
        SplicedWeb x = told("u1;u1;r5 3;r9 2;p1;e1;");
        x.drifts(1, 5);
        x.corrects(1, 4);
        x.aheads(0);
        x.spins();
        x.ticks(7);
        x.sees(1, 4);
        x.keep(0);
        x.keep(1);
        due("4 tells anew", tell(x, "u1;u1;r5 3;"), 3);
        counts("4 anew", x, 3, 1, 0, 0, 0, 0, 0, 0, NONE, 0, 1, 1, 0, 3, 3, 1, 5, 0, 0, 0);
        unitIs("4 anew", x, 1, 1, 1, 0, 0, 0, 0);
        unitIs("4 anew", x, 2, 1, 2, 0, 0, 0, 0);
        due("4 anew: LEFT", x.reel(0, 2), 5);
        due("4 anew: none came", x.last(0), NOT);
        due("4 anew: none under way", x.error(0, 0), NOT);
        due("4 anew: no image 0", x.back(0), STATE);
        due("4 anew: no image 1", x.back(1), STATE);
        due("4 anew: nothing is undone", x.undo(), STATE);
        due("4 anew: nothing seen", x.which(), 55);
        x = told("r1 0;");
        x.ticks(2);
        due("4 broken", x.count(10), 0);
        tell(x, "");
        due("4 runs again", x.count(10), 1);
        due("4 no reel is on", x.count(7), NONE);
        x = told("u1;u1;u1;e1;r9 5;");
        x.ticks(5);
        due("4 error of UNIT 3", x.last(6), 15);
        tell(x, "e1;r9 5;");
        x.ticks(2);
        lastIs("4 errors of units that are gone", x, 0, 0, 1, 0, 0, 0, 0);
        x = told("u1;u1;e1;r9 0;r9 0;");
        x.ticks(6);
        x.spins();
        x.corrects(1, 3);
        due("4 good ones ahead of it", x.count(4), 3);
        tell(x, "u1;u1;e1;r9 0;r9 0;");
        due("4 good ones are gone", x.count(4), 0);
        due("4 not spun", x.count(9), 0);
        due("4 nothing is to be passed ahead", x.unit(2, 5), 0);
        for (int i = 0; i < 3; i++) {
            tell(x, "");
            x.ticks(1);
            due("4 no reel of an older text is on", x.count(10), 0);
        }
    }

    private static void promise5() {
        SplicedWeb x = told("e1;r99 0;");
        due("5 n 0", x.ticks(0), BAD);
        due("5 n below", x.ticks(-1), BAD);
        due("5 n 61", x.ticks(61), BAD);
        due("5 n least", x.ticks(Integer.MIN_VALUE), BAD);
        due("5 n greatest", x.ticks(Integer.MAX_VALUE), BAD);
        counts("5 nothing changed", x, 1, 1, 0, 0);
        due("5 none to undo", x.count(19), 0);
        due("5 first tick", x.ticks(1), 0);
        counts("5 one copy began", x, 1, 1, 1, 1, 0, 0, 1);
        due("5 second tick", x.ticks(1), 1);
        counts("5 one came", x, 1, 1, 2, 2, 1, 0, 1);
        lastIs("5 it is copy 0", x, 0, 0, 1, 0, 0, 0, 0);
        due("5 n 60", x.ticks(60), 60);
        counts("5 then", x, 1, 1, 62, 62, 61, 0, 1);
        due("5 LEFT", x.reel(0, 2), 37);
        due("5 till it is broken", x.ticks(60), 37);
        counts("5 broken", x, 1, 1, 100, 99, 98, 1, 0, 0, NONE, 0, 0);
        due("5 STATE", x.ticks(1), STATE);
        due("5 BAD goes ahead of STATE", x.ticks(0), BAD);
        x = new SplicedWeb();
        due("5 no reel", x.ticks(60), 0);
        counts("5 no reel: broken by a tick that counts", x, 1, 0, 1, 0, 0, 0, 0, NONE, NONE, 0, 0);
    }

    private static void promise5Errors() {
        SplicedWeb x = told("u1;u2;e2;l4;i2;r50 2;");
        x.drifts(1, -1);
        due("5e ticks", x.ticks(5), 0);
        due("5e printed at UNIT 1", x.error(1, 1), 1);
        due("5e printed at UNIT 2", x.error(2, 3), 4);
        x.drifts(2, 1);
        due("5e the first copy is at the limit", x.ticks(1), 1);
        lastIs("5e", x, 0, 0, 1, 0, 1, 4, 0);
        unitIs("5e UNIT 1 is idle", x, 1, 1, 1, -1, 0, 0, 0);
        unitIs("5e UNIT 2 is corrected", x, 2, 2, 3, 1, 4, 2, 0);
        due("5e OFF as it was when it printed", x.error(2, 3), 5);
        due("5e next one was printed ahead of the drift", x.ticks(1), 1);
        due("5e its error", x.last(5), 4);
        due("5e now waste", x.ticks(1), 0);
        lastIs("5e beyond the limit", x, 2, 0, 0, 0, 1, 5, 0);
        due("5e the wait ended", x.unit(2, 4), 0);
        due("5e corrected copy", x.ticks(1), 1);
        lastIs("5e corrected", x, 3, 0, 1, 0, 1, 1, 0);
        due("5e shift stays", x.unit(2, 3), 4);
        x = told("u1;e1;l2;i1;r50 0;");
        x.drifts(1, -3);
        due("5e below 0 is away too", x.ticks(3), 0);
        due("5e waste", x.count(5), 1);
        due("5e corrected below 0", x.unit(1, 3), -3);
        x = told("u1;e1;i1;r50 1;");
        x.ticks(9);
        due("5e at IDLE it is not corrected", x.unit(1, 3), 0);
        x = told("u1;e1;i0;r50-1;");
        x.ticks(3);
        due("5e beyond IDLE it is", x.unit(1, 3), -1);
    }

    private static void promise5Splice() {
        SplicedWeb x = told("u1;e1;p2;i0;r3 0;r5-2;");
        x.ticks(1);
        due("5s spins", x.spins(), 1);
        x.ticks(2);
        counts("5s spun", x, 2, 2, 3, 3, 1, 0, 2, 0, 1, 3, 1);
        due("5s tick 4 pastes", x.ticks(1), 1);
        counts("5s pasted", x, 2, 2, 4, 4, 2, 0, 2, 1, NONE, 0, 1, 1, 1);
        due("5s LEFT of the new one", x.reel(1, 2), 4);
        due("5s LEFT of the old one", x.reel(0, 2), 0);
        due("5s tick 5", x.ticks(1), 1);
        due("5s the splice comes: waste within the limit", x.ticks(1), 0);
        lastIs("5s the splice", x, 3, 1, 0, 0, -2, 0, 0);
        due("5s no correction by a splice", x.unit(1, 3), 0);
        due("5s the one behind it", x.ticks(1), 1);
        lastIs("5s behind it", x, 4, 0, 1, 0, -2, 0, 0);
        due("5s correction", x.unit(1, 3), -2);
        due("5s SPUN stays 0", x.count(9), 0);
        x = told("u1;e1;p3;r3 0;r5 0;");
        x.ticks(2);
        x.spins();
        x.ticks(1);
        due("5s SPUN 2 of 3", x.count(9), 2);
        due("5s it breaks", x.ticks(1), 0);
        counts("5s broken", x, 2, 2, 4, 3, 1, 2, 0, 0, 1, 2, 0, 1, 0);
        x = told("e1;p2;r2 0;r2 0;");
        x.ticks(1);
        x.spins();
        x.ticks(2);
        due("5s SPUN is just SPIN: pasted", x.count(7), 1);
        due("5s the splice is counted", x.count(12), 1);
    }

    private static void promise5Breaks() {
        SplicedWeb x = told("u2;u2;e2;i0;r8 1;r9 0;r9 0;");
        x.ticks(7);
        unitIs("5b corrected", x, 1, 2, 2, 0, 1, 4, 0);
        unitIs("5b passed ahead", x, 2, 2, 4, 0, 2, 2, -1);
        x.ticks(1);
        counts("5b under way", x, 3, 3, 8, 8, 2, 0, 6);
        due("5b breaks", x.ticks(5), 0);
        counts("5b all under way is waste", x, 3, 3, 9, 8, 2, 6, 0, 0, 1, 0, 0);
        unitIs("5b nothing is passed ahead", x, 2, 2, 4, 0, 2, 1, 0);
        unitIs("5b SHIFT and WAIT stay", x, 1, 2, 2, 0, 1, 3, 0);
        due("5b nothing under way", x.error(0, 0), NOT);
        due("5b the last one stays", x.last(0), 1);
        due("5b starts", x.starts(), 1);
        due("5b ticks", x.ticks(4), 0);
        due("5b passed no more", x.unit(2, 3), 2);
        due("5b numbers go on", x.count(3), 12);
        due("5b none came yet since", x.last(0), 1);
        due("5b ticks then", x.ticks(3), 1);
        due("5b number", x.last(0), 8);
        lastIs("5b errors", x, 8, 0, 1, 0, -1, -3, 0);
    }

    private static void promise5Waits() {
        SplicedWeb x = told("u3;e2;i0;l20;r90 0;");
        x.drifts(1, 6);
        x.ticks(6);
        unitIs("5w corrected", x, 1, 3, 3, 6, 6, 2, 0);
        x.ticks(1);
        due("5w wait is less", x.unit(1, 4), 1);
        due("5w no copy twice", x.unit(1, 3), 6);
        x.ticks(1);
        due("5w wait 0", x.unit(1, 4), 0);
        due("5w the last old error", x.last(4), 6);
        x.ticks(1);
        due("5w the new error", x.last(4), 0);
        due("5w the shift stays", x.unit(1, 3), 6);
        x = told("u1;e1;r20 0;");
        due("5w by hand", x.corrects(1, 2), 1);
        x.ticks(2);
        due("5w no copy came: it waits", x.unit(1, 4), 1);
        x.ticks(1);
        due("5w a copy came", x.unit(1, 4), 0);
        x = told("u1;u1;u1;i0;e3;l20;r90 1;");
        x.ticks(7);
        unitIs("5w UNIT 1 waits longest", x, 1, 1, 1, 0, 1, 5, 0);
        unitIs("5w UNIT 2", x, 2, 1, 2, 0, 2, 4, -1);
        unitIs("5w UNIT 3", x, 3, 1, 3, 0, 3, 3, -2);
    }

    private static void promise6() {
        SplicedWeb x = told("u1;r9 0;");
        due("6 UNIT 0", x.drifts(0, 1), BAD);
        due("6 no UNIT", x.drifts(2, 1), BAD);
        due("6 below", x.drifts(-1, 1), BAD);
        due("6 greatest", x.drifts(Integer.MAX_VALUE, 1), BAD);
        due("6 off -21", x.drifts(1, -21), BAD);
        due("6 off 21", x.drifts(1, 21), BAD);
        due("6 least off", x.drifts(1, Integer.MIN_VALUE), BAD);
        due("6 it is so", x.drifts(1, 0), STATE);
        due("6 refused is not undone", x.count(19), 0);
        due("6 20", x.drifts(1, 20), 1);
        due("6 is 20", x.unit(1, 2), 20);
        due("6 so already", x.drifts(1, 20), STATE);
        due("6 -20", x.drifts(1, -20), 1);
        due("6 is -20", x.unit(1, 2), -20);
        due("6 becomes, not more", x.drifts(1, 0), 1);
        due("6 is 0", x.unit(1, 2), 0);
        x = told("u1;");
        x.ticks(1);
        due("6 being broken", x.drifts(1, 3), 1);
        due("6 is 3", x.unit(1, 2), 3);
        due("6 nothing but UNIT 0", new SplicedWeb().drifts(1, 3), BAD);
    }

    private static void promise7() {
        SplicedWeb x = told("u2;u3;e4;r9 0;");
        due("7 UNIT 0", x.corrects(0, 1), BAD);
        due("7 no UNIT", x.corrects(3, 1), BAD);
        due("7 below", x.corrects(-1, 1), BAD);
        due("7 c 0", x.corrects(1, 0), BAD);
        due("7 c 21", x.corrects(1, 21), BAD);
        due("7 c -21", x.corrects(1, -21), BAD);
        due("7 least c", x.corrects(1, Integer.MIN_VALUE), BAD);
        due("7 refused is not undone", x.count(19), 0);
        due("7 WAIT of UNIT 1", x.corrects(1, 20), 7);
        unitIs("7 UNIT 1", x, 1, 2, 2, 0, 20, 7, 0);
        unitIs("7 UNIT 2", x, 2, 3, 5, 0, 0, 0, -20);
        due("7 WAIT of UNIT 2", x.corrects(2, -20), 4);
        unitIs("7 UNIT 2 then", x, 2, 3, 5, 0, -20, 4, -20);
        due("7 again", x.corrects(1, -5), 7);
        due("7 SHIFT adds", x.unit(1, 3), 15);
        due("7 passed ahead adds", x.unit(2, 5), -15);
        due("7 each can be undone", x.count(19), 3);
        x = told("u1;u1;");
        x.ticks(1);
        due("7 being broken", x.corrects(1, 2), 4);
        due("7 passed ahead, being broken", x.unit(2, 5), -2);
    }

    private static void promise7PassedAhead() {
        SplicedWeb x = told("u2;u3;e1;l20;i9;r90 0;");
        x.ticks(10);
        x.corrects(1, 4);
        for (int i = 1; i <= 3; i++) {
            x.ticks(1);
            due("7p still to be passed, tick " + i, x.unit(2, 5), -4);
            due("7p SHIFT of UNIT 2, tick " + i, x.unit(2, 3), 0);
        }
        due("7p error of UNIT 1 by the shift", x.error(1, 2), -4);
        x.ticks(1);
        due("7p passed", x.unit(2, 5), 0);
        due("7p SHIFT of UNIT 2", x.unit(2, 3), -4);
        due("7p not counted twice", x.error(2, 5), 0);
        due("7p and WAIT of UNIT 2 is none", x.unit(2, 4), 0);
        x.ticks(9);
        due("7p UNIT 1", x.last(4), -4);
        due("7p UNIT 2", x.last(5), 0);
        x = told("u1;u1;u1;r90 0;");
        x.corrects(3, 4);
        due("7p none behind the last", x.unit(1, 5) + x.unit(2, 5) + x.unit(3, 5), 0);
        x.corrects(1, 4);
        due("7p to the next one", x.unit(2, 5), -4);
        due("7p not to those behind", x.unit(3, 5), 0);
        x.ticks(2);
        due("7p it came", x.unit(2, 3), -4);
        due("7p what was passed isn't passed on", x.unit(3, 5), 0);
        x.aheads(0);
        x.corrects(1, 4);
        due("7p AHEAD is off", x.unit(2, 5), 0);
        x = told("r1 0;r50 0;u6;u6;e1;i9;");
        x.ticks(2);
        x.corrects(1, 3);
        x.starts();
        x.ticks(6);
        due("7p told being broken: it waits", x.unit(2, 5), -3);
        x.ticks(1);
        due("7p told being broken: it comes", x.unit(2, 3), -3);
        x.corrects(1, 1);
        x.ticks(1);
        x.corrects(1, 2);
        due("7p two at two ticks", x.unit(2, 5), -3);
        x.ticks(6);
        due("7p the first came", x.unit(2, 3), -4);
        due("7p the other did not", x.unit(2, 5), -2);
    }

    private static void promise8() {
        due("8 no reel", new SplicedWeb().spins(), STATE);
        due("8 no next reel", told("r9 0;").spins(), STATE);
        SplicedWeb x = told("r3 0;r3 0;r3 0;p1;");
        due("8 not spun", x.count(9), 0);
        x.ticks(1);
        due("8 SPUN stays 0", x.count(9), 0);
        due("8 spins", x.spins(), 1);
        due("8 SPUN", x.count(9), 1);
        due("8 spun already", x.spins(), STATE);
        due("8 refused is not undone", x.count(19), 2);
        x.ticks(1);
        due("8 SPUN grows", x.count(9), 2);
        x.ticks(2);
        due("8 pasted", x.count(7), 1);
        due("8 SPUN is 0", x.count(9), 0);
        due("8 the next one", x.spins(), 2);
        x = told("r1 0;r3 0;");
        x.ticks(2);
        due("8 broken", x.spins(), STATE);
    }

    private static void promise9() {
        SplicedWeb x = told("r2 0;r3 0;r4 1;e1;u1;p9;");
        due("9 it runs", x.starts(), STATE);
        x.ticks(1);
        x.spins();
        due("9 corrects", x.corrects(1, 5), 1);
        x.ticks(2);
        counts("9 broken", x, 2, 3, 3, 2, 0, 2, 0, 0, 1, 2, 0, 1, 0);
        due("9 starts", x.starts(), 1);
        counts("9 started", x, 2, 3, 3, 2, 0, 2, 0, 1, 2, 0, 1, 1, 0);
        due("9 LEFT", x.reel(1, 2), 3);
        unitIs("9 WAITS 0, SHIFTS stay", x, 1, 1, 1, 0, 5, 0, 0);
        due("9 it runs", x.starts(), STATE);
        due("9 ticks", x.ticks(3), 0);
        due("9 the first is no splice", x.last(1), 0);
        due("9 number", x.last(0), 2);
        x.ticks(1);
        due("9 broken again", x.starts(), 2);
        x.ticks(5);
        due("9 no next reel", x.starts(), STATE);
        x = new SplicedWeb();
        x.ticks(1);
        due("9 no reel", x.starts(), STATE);
    }

    private static void promise10() {
        SplicedWeb x = told("u1;u1;r9 0;");
        due("10 BAD 2", x.aheads(2), BAD);
        due("10 BAD -1", x.aheads(-1), BAD);
        due("10 is on", x.aheads(1), STATE);
        due("10 refused is not undone", x.count(19), 0);
        due("10 off", x.aheads(0), 1);
        due("10 is off", x.count(11), 0);
        due("10 off already", x.aheads(0), STATE);
        x.corrects(1, 2);
        due("10 nothing is passed", x.unit(2, 5), 0);
        due("10 on", x.aheads(1), 1);
        due("10 is on again", x.count(11), 1);
        x.corrects(1, 2);
        due("10 passed", x.unit(2, 5), -2);
        x.aheads(0);
        due("10 what is to be passed stays", x.unit(2, 5), -2);
        x = new SplicedWeb();
        x.ticks(1);
        due("10 being broken", x.aheads(0), 1);
    }

    private static void promise11() {
        SplicedWeb x = told("u1;u1;e1;i0;p1;r4 2;r9 1;");
        due("11 none", x.undo(), STATE);
        x.ticks(3);
        x.drifts(1, 3);
        x.corrects(1, 4);
        x.spins();
        x.aheads(0);
        x.ticks(4);
        due("11 six", x.count(19), 6);
        due("11 ticks", x.undo(), 5);
        counts("11 ticks", x, 3, 2, 3, 3, 0, 0, 3, 0, 1, 1, 1, 0, 0);
        due("11 none came", x.last(0), NOT);
        due("11 LEFT", x.reel(0, 2), 1);
        due("11 error", x.error(2, 2), 4);
        due("11 aheads", x.undo(), 4);
        due("11 AHEAD", x.count(11), 1);
        due("11 spins", x.undo(), 3);
        due("11 SPUN", x.count(9), 0);
        unitIs("11 before", x, 1, 1, 1, 3, 4, 2, 0);
        due("11 before", x.unit(2, 5), -4);
        due("11 corrects", x.undo(), 2);
        unitIs("11 after", x, 1, 1, 1, 3, 0, 0, 0);
        due("11 after", x.unit(2, 5), 0);
        due("11 drifts", x.undo(), 1);
        due("11 OFF", x.unit(1, 2), 0);
        due("11 ticks", x.undo(), 0);
        counts("11 as at first", x, 3, 2, 0, 0, 0, 0, 0, 0, 1, 0, 1, 1, 0);
        due("11 no more", x.undo(), STATE);
        for (int off = 1; off <= 8; off++) {
            x.drifts(1, off);
        }
        due("11 six are known", x.count(19), 6);
        for (int left = 5; left >= 0; left--) {
            due("11 undo of eight", x.undo(), left);
        }
        due("11 older ones are lost", x.unit(1, 2), 2);
        due("11 none is left", x.undo(), STATE);
        x = told("r1 0;r5 0;e1;");
        x.ticks(2);
        x.starts();
        due("11 starts", x.undo(), 1);
        due("11 broken again", x.count(10), 0);
        due("11 the reel", x.count(7), 0);
        x.type('u');
        x.keep(1);
        due("11 runs again", x.undo(), 0);
        due("11 no waste", x.count(5), 0);
        due("11 the text is not undone", x.count(18), 1);
        due("11 nor are images", x.back(1), 2);
        x = told("u1;r9 1;");
        x.drifts(1, 3);
        x.sees(1, 1);
        due("11 undo", x.undo(), 0);
        due("11 what was seen stays", x.count(17), 1);
        x = told("u1;e1;r9 1;i0;");
        x.ticks(3);
        lastIs("11 last", x, 0, 0, 1, 0, 1, 0, 0);
        x.ticks(4);
        due("11 last 4", x.last(0), 4);
        x.undo();
        lastIs("11 last as it was", x, 0, 0, 1, 0, 1, 0, 0);
        x = told("e1;p1;r1 0;r9 0;");
        x.spins();
        x.ticks(3);
        lastIs("11 a splice", x, 1, 1, 0);
        x.ticks(1);
        lastIs("11 behind the splice", x, 2, 0, 1);
        x.undo();
        lastIs("11 the splice again", x, 1, 1, 0);
    }

    private static void promise12() {
        SplicedWeb x = told("u2;u6;u1;e1;r9 0;");
        unitIs("12", x, 0, 0, 0, 0, 0, 0, 0);
        unitIs("12", x, 1, 2, 2, 0, 0, 0, 0);
        unitIs("12", x, 2, 6, 8, 0, 0, 0, 0);
        unitIs("12", x, 3, 1, 9, 0, 0, 0, 0);
        x.drifts(2, -4);
        x.corrects(2, 7);
        x.corrects(1, 3);
        unitIs("12", x, 1, 2, 2, 0, 3, 8, 0);
        unitIs("12", x, 2, 6, 8, -4, 7, 2, -3);
        unitIs("12", x, 3, 1, 9, 0, 0, 0, -7);
        due("12 no UNIT 4", x.unit(4, 0), NO);
        due("12 no UNIT -1", x.unit(-1, 0), NO);
        due("12 what -1", x.unit(0, -1), NO);
        due("12 what 6", x.unit(0, 6), NO);
        due("12 greatest", x.unit(Integer.MAX_VALUE, Integer.MAX_VALUE), NO);
        due("12 least", x.unit(Integer.MIN_VALUE, Integer.MIN_VALUE), NO);
        tell(x, "u1;");
        due("12 UNITS that are gone", x.unit(2, 0), NO);
    }

    private static void promise13() {
        SplicedWeb x = told("r3 4;r7-2;r2 0;");
        due("13 copies", x.reel(0, 0), 3);
        due("13 stretch", x.reel(0, 1), 4);
        due("13 left", x.reel(0, 2), 3);
        due("13 stretch below", x.reel(1, 1), -2);
        due("13 left of the next", x.reel(1, 2), 7);
        x.ticks(2);
        due("13 left", x.reel(0, 2), 1);
        due("13 copies stay", x.reel(0, 0), 3);
        x.ticks(2);
        due("13 broken: left", x.reel(0, 2), 0);
        x.starts();
        x.ticks(3);
        due("13 behind", x.reel(0, 2), 0);
        due("13 on", x.reel(1, 2), 4);
        due("13 not on yet", x.reel(2, 2), 2);
        due("13 no REEL 3", x.reel(3, 0), NO);
        due("13 no REEL -1", x.reel(-1, 0), NO);
        due("13 what -1", x.reel(0, -1), NO);
        due("13 what 3", x.reel(0, 3), NO);
        due("13 greatest", x.reel(Integer.MAX_VALUE, 0), NO);
        due("13 least", x.reel(Integer.MIN_VALUE, 2), NO);
    }

    private static void promise14() {
        SplicedWeb x = told("u1;u1;u1;e1;i9;l6;r2 2;r9-3;p1;");
        due("14 BAD goes ahead of none", x.last(7), NO);
        due("14 none", x.last(6), NOT);
        x.spins();
        x.ticks(4);
        due("14 none yet", x.last(0), NOT);
        x.ticks(1);
        lastIs("14 copy 0", x, 0, 0, 1, 0, 2, 4, 6);
        x.ticks(2);
        lastIs("14 copy 2", x, 2, 1, 0, 0, -3, -6, -9);
        x.ticks(1);
        lastIs("14 copy 3", x, 3, 0, 0, 0, -3, -6, -9);
        due("14 what 7", x.last(7), NO);
        due("14 what -1", x.last(-1), NO);
        due("14 greatest", x.last(Integer.MAX_VALUE), NO);
        x = told("u1;e1;r9 1;");
        x.ticks(4);
        lastIs("14 0 of a UNIT that there is not", x, 1, 0, 1, 0, 1, 0, 0);
    }

    private static void promise15() {
        SplicedWeb x = told("u2;u1;e2;r9 1;r9 0;i9;");
        due("15 none", x.error(0, 0), NOT);
        x.ticks(4);
        due("15 UNIT 0", x.error(0, 0), 0);
        due("15 UNIT 0, the oldest", x.error(0, 3), 0);
        due("15 not so many", x.error(0, 4), NOT);
        due("15 not printed", x.error(1, 1), NOT);
        due("15 printed", x.error(1, 2), 1);
        due("15 UNIT 2 not", x.error(2, 2), NOT);
        due("15 UNIT 2", x.error(2, 3), 2);
        x.drifts(1, 5);
        due("15 as it was printed", x.error(1, 2), 1);
        x.ticks(2);
        due("15 newly printed", x.error(1, 2), 6);
        due("15 older", x.error(1, 4), 1);
        due("15 came to the camera", x.error(2, 5), NOT);
        due("15 far", x.error(1, Integer.MAX_VALUE), NOT);
        due("15 k below 0", x.error(1, -1), NO);
        due("15 least k", x.error(1, Integer.MIN_VALUE), NO);
        due("15 no UNIT 3", x.error(3, 0), NO);
        due("15 no UNIT -1", x.error(-1, 0), NO);
        due("15 BAD though none are so many", x.error(3, 99), NO);
        x.corrects(1, 3);
        x.ticks(1);
        due("15 by the shift", x.error(1, 2), 3);
        due("15 UNIT 2 has UNIT 1's shift as it was then", x.error(2, 3), 2);
        x.ticks(1);
        due("15 UNIT 2 by what was passed", x.error(2, 3), 2);
        x.ticks(2);
        due("15 broken", x.error(0, 0), NOT);
        x = told("u1;u1;u1;e9;r9 3;");
        x.ticks(4);
        due("15 UNIT 3", x.error(3, 3), 9);
        due("15 UNIT 3 not yet", x.error(3, 2), NOT);
    }

    private static void promise16() {
        due("16 no reel", new SplicedWeb().steady(), NONE);
        SplicedWeb x = told("u1;e1;i0;l3;r5 0;r5 2;");
        due("16 steady from now", x.steady(), 0);
        x.drifts(1, 3);
        due("16 comes at 3, 4 till corrected", x.steady(), 4);
        due("16 nothing changed", x.count(2), 0);
        x.ticks(2);
        due("16 from then", x.steady(), 2);
        x.ticks(1);
        due("16 one is still under way", x.steady(), 1);
        x.ticks(1);
        due("16 all seen", x.steady(), 0);
        x.ticks(2);
        due("16 broken", x.steady(), NONE);
        x.starts();
        due("16 started: the stretch", x.steady(), 4);
        x = told("u1;e1;i2;r5 2;");
        due("16 within IDLE", x.steady(), 0);
        x = told("u1;e1;i1;r5 2;");
        due("16 beyond IDLE", x.steady(), 4);
        x = told("u1;u1;e1;i0;r90 1;");
        due("16 two units, passed ahead", x.steady(), 6);
        x.aheads(0);
        due("16 two units, counted twice", x.steady(), 8);
        x = told("u1;e1;i0;r2 2;");
        due("16 the reel lasts for ever", x.steady(), 4);
        x.ticks(2);
        due("16 though none is left", x.steady(), 2);
        x = told("u1;e1;i0;r1 0;r9 2;p1;");
        x.spins();
        x.ticks(2);
        due("16 a splice is looked at too", x.steady(), 4);
    }

    private static void promise17() {
        due("17 no reel", new SplicedWeb().cost(), NOT);
        due("17 no next reel", told("r9 0;").cost(), NOT);
        SplicedWeb x = told("e1;r9 0;r9 5;");
        due("17 the splice alone", x.cost(), 1);
        x = told("u1;e1;l3;i0;r9 0;r9 3;");
        due("17 within the limit", x.cost(), 1);
        x = told("u1;e1;l2;i0;r9 0;r9 3;");
        due("17 the splice, and two till it is corrected", x.cost(), 3);
        due("17 nothing changed", x.count(2) + x.count(12), 0);
        x.ticks(9);
        due("17 none left", x.cost(), 3);
        x.ticks(1);
        due("17 broken", x.cost(), NOT);
        x = told("u1;e1;l2;i9;r9 5;r9 0;");
        x.ticks(2);
        due("17 below 0: all 200 would be waste", x.cost(), -197);
        x = told("u1;e1;l2;i9;r9 0;r9 5;");
        due("17 all that come by tick 200", x.cost(), 198);
    }

    private static void promise18and19() {
        SplicedWeb x = told("u1;u1;r9 0;");
        due("18 UNIT 0", x.sees(0, 1), BAD);
        due("18 no UNIT 3", x.sees(3, 1), BAD);
        due("18 UNIT -1", x.sees(-1, 1), BAD);
        due("18 x 100", x.sees(1, 100), BAD);
        due("18 x -100", x.sees(1, -100), BAD);
        due("18 least x", x.sees(1, Integer.MIN_VALUE), BAD);
        due("19 none", x.forget(), 0);
        due("18 first", x.sees(1, 99), 1);
        due("18 second", x.sees(2, -99), 2);
        due("18 the same again", x.sees(2, -99), 3);
        due("18 fourth", x.sees(1, 0), 4);
        due("18 fifth", x.sees(1, 1), 5);
        due("18 sixth", x.sees(1, 1), 6);
        due("18 full", x.sees(1, 1), FULL);
        due("18 BAD goes ahead of FULL", x.sees(0, 1), BAD);
        due("18 counted", x.count(17), 6);
        due("18 not to be undone", x.count(19), 0);
        due("19 six", x.forget(), 6);
        due("19 none then", x.count(17), 0);
        due("19 again", x.forget(), 0);
        due("19 all may be", x.which(), 55);
        due("18 from 1 on", x.sees(1, 1), 1);
    }

    private static SplicedWeb seen(String text, int... pairs) {
        SplicedWeb x = told(text);
        for (int i = 0; i + 1 < pairs.length; i += 2) {
            x.sees(pairs[i], pairs[i + 1]);
        }
        return x;
    }

    private static void promise20() {
        due("20 UNIT 0 alone", seen("").which(), 1);
        due("20 two UNITS", seen("u1;").which(), 1 + 2 + 16);
        due("20 three UNITS", seen("u1;u1;").which(), 1 + 2 + 4 + 16 + 32);
        String four = "u1;u1;u1;";
        due("20 four UNITS", seen(four).which(), 127);
        due("20 1 by 5", seen(four, 1, 5).which(), 1 + 2 + 16);
        due("20 1 by 0", seen(four, 1, 0).which(), 4 + 8 + 32 + 64);
        due("20 2 by 5", seen(four, 2, 5).which(), 4 + 16 + 32);
        due("20 2 by 6", seen(four, 2, 6).which(), 1 + 4 + 16 + 32);
        due("20 3 by 60", seen(four, 3, 60).which(), 1);
        due("20 3 by 63", seen(four, 3, 63).which(), 0);
        due("20 3 by -60", seen(four, 3, -60).which(), 1);
        due("20 2 by 40", seen(four, 2, 40).which(), 1);
        due("20 2 by 42", seen(four, 2, 42).which(), 0);
        due("20 1 by 20", seen(four, 1, 20).which(), 1 + 2 + 16);
        due("20 1 by -20", seen(four, 1, -20).which(), 1 + 2 + 16);
        due("20 1 by 21", seen(four, 1, 21).which(), 0);
        due("20 3 by 20", seen(four, 3, 20).which(), 8 + 16 + 32 + 64);
        due("20 stretch", seen(four, 1, -2, 3, -6).which(), 1);
        due("20 shift 1", seen(four, 1, 4, 2, 4).which(), 16);
        due("20 shift 2", seen(four, 3, 4, 2, 4, 1, 0).which(), 32);
        due("20 shift 3 or off 3", seen(four, 3, 4, 2, 0).which(), 8 + 64);
        due("20 off 2", seen(four, 2, 4, 3, 0).which(), 4);
        due("20 off 1", seen(four, 1, 4, 2, 0).which(), 2);
        due("20 not both", seen(four, 1, 4, 1, 5).which(), 0);
        due("20 the same twice", seen(four, 1, 4, 1, 4).which(), 1 + 2 + 16);
        due("20 all 0", seen(four, 1, 0, 2, 0, 3, 0).which(), 0);
        due("20 two UNITS by 0", seen("u1;", 1, 0).which(), 0);
    }

    private static void promise21() {
        String four = "u1;u1;u1;";
        due("21 UNIT 0 alone", seen("").look(), NONE);
        due("21 two UNITS", seen("u1;").look(), 1);
        due("21 three UNITS: 2 to 3, then 4 to 1", seen("u1;u1;").look(), 1);
        due("21 four UNITS: 3 to 4, 4 to 3, 5 to 2", seen(four).look(), 1);
        due("21 1 by 5: UNIT 2 parts OFF 1", seen(four, 1, 5).look(), 2);
        due("21 1 by 0: of 2, 3, 5, 6 UNIT 2 has 2", seen(four, 1, 0).look(), 2);
        due("21 2 by 5: of 2, 4, 5 UNIT 1 has 4", seen(four, 2, 5).look(), 1);
        due("21 3 by 0, 1 by 0: OFF 2 alone", seen(four, 3, 0, 1, 0).look(), NONE);
        due("21 3 by 5: of 3, 4, 5, 6 UNIT 2 has 2", seen(four, 3, 5).look(), 2);
        due("21 3 by 3: of 0, 3, 4, 5, 6 UNIT 1 has 2", seen(four, 3, 3).look(), 1);
        due("21 none fits", seen(four, 1, 21).look(), NONE);
        due("21 one fits", seen(four, 1, -2, 3, -6).look(), NONE);
        due("21 not parted by any, the least", seen(four, 3, 4, 2, 0).look(), 1);
    }

    private static void promise22and23() {
        SplicedWeb x = told("u1;u1;e1;i0;p1;r6 2;r9 1;");
        due("22 BAD -1", x.keep(-1), BAD);
        due("22 BAD 2", x.keep(2), BAD);
        due("23 BAD -1", x.back(-1), BAD);
        due("23 BAD 2", x.back(2), BAD);
        due("23 none was kept", x.back(0), STATE);
        due("23 nor 1", x.back(1), STATE);
        due("22 at first", x.keep(0), 0);
        x.drifts(1, 3);
        x.corrects(1, -4);
        x.spins();
        x.aheads(0);
        x.ticks(5);
        due("22 then", x.keep(1), 5);
        due("22 nothing is lost", x.count(19), 5);
        int[] was = pictureOfRun(x);
        x.sees(1, 3);
        x.type('u');
        x.ticks(60);
        due("23 broken", x.count(10), 0);
        due("23 back", x.back(1), 5);
        same("23 as it was", pictureOfRun(x), was);
        due("23 nothing can be undone", x.undo(), STATE);
        due("23 what was seen is as it is", x.count(17), 1);
        due("23 the text is as it is", x.count(18), 1);
        due("23 on from there", x.ticks(2), 0);
        due("23 pasted", x.count(12), 1);
        due("23 back to the first", x.back(0), 0);
        counts("23 as at first", x, 3, 2, 0, 0, 0, 0, 0, 0, 1, 0, 1, 1, 0);
        unitIs("23 as at first", x, 1, 1, 1, 0, 0, 0, 0);
        due("23 none came", x.last(0), NOT);
        x.ticks(3);
        due("23 an image stays", x.back(1), 5);
        due("22 over an image", x.keep(0), 5);
        x.ticks(1);
        due("23 the new one", x.back(0), 5);
    }

    private static void promise24() {
        SplicedWeb x = told("u1;u1;e2;l5;i4;p6;r5 1;r7 2;");
        counts("24 told", x, 3, 2, 0, 0, 0, 0, 0, 0, 1, 0, 1, 1, 0, 2, 5, 4, 6, 0, 0, 0);
        x.spins();
        x.aheads(0);
        x.sees(1, 1);
        x.type('u');
        x.ticks(5);
        counts("24 under way", x, 3, 2, 5, 5, 1, 0, 4, 0, 1, 6, 1, 0, 0, 2, 5, 4, 6, 1, 1, 3);
        x.ticks(5);
        counts("24 pasted", x, 3, 2, 10, 10, 5, 1, 4, 1, NONE, 0, 1, 0, 1, 2, 5, 4, 6, 1, 1, 4);
        x.ticks(60);
        counts("24 broken", x, 3, 2, 13, 12, 7, 5, 0, 1, NONE, 0, 0, 0, 1, 2, 5, 4, 6, 1, 1, 5);
        due("24 what -1", x.count(-1), BAD);
        due("24 what 20", x.count(20), BAD);
        due("24 greatest", x.count(Integer.MAX_VALUE), BAD);
        due("24 least", x.count(Integer.MIN_VALUE), BAD);
    }
}
