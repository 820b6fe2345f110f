import java.util.ArrayDeque;
import java.util.ArrayList;
import java.util.Arrays;
import java.util.Deque;
import java.util.List;
import java.util.Random;

/**
 * Random runs of calls, each answered by SplicedWeb and by a plain model that follows the
 * document word by word (lists of copies, brute force for what comes), and compared.
 */
public final class ModelTests {
    private static final int RUNS = 12000;
    /** "An object is used for at most 512 calls": what later ones answer is free, so none is asked. */
    private static final int MOST_CALLS = 512;
    /** One step tells a text at most: its letters, and two calls. */
    private static final int CALLS_OF_A_STEP = 122;
    private static final int CALLS_OF_A_PICTURE = 219;
    private static int wrong = 0;

    public static void main(String[] args) {
        for (int run = 0; run < RUNS && wrong < 20; run++) {
            new Run(run).go();
        }
        System.out.println(wrong == 0 ? "the model and the program agree" : wrong + " answers differ");
        if (wrong != 0) {
            System.exit(1);
        }
    }

    /** One object beside one model, and the calls made so far. */
    private static final class Run {
        final int number;
        final Random random;
        final SplicedWeb web = new SplicedWeb();
        final Model model = new Model();
        final StringBuilder calls = new StringBuilder();
        int made = 0;
        boolean differs = false;

        Run(int number) {
            this.number = number;
            this.random = new Random(number);
        }

        /** Every other run is a short one that ends with all that can be asked; the rest go on for longer. */
        void go() {
            boolean endsWithAll = number % 2 == 0;
            int room = MOST_CALLS - CALLS_OF_A_STEP - (endsWithAll ? CALLS_OF_A_PICTURE : 1);
            if (number % 20 > 0) {
                tell(validText());
            }
            while (made <= room && !differs) {
                step();
                askOne();
            }
            if (endsWithAll) {
                compareAll();
            }
            if (made > MOST_CALLS) {
                throw new IllegalStateException("run " + number + " makes " + made + " calls");
            }
        }

        int between(int low, int high) {
            return low + random.nextInt(high - low + 1);
        }

        String validText() {
            StringBuilder s = new StringBuilder();
            int units = between(0, 3);
            int reels = between(0, 12) == 0 ? 0 : between(1, 8);
            for (int i = 0; i < units; i++) {
                s.append("u").append(between(1, 6)).append(";");
            }
            for (int i = 0; i < reels; i++) {
                s.append("r").append(random.nextBoolean() ? between(1, 99) : between(1, 30));
                s.append(random.nextBoolean() ? " " : "-").append(random.nextInt(3) == 0 ? between(0, 9) : between(0, 3));
                s.append(";");
            }
            if (random.nextInt(3) > 0) s.append("e").append(between(1, 9)).append(";");
            if (random.nextInt(3) > 0) s.append("l").append(between(1, 20)).append(";");
            if (random.nextInt(3) > 0) s.append("i").append(between(0, 9)).append(";");
            if (random.nextInt(3) > 0) s.append("p").append(random.nextBoolean() ? between(1, 3) : between(1, 20)).append(";");
            return s.toString();
        }

        String spoiltText() {
            StringBuilder s = new StringBuilder(validText());
            if (random.nextInt(4) == 0) s.append(random.nextBoolean() ? "u1;" : "r100 0;r9 1;");
            String signs = "urelip-;0123456789 x" + (char) 0 + (char) 255;
            int times = between(1, 3);
            for (int i = 0; i < times; i++) {
                int at = between(0, s.length());
                char sign = signs.charAt(random.nextInt(signs.length()));
                int way = random.nextInt(3);
                if (way == 0 || at >= s.length()) s.insert(at, sign);
                else if (way == 1) s.setCharAt(at, sign);
                else s.deleteCharAt(at);
            }
            return s.toString();
        }

        void tell(String text) {
            for (int i = 0; i < text.length(); i++) {
                int letter = text.charAt(i);
                same("type(" + letter + ")", web.type(letter), model.type(letter));
            }
            same("tells()", web.tells(), model.tells());
        }

        void step() {
            int unit = random.nextInt(8) == 0 ? between(-1, 4) : between(1, Math.max(1, model.gaps.size() - 1));
            switch (random.nextInt(40)) {
                case 0: case 1: case 2: case 3: case 4: case 5: case 6: case 7: {
                    int n = random.nextInt(10) == 0 ? between(-1, 62) : between(1, 12);
                    same("ticks(" + n + ")", web.ticks(n), model.ticks(n));
                    break;
                }
                case 8: case 9: case 10: {
                    int off = between(-21, 21) / (random.nextBoolean() ? 1 : 5);
                    same("drifts(" + unit + ", " + off + ")", web.drifts(unit, off), model.drifts(unit, off));
                    break;
                }
                case 11: case 12: case 13: {
                    int c = between(-21, 21);
                    same("corrects(" + unit + ", " + c + ")", web.corrects(unit, c), model.corrects(unit, c));
                    break;
                }
                case 14: case 15: case 16: case 17: case 18:
                    same("spins()", web.spins(), model.spins());
                    break;
                case 19: case 20: case 21:
                    same("starts()", web.starts(), model.starts());
                    break;
                case 22: case 23: {
                    int is = between(-1, 2);
                    same("aheads(" + is + ")", web.aheads(is), model.aheads(is));
                    break;
                }
                case 24: case 25: case 26:
                    same("undo()", web.undo(), model.undo());
                    break;
                case 27: case 28: case 29: case 30: {
                    int x = random.nextBoolean() ? between(-100, 100) : between(-6, 6);
                    same("sees(" + unit + ", " + x + ")", web.sees(unit, x), model.sees(unit, x));
                    break;
                }
                case 31: {
                    if (random.nextBoolean()) same("forget()", web.forget(), model.forget());
                    break;
                }
                case 32: case 33: {
                    int image = between(-1, 2);
                    same("keep(" + image + ")", web.keep(image), model.keep(image));
                    break;
                }
                case 34: case 35: {
                    int image = between(-1, 2);
                    same("back(" + image + ")", web.back(image), model.back(image));
                    break;
                }
                case 36: {
                    same("clear()", web.clear(), model.clear());
                    tell(spoiltText());
                    break;
                }
                case 37: {
                    int letter = random.nextBoolean() ? between(-2, 257) : "u1; ".charAt(between(0, 3));
                    same("type(" + letter + ")", web.type(letter), model.type(letter));
                    break;
                }
                case 38: {
                    if (random.nextInt(4) == 0) tell(validText());
                    break;
                }
                default:
                    if (random.nextInt(4) == 0) same("clear()", web.clear(), model.clear());
                    break;
            }
        }

        void askOne() {
            switch (random.nextInt(12)) {
                case 0: case 1: sameCount(between(-1, 20)); break;
                case 2: sameLast(between(-1, 7)); break;
                case 3: case 4: sameUnit(between(-1, 4), between(-1, 6)); break;
                case 5: case 6: sameError(between(-1, 4), between(-1, 29)); break;
                case 7: sameReel(between(-1, 8), between(-1, 3)); break;
                case 8: same("steady()", web.steady(), model.steady()); break;
                case 9: same("cost()", web.cost(), model.cost()); break;
                case 10: same("which()", web.which(), model.which()); break;
                default: same("look()", web.look(), model.look()); break;
            }
        }

        void compareAll() {
            for (int what = 0; what <= 19; what++) sameCount(what);
            for (int what = 0; what <= 6; what++) sameLast(what);
            for (int k = 0; k <= 3; k++) {
                for (int what = 0; what <= 5; what++) sameUnit(k, what);
                for (int age = 0; age <= 34; age++) sameError(k, age);
            }
            for (int r = 0; r <= 7; r++) {
                for (int what = 0; what <= 2; what++) sameReel(r, what);
            }
            same("steady()", web.steady(), model.steady());
            same("cost()", web.cost(), model.cost());
            same("which()", web.which(), model.which());
            same("look()", web.look(), model.look());
        }

        void sameCount(int what) {
            same("count(" + what + ")", web.count(what), model.count(what));
        }

        void sameLast(int what) {
            same("last(" + what + ")", web.last(what), model.last(what));
        }

        void sameUnit(int k, int what) {
            same("unit(" + k + ", " + what + ")", web.unit(k, what), model.unit(k, what));
        }

        void sameError(int k, int age) {
            same("error(" + k + ", " + age + ")", web.error(k, age), model.error(k, age));
        }

        void sameReel(int r, int what) {
            same("reel(" + r + ", " + what + ")", web.reel(r, what), model.reel(r, what));
        }

        void same(String call, int got, int want) {
            made++;
            boolean changes = "type tells clear ticks drifts corrects spins starts aheads undo sees forget keep back"
                .contains(call.substring(0, call.indexOf('(')));
            if (changes) {
                calls.append(call).append(' ');
            }
            if (got != want && !differs) {
                differs = true;
                wrong++;
                System.out.println("run " + number + ": " + call + " answered " + got + ", the model " + want
                    + "; calls: " + calls);
            }
        }
    }

    private static final class Copy {
        int number, stretch, beginTick;
        boolean splice, good;
        Integer[] shiftWhenPrinted = new Integer[4];
        Integer[] errors = new Integer[4];

        Copy twin() {
            Copy c = new Copy();
            c.number = number;
            c.stretch = stretch;
            c.beginTick = beginTick;
            c.splice = splice;
            c.good = good;
            c.shiftWhenPrinted = shiftWhenPrinted.clone();
            c.errors = errors.clone();
            return c;
        }
    }

    /** All that part 2 tells. */
    private static final class State {
        boolean broken = false, ahead = true;
        int[] off = new int[4], shift = new int[4], wait = new int[4];
        int on = -1, left = 0, spun = 0;
        int ticks = 0, began = 0, good = 0, waste = 0, splices = 0;
        List<Copy> underWay = new ArrayList<>();
        List<int[]> passes = new ArrayList<>();
        Copy last = null;

        State twin() {
            State s = new State();
            s.broken = broken;
            s.ahead = ahead;
            s.off = off.clone();
            s.shift = shift.clone();
            s.wait = wait.clone();
            s.on = on;
            s.left = left;
            s.spun = spun;
            s.ticks = ticks;
            s.began = began;
            s.good = good;
            s.waste = waste;
            s.splices = splices;
            for (Copy c : underWay) s.underWay.add(c.twin());
            for (int[] p : passes) s.passes.add(p.clone());
            s.last = last == null ? null : last.twin();
            return s;
        }
    }

    private enum Mode { REAL, SAME_REEL, PASTE_NOW }

    private static final class Model {
        List<Integer> gaps = new ArrayList<>(List.of(0));
        List<int[]> reels = new ArrayList<>();
        int eye = 3, limit = 3, idle = 1, spin = 5;
        StringBuilder text = new StringBuilder();
        State now = new State();
        Deque<State> older = new ArrayDeque<>();
        State[] images = new State[2];
        List<int[]> seen = new ArrayList<>();

        int way(int k) {
            int sum = 0;
            for (int i = 0; i <= k; i++) sum += gaps.get(i);
            return sum;
        }

        int lastUnit() {
            return gaps.size() - 1;
        }

        int type(int letter) {
            if (letter < 0 || letter > 255) return -1;
            if (text.length() == 120) return -3;
            text.append((char) letter);
            return text.length();
        }

        int clear() {
            int had = text.length();
            text.setLength(0);
            return had;
        }

        /** Tokens first, each with its place; then a row of words that each item must be. */
        int tells() {
            List<String> tokens = new ArrayList<>();
            List<Integer> places = new ArrayList<>();
            String s = text.toString();
            for (int i = 0; i < s.length();) {
                int j = i + 1;
                if (s.charAt(i) == ' ') {
                    i++;
                    continue;
                }
                if (s.substring(i, j).matches("[0-9]")) {
                    while (j < s.length() && s.substring(j, j + 1).matches("[0-9]")) j++;
                }
                tokens.add(s.substring(i, j));
                places.add(i);
                i = j;
            }
            tokens.add("");
            places.add(s.length());
            return readTokens(tokens, places);
        }

        int readTokens(List<String> tokens, List<Integer> places) {
            Model draft = new Model();
            int items = 0;
            int at = 0;
            String told = "";
            while (at < tokens.size() - 1) {
                String t = tokens.get(at);
                boolean stands = t.length() == 1 && "urelip".contains(t)
                    && !(t.equals("u") && draft.gaps.size() == 4)
                    && !(t.equals("r") && draft.reels.size() == 8)
                    && !(told.contains(t) && "elip".contains(t));
                if (!stands) return -10 - places.get(at);
                told += t;
                at++;
                int low = t.equals("i") ? 0 : 1;
                int high = t.equals("u") ? 6 : t.equals("r") ? 99 : t.equals("e") || t.equals("i") ? 9 : 20;
                if (!isNumber(tokens.get(at), low, high)) return -10 - places.get(at);
                int number = Integer.parseInt(tokens.get(at));
                at++;
                if (t.equals("r")) {
                    int sign = tokens.get(at).equals("-") ? -1 : 1;
                    if (sign < 0) at++;
                    if (!isNumber(tokens.get(at), 0, 9)) return -10 - places.get(at);
                    draft.reels.add(new int[] {number, sign * Integer.parseInt(tokens.get(at))});
                    at++;
                }
                if (!tokens.get(at).equals(";")) return -10 - places.get(at);
                at++;
                items++;
                switch (t) {
                    case "u": draft.gaps.add(number); break;
                    case "e": draft.eye = number; break;
                    case "l": draft.limit = number; break;
                    case "i": draft.idle = number; break;
                    case "p": draft.spin = number; break;
                    default: break;
                }
            }
            gaps = draft.gaps;
            reels = draft.reels;
            eye = draft.eye;
            limit = draft.limit;
            idle = draft.idle;
            spin = draft.spin;
            text.setLength(0);
            now = new State();
            if (!reels.isEmpty()) {
                now.on = 0;
                now.left = reels.get(0)[0];
            }
            older.clear();
            images = new State[2];
            seen.clear();
            return items;
        }

        static boolean isNumber(String token, int low, int high) {
            if (!token.matches("0|[1-9][0-9]?")) return false;
            int n = Integer.parseInt(token);
            return n >= low && n <= high;
        }

        int next(State s) {
            return s.on >= 0 && s.on + 1 < reels.size() ? s.on + 1 : -9;
        }

        /** One tick by the document's (1) to (5); the copy that came to the camera, or null. */
        Copy tick(State s, Mode mode) {
            s.ticks++;
            boolean splice = false;
            boolean mustPaste = mode == Mode.PASTE_NOW || (mode == Mode.REAL && (s.on < 0 || s.left == 0));
            if (mustPaste) {
                boolean may = mode == Mode.PASTE_NOW || (next(s) != -9 && s.spun > 0 && s.spun >= spin);
                if (!may) {
                    s.broken = true;
                    s.waste += s.underWay.size();
                    s.underWay.clear();
                    s.passes.clear();
                    return null;
                }
                s.on = next(s);
                s.left = reels.get(s.on)[0];
                s.spun = 0;
                splice = true;
                s.splices++;
            }
            Copy c = new Copy();
            c.number = s.began++;
            c.stretch = reels.get(s.on)[1];
            c.splice = splice;
            c.beginTick = s.ticks;
            c.errors[0] = 0;
            s.left--;
            s.underWay.add(c);
            for (int k = 1; k <= lastUnit(); k++) printAt(s, k);
            Copy came = camera(s);
            if (s.spun > 0) s.spun++;
            return came;
        }

        void printAt(State s, int k) {
            for (int[] p : s.passes) {
                if (p[0] == k && p[1] == s.ticks) s.shift[k] += p[2];
            }
            s.passes.removeIf(p -> p[0] == k && p[1] == s.ticks);
            for (Copy c : s.underWay) {
                if (c.beginTick == s.ticks - way(k)) {
                    c.shiftWhenPrinted[k] = s.shift[k];
                    int error = s.off[k] + k * c.stretch;
                    for (int i = 1; i <= k; i++) error -= c.shiftWhenPrinted[i];
                    c.errors[k] = error;
                }
            }
        }

        Copy camera(State s) {
            Copy came = null;
            for (Copy c : s.underWay) {
                if (c.beginTick == s.ticks - way(lastUnit()) - eye) came = c;
            }
            if (came == null) return null;
            s.underWay.remove(came);
            came.good = !came.splice && furthest(came) <= limit;
            if (came.good) s.good++; else s.waste++;
            s.last = came;
            for (int k = 1; k <= lastUnit(); k++) {
                if (s.wait[k] > 0) s.wait[k]--;
                else if (Math.abs(came.errors[k]) > idle && !came.splice) correct(s, k, came.errors[k]);
            }
            return came;
        }

        int furthest(Copy c) {
            int most = 0;
            for (int k = 0; k <= lastUnit(); k++) most = Math.max(most, Math.abs(c.errors[k]));
            return most;
        }

        void correct(State s, int k, int c) {
            s.shift[k] += c;
            s.wait[k] = way(lastUnit()) - way(k) + eye;
            if (s.ahead && k < lastUnit()) s.passes.add(new int[] {k + 1, s.ticks + 1 + gaps.get(k + 1), -c});
        }

        void remember() {
            older.push(now.twin());
            if (older.size() > 6) older.removeLast();
        }

        int ticks(int n) {
            if (n < 1 || n > 60) return -1;
            if (now.broken) return -2;
            if (now.ticks + n > 9999) return -3;
            remember();
            int good = 0;
            for (int i = 0; i < n && !now.broken; i++) {
                Copy c = tick(now, Mode.REAL);
                if (c != null && c.good) good++;
            }
            return good;
        }

        boolean movable(int k) {
            return k >= 1 && k <= lastUnit();
        }

        int drifts(int k, int off) {
            if (!movable(k) || Math.abs(off) > 20) return -1;
            if (now.off[k] == off) return -2;
            remember();
            now.off[k] = off;
            return 1;
        }

        int corrects(int k, int c) {
            if (!movable(k) || c == 0 || Math.abs(c) > 20) return -1;
            remember();
            correct(now, k, c);
            return now.wait[k];
        }

        int spins() {
            if (now.broken || next(now) == -9 || now.spun > 0) return -2;
            remember();
            now.spun = 1;
            return next(now);
        }

        int starts() {
            if (!now.broken || next(now) == -9) return -2;
            remember();
            now.on = next(now);
            now.left = reels.get(now.on)[0];
            now.spun = 0;
            now.broken = false;
            now.wait = new int[4];
            return now.on;
        }

        int aheads(int is) {
            if (is != 0 && is != 1) return -1;
            if (now.ahead == (is == 1)) return -2;
            remember();
            now.ahead = is == 1;
            return 1;
        }

        int undo() {
            if (older.isEmpty()) return -2;
            now = older.pop();
            return older.size();
        }

        int unit(int k, int what) {
            if (k < 0 || k > lastUnit() || what < 0 || what > 5) return -1000000;
            int passes = 0;
            for (int[] p : now.passes) {
                if (p[0] == k) passes += p[2];
            }
            return new int[] {gaps.get(k), way(k), now.off[k], now.shift[k], now.wait[k], passes}[what];
        }

        int reel(int r, int what) {
            if (r < 0 || r >= reels.size() || what < 0 || what > 2) return -1000000;
            if (what < 2) return reels.get(r)[what];
            return r < now.on ? 0 : r == now.on ? now.left : reels.get(r)[0];
        }

        int last(int what) {
            if (what < 0 || what > 6) return -1000000;
            Copy c = now.last;
            if (c == null) return -2000000;
            if (what == 0) return c.number;
            if (what == 1) return c.splice ? 1 : 0;
            if (what == 2) return c.good ? 1 : 0;
            return c.errors[what - 3] == null ? 0 : c.errors[what - 3];
        }

        int error(int k, int age) {
            if (k < 0 || k > lastUnit() || age < 0) return -1000000;
            int size = now.underWay.size();
            if (age >= size) return -2000000;
            Integer e = now.underWay.get(size - 1 - age).errors[k];
            return e == null ? -2000000 : e;
        }

        int steady() {
            if (now.broken || now.on < 0) return -9;
            State s = now.twin();
            boolean[] out = new boolean[301];
            for (int t = 1; t <= 300; t++) {
                Copy c = tick(s, Mode.SAME_REEL);
                out[t] = c != null && furthest(c) > idle;
            }
            for (int from = 0; from <= 200; from++) {
                boolean holds = true;
                for (int t = from + 1; t <= 300; t++) holds &= !out[t];
                if (holds) return from;
            }
            return -9;
        }

        int cost() {
            if (now.broken || next(now) == -9) return -2000000;
            State with = now.twin();
            State without = now.twin();
            for (int t = 1; t <= 200; t++) {
                tick(with, t == 1 ? Mode.PASTE_NOW : Mode.SAME_REEL);
                tick(without, Mode.SAME_REEL);
            }
            return with.waste - without.waste;
        }

        int sees(int k, int x) {
            if (!movable(k) || Math.abs(x) > 99) return -1;
            if (seen.size() == 6) return -3;
            seen.add(new int[] {k, x});
            return seen.size();
        }

        int forget() {
            int had = seen.size();
            seen.clear();
            return had;
        }

        /** x of each unit by a cause, as a row; null if there is no such cause. */
        int[] effects(int cause, int s) {
            int[] row = new int[4];
            for (int j = 1; j <= 3; j++) {
                if (cause == 0) row[j] = j * s;
                else if (cause <= 3) row[j] = j == cause ? s : 0;
                else row[j] = j >= cause - 3 ? s : 0;
            }
            return cause > 0 && (cause - 1) % 3 + 1 > lastUnit() ? null : row;
        }

        int which() {
            int bits = 0;
            for (int cause = 0; cause <= 6; cause++) {
                for (int s = -20; s <= 20; s++) {
                    int[] row = effects(cause, s);
                    if (s == 0 || row == null) continue;
                    boolean all = true;
                    for (int[] clue : seen) all &= row[clue[0]] == clue[1];
                    if (all) bits |= 1 << cause;
                }
            }
            return bits;
        }

        int look() {
            int bits = which();
            if (Integer.bitCount(bits) <= 1) return -9;
            int[] greater = new int[4];
            Arrays.fill(greater, 99);
            for (int j = 1; j <= lastUnit(); j++) {
                int zero = 0;
                int other = 0;
                for (int cause = 0; cause <= 6; cause++) {
                    if ((bits >> cause) % 2 == 0) continue;
                    if (effects(cause, 7)[j] == 0) zero++; else other++;
                }
                greater[j] = Math.max(zero, other);
            }
            int best = 1;
            for (int j = 2; j <= lastUnit(); j++) {
                if (greater[j] < greater[best]) best = j;
            }
            return best;
        }

        int keep(int image) {
            if (image < 0 || image > 1) return -1;
            images[image] = now.twin();
            return now.ticks;
        }

        int back(int image) {
            if (image < 0 || image > 1) return -1;
            if (images[image] == null) return -2;
            now = images[image].twin();
            older.clear();
            return now.ticks;
        }

        int count(int what) {
            if (what < 0 || what > 19) return -1;
            return new int[] {gaps.size(), reels.size(), now.ticks, now.began, now.good, now.waste,
                now.underWay.size(), now.on < 0 ? -9 : now.on, next(now), now.spun, now.broken ? 0 : 1,
                now.ahead ? 1 : 0, now.splices, eye, limit, idle, spin, seen.size(), text.length(),
                older.size()}[what];
        }
    }
}
