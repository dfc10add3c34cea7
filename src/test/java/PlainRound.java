import java.util.ArrayDeque;
import java.util.ArrayList;
import java.util.Arrays;
import java.util.Deque;
import java.util.HashMap;
import java.util.HashSet;
import java.util.List;
import java.util.Map;
import java.util.NoSuchElementException;
import java.util.Set;
import java.util.function.IntPredicate;
import java.util.function.Predicate;
import java.util.function.ToIntFunction;
import java.util.regex.Matcher;
import java.util.regex.Pattern;

/**
 * The document a second time, as plainly as its words go and without a care for speed: whole woods
 * are copied for each question. AgreeTest holds LostRound against it.
 */
public final class PlainRound {
    private static final int NONE = -1;

    /** A boy; also one who might be there. */
    static final class Boy {
        int number;
        int cell;
        int part;
        int ear;
        int bad;
        boolean in;

        Boy copy() {
            Boy b = new Boy();
            b.number = number;
            b.cell = cell;
            b.part = part;
            b.ear = ear;
            b.bad = bad;
            b.in = in;
            return b;
        }
    }

    /** What the law asks of a boy in a beat. */
    static final class Case {
        Wood wood;
        Boy boy;
        int note;
    }

    record LawLine(String word, int n, Predicate<Case> condition) {
    }

    static final class Wood {
        boolean[] trees = new boolean[64];
        int[] ferns = new int[64];
        int fire = 27;
        List<int[]> parts = new ArrayList<>();
        List<Boy> boys = new ArrayList<>();
        int loud = 4;
        int stray = 50;
        int beat = 0;
        int night = 0;
        int seed = 1;
        int texts = 0;
        List<LawLine> law = null;
        List<int[]> log = new ArrayList<>();

        Wood copy() {
            Wood w = new Wood();
            w.trees = trees.clone();
            w.ferns = ferns.clone();
            w.fire = fire;
            for (int[] part : parts) {
                w.parts.add(part.clone());
            }
            for (Boy boy : boys) {
                w.boys.add(boy.copy());
            }
            w.loud = loud;
            w.stray = stray;
            w.beat = beat;
            w.night = night;
            w.seed = seed;
            w.texts = texts;
            w.law = law;
            w.log = new ArrayList<>(log);
            return w;
        }

        int near(int cell) {
            return distance(cell, fire);
        }

        boolean free(int cell) {
            return !trees[cell];
        }

        int step(int cell, int side) {
            int x = cell % 8 + (side == 2 ? 1 : side == 4 ? -1 : 0);
            int y = cell / 8 + (side == 3 ? 1 : side == 1 ? -1 : 0);
            if (x < 0 || x > 7 || y < 0 || y > 7 || trees[8 * y + x]) {
                return cell;
            }
            return 8 * y + x;
        }

        int nearer(int cell) {
            int dx = fire % 8 - cell % 8;
            int dy = fire / 8 - cell / 8;
            int sideX = dx > 0 ? 2 : 4;
            int sideY = dy > 0 ? 3 : 1;
            boolean x = Math.abs(dx) > Math.abs(dy) || Math.abs(dx) == Math.abs(dy) && dx != 0;
            if (x) {
                int to = step(cell, sideX);
                return to != cell || dy == 0 ? to : step(cell, sideY);
            }
            if (dy == 0) {
                return cell;
            }
            int to = step(cell, sideY);
            return to != cell || dx == 0 ? to : step(cell, sideX);
        }

        Case caseOf(Boy boy, int note) {
            Case c = new Case();
            c.wood = this;
            c.boy = boy;
            c.note = note;
            return c;
        }

        int noteOf(Boy boy) {
            return parts.get(boy.part)[beat];
        }

        boolean hears(Boy boy, int note) {
            int reach = boy.ear + loud - ferns[boy.cell];
            for (LawLine line : lines()) {
                if (line.condition.test(caseOf(boy, note))) {
                    reach += line.word.equals("far") ? line.n : line.word.equals("near") ? -line.n : 0;
                }
            }
            return near(boy.cell) <= reach;
        }

        boolean stays(Boy boy, int note) {
            return lines().stream().anyMatch(l -> l.word.equals("stay") && l.condition.test(caseOf(boy, note)));
        }

        List<LawLine> lines() {
            return law == null ? List.of() : law;
        }

        /** The cell to which he goes, or NONE if he strays. */
        int goes(Boy boy, int note) {
            if (stays(boy, note)) {
                return boy.cell;
            }
            if (!hears(boy, note)) {
                return NONE;
            }
            return note == 0 ? nearer(boy.cell) : note <= 4 ? step(boy.cell, note) : boy.cell;
        }

        int draw() {
            seed = seed * 1103515245 + 12345;
            return (seed >> 16) & 32767;
        }

        int beat(boolean ahead) {
            int came = 0;
            for (Boy boy : boys) {
                if (boy.in) {
                    continue;
                }
                int to = goes(boy, noteOf(boy));
                if (to != NONE) {
                    boy.cell = to;
                } else if (!ahead && draw() % 100 < stray) {
                    boy.cell = step(boy.cell, 1 + draw() % 4);
                    boy.bad = Math.min(99, boy.bad + 1);
                    row(boy, 1);
                }
                if (boy.cell == fire) {
                    boy.in = true;
                    came++;
                    row(boy, 0);
                }
            }
            beat++;
            if (beat == 8) {
                beat = 0;
                night = Math.min(9999, night + 1);
            }
            return came;
        }

        void row(Boy boy, int kind) {
            log.add(new int[] {night, beat, boy.number, kind, boy.cell});
            if (log.size() > 60) {
                log.remove(0);
            }
        }

        void moveFire(int cell) {
            fire = cell;
            for (Boy boy : boys) {
                if (boy.in) {
                    boy.cell = cell;
                }
                boy.in = boy.cell == cell;
            }
        }

        boolean lostBoyAt(int cell) {
            return boys.stream().anyMatch(b -> !b.in && b.cell == cell);
        }

        /** From a cell the steps to each other one; NONE where there is no way. */
        int[] steps(int from) {
            int[] steps = new int[64];
            Arrays.fill(steps, NONE);
            if (trees[from]) {
                return steps;
            }
            Deque<Integer> queue = new ArrayDeque<>();
            queue.add(from);
            steps[from] = 0;
            while (!queue.isEmpty()) {
                int cell = queue.remove();
                for (int side = 1; side <= 4; side++) {
                    int to = step(cell, side);
                    if (steps[to] == NONE) {
                        steps[to] = steps[cell] + 1;
                        queue.add(to);
                    }
                }
            }
            return steps;
        }
    }

    static int distance(int a, int b) {
        return Math.abs(a % 8 - b % 8) + Math.abs(a / 8 - b / 8);
    }

    /** A text is wrong at a byte. */
    static final class Wrong extends Exception {
        private static final long serialVersionUID = 1;
        final int at;

        Wrong(int at) {
            this.at = at;
        }
    }

    /** The things of a text. */
    static final class Things {
        private final List<String> things = new ArrayList<>();
        private final List<Integer> begins = new ArrayList<>();
        private final int length;
        private int next = 0;

        Things(byte[] bytes) {
            StringBuilder text = new StringBuilder();
            for (byte b : bytes) {
                text.append((char) (b & 255));
            }
            length = bytes.length;
            Matcher m = Pattern.compile("[a-z]+|[0-9]+|[^ ]").matcher(text);
            while (m.find()) {
                things.add(m.group());
                begins.add(m.start());
            }
        }

        boolean atEnd() {
            return next == things.size();
        }

        int begin() {
            return atEnd() ? length : begins.get(next);
        }

        String peek() {
            return atEnd() ? "" : things.get(next);
        }

        boolean take(String thing) {
            boolean is = peek().equals(thing);
            next += is ? 1 : 0;
            return is;
        }

        void must(String thing) throws Wrong {
            if (!take(thing)) {
                throw new Wrong(begin());
            }
        }

        int number(IntPredicate may) throws Wrong {
            if (!peek().matches("[0-9]{1,3}") || !may.test(Integer.parseInt(peek()))) {
                throw new Wrong(begin());
            }
            return Integer.parseInt(things.get(next++));
        }

        int number(int most) throws Wrong {
            return number(n -> n <= most);
        }

        String figures() throws Wrong {
            if (!peek().matches("[0-7]{8}")) {
                throw new Wrong(begin());
            }
            return things.get(next++);
        }
    }

    static Wood readWood(Wood now, byte[] bytes) throws Wrong {
        Wood w = now.copy();
        Things t = new Things(bytes);
        if (t.atEnd()) {
            return w;
        }
        int lines = 0;
        do {
            if (++lines > 14) {
                throw new Wrong(t.begin());
            }
            int begin = t.begin();
            if (t.take("part")) {
                if (w.parts.size() == 6) {
                    throw new Wrong(begin);
                }
                w.parts.add(t.figures().chars().map(c -> c - '0').toArray());
            } else if (t.take("boy")) {
                if (w.boys.size() == 6) {
                    throw new Wrong(begin);
                }
                Boy b = new Boy();
                b.number = w.boys.size();
                t.must("at");
                b.cell = t.number(n -> n < 64 && w.free(n));
                t.must("sings");
                b.part = t.number(n -> n < w.parts.size());
                t.must("ear");
                b.ear = t.number(15);
                b.in = b.cell == w.fire;
                w.boys.add(b);
            } else if (t.take("trees")) {
                w.trees[t.number(n -> n < 64 && n != w.fire && !w.lostBoyAt(n))] = true;
            } else if (t.take("ferns")) {
                int cell = t.number(63);
                w.ferns[cell] = t.number(9);
            } else if (t.take("fire")) {
                w.moveFire(t.number(n -> n < 64 && w.free(n)));
            } else if (t.take("loud")) {
                w.loud = t.number(15);
            } else if (t.take("stray")) {
                w.stray = t.number(100);
            } else if (t.take("beat")) {
                w.beat = t.number(7);
            } else if (t.take("night")) {
                w.night = t.number(999);
            } else {
                throw new Wrong(begin);
            }
        } while (t.take(";"));
        if (!t.atEnd()) {
            throw new Wrong(t.begin());
        }
        return w;
    }

    static List<LawLine> readLaw(byte[] bytes) throws Wrong {
        List<LawLine> law = new ArrayList<>();
        Things t = new Things(bytes);
        if (t.atEnd()) {
            return law;
        }
        do {
            if (law.size() == 12) {
                throw new Wrong(t.begin());
            }
            String word = t.peek();
            if (!List.of("far", "near", "stay").contains(word)) {
                throw new Wrong(t.begin());
            }
            t.must(word);
            int n = word.equals("stay") ? 0 : t.number(20);
            law.add(new LawLine(word, n, t.take("if") ? readAny(t, 0) : c -> true));
        } while (t.take(";"));
        if (!t.atEnd()) {
            throw new Wrong(t.begin());
        }
        return law;
    }

    private static Predicate<Case> readAny(Things t, int deep) throws Wrong {
        Predicate<Case> any = readAll(t, deep);
        while (t.take("or")) {
            any = any.or(readAll(t, deep));
        }
        return any;
    }

    private static Predicate<Case> readAll(Things t, int deep) throws Wrong {
        Predicate<Case> all = readAtom(t, deep);
        while (t.take("and")) {
            all = all.and(readAtom(t, deep));
        }
        return all;
    }

    private static Predicate<Case> readAtom(Things t, int deep) throws Wrong {
        int begin = t.begin();
        boolean not = t.peek().equals("not");
        if (not || t.peek().equals("(")) {
            if (deep == 6) {
                throw new Wrong(begin);
            }
            t.must(t.peek());
            if (not) {
                return readAtom(t, deep + 1).negate();
            }
            Predicate<Case> inner = readAny(t, deep + 1);
            t.must(")");
            return inner;
        }
        if (t.take("silent")) {
            return c -> c.note == 0;
        }
        if (t.take("ferny")) {
            return c -> c.wood.ferns[c.boy.cell] > 0;
        }
        ToIntFunction<Case> left = readSum(t);
        boolean less = t.take("<");
        if (!less) {
            t.must(">");
        }
        ToIntFunction<Case> right = readSum(t);
        return less ? c -> left.applyAsInt(c) < right.applyAsInt(c) : c -> left.applyAsInt(c) > right.applyAsInt(c);
    }

    private static ToIntFunction<Case> readSum(Things t) throws Wrong {
        List<ToIntFunction<Case>> terms = new ArrayList<>();
        do {
            terms.add(readTerm(t));
        } while (t.take("+"));
        return c -> terms.stream().mapToInt(f -> f.applyAsInt(c)).sum();
    }

    private static ToIntFunction<Case> readTerm(Things t) throws Wrong {
        Map<String, ToIntFunction<Case>> words = new HashMap<>();
        words.put("boy", c -> c.boy.number);
        words.put("part", c -> c.boy.part);
        words.put("ear", c -> c.boy.ear);
        words.put("x", c -> c.boy.cell % 8);
        words.put("y", c -> c.boy.cell / 8);
        words.put("away", c -> c.wood.near(c.boy.cell));
        words.put("bad", c -> c.boy.bad);
        words.put("beat", c -> c.wood.beat);
        ToIntFunction<Case> word = words.get(t.peek());
        if (word != null) {
            t.must(t.peek());
            return word;
        }
        int n = t.number(999);
        return c -> n;
    }

    // ---- the face

    private Wood w = new Wood();
    private Wood kept = null;
    private final Deque<Wood> undo = new ArrayDeque<>();
    private byte[] tape = new byte[0];
    private int fault = NONE;

    private static void need(boolean is, RuntimeException e) {
        if (!is) {
            throw e;
        }
    }

    private static void index(int i, int size) {
        need(i >= 0 && i < size, new IndexOutOfBoundsException());
    }

    private static void number(int n, int least, int most) {
        need(n >= least && n <= most, new IllegalArgumentException());
    }

    private Boy theBoy(int boy) {
        index(boy, w.boys.size());
        return w.boys.get(boy);
    }

    private void act() {
        undo.push(w.copy());
        if (undo.size() > 12) {
            undo.removeLast();
        }
    }

    public int feed(int a, int b, int c, int d, int e) {
        if (tape.length + 20 > 400) {
            return NONE;
        }
        int at = tape.length;
        tape = Arrays.copyOf(tape, at + 20);
        for (int n : new int[] {a, b, c, d, e}) {
            for (int i = 3; i >= 0; i--) {
                tape[at++] = (byte) (n >> 8 * i);
            }
        }
        return tape.length;
    }

    public boolean end(int n) {
        if (n < 0 || n > tape.length) {
            return false;
        }
        tape = Arrays.copyOf(tape, n);
        return true;
    }

    private byte[] used() {
        byte[] was = tape;
        tape = new byte[0];
        return was;
    }

    public int wood() {
        Wood next;
        try {
            next = readWood(w, used());
            fault = NONE;
        } catch (Wrong e) {
            fault = e.at;
            throw new IllegalArgumentException();
        }
        need(w.texts < 12, new UnsupportedOperationException());
        w = next;
        undo.clear();
        return ++w.texts;
    }

    public int law() {
        try {
            w.law = readLaw(used());
            fault = NONE;
        } catch (Wrong e) {
            fault = e.at;
            throw new IllegalArgumentException();
        }
        undo.clear();
        return w.law.size();
    }

    public int fault() {
        return fault;
    }

    public int cell(int cell, int what) {
        index(cell, 64);
        need(what >= 0 && what <= 2, new NoSuchElementException());
        return what == 0 ? w.trees[cell] ? 1 : 0 : what == 1 ? w.ferns[cell] : w.near(cell);
    }

    public int note(int part, int beat) {
        index(part, w.parts.size());
        index(beat, 8);
        return w.parts.get(part)[beat];
    }

    public int boy(int boy, int what) {
        Boy b = theBoy(boy);
        need(what >= 0 && what <= 8, new NoSuchElementException());
        int sum = w.boys.stream().mapToInt(o -> o.bad).sum();
        int[] all = {b.cell, b.part, b.ear, b.in ? 1 : 0, b.bad, w.near(b.cell),
            !b.in && w.hears(b, w.noteOf(b)) ? 1 : 0, ahead(boy, 1), sum == 0 ? 0 : b.bad * 100 / sum};
        return all[what];
    }

    public int sing(int n) {
        number(n, 1, 120);
        act();
        int came = 0;
        for (int i = 0; i < n; i++) {
            came += w.beat(false);
        }
        return came;
    }

    public int fire(int cell) {
        index(cell, 64);
        need(w.free(cell), new IllegalStateException());
        act();
        int was = w.fire;
        w.moveFire(cell);
        return was;
    }

    public boolean plant(int cell, boolean is) {
        index(cell, 64);
        need(!is || cell != w.fire && !w.lostBoyAt(cell), new IllegalStateException());
        act();
        boolean was = w.trees[cell];
        w.trees[cell] = is;
        return was != is;
    }

    public int part(int boy, int part) {
        Boy b = theBoy(boy);
        index(part, w.parts.size());
        act();
        int was = b.part;
        b.part = part;
        return was;
    }

    public int tune(int part, int beat, int note) {
        index(part, w.parts.size());
        index(beat, 8);
        number(note, 0, 7);
        act();
        int was = w.parts.get(part)[beat];
        w.parts.get(part)[beat] = note;
        return was;
    }

    public int call(int boy) {
        Boy b = theBoy(boy);
        need(!b.in, new IllegalStateException());
        act();
        int was = b.cell;
        b.cell = w.fire;
        b.in = true;
        return was;
    }

    public int send(int boy, int cell) {
        Boy b = theBoy(boy);
        index(cell, 64);
        need(w.free(cell) && cell != w.fire, new IllegalStateException());
        act();
        int was = b.cell;
        b.cell = cell;
        b.in = false;
        return was;
    }

    public int loud(int n) {
        number(n, 0, 15);
        act();
        int was = w.loud;
        w.loud = n;
        return was;
    }

    public int path(int cell, int other) {
        index(cell, 64);
        index(other, 64);
        return w.steps(cell)[other];
    }

    /** The first n from 0 to 100 ahead by which it is so. */
    private static int firstAhead(Wood from, Predicate<Wood> so) {
        Wood a = from.copy();
        for (int n = 0; n <= 100; n++) {
            if (so.test(a)) {
                return n;
            }
            a.beat(true);
        }
        return NONE;
    }

    private static int soonIn(Wood wood, int boy) {
        return firstAhead(wood, a -> a.boys.get(boy).in);
    }

    public int soon(int boy) {
        theBoy(boy);
        return soonIn(w, boy);
    }

    public int by(int boy, int part) {
        theBoy(boy);
        index(part, w.parts.size());
        Wood a = w.copy();
        a.boys.get(boy).part = part;
        return soonIn(a, boy);
    }

    public int best(int boy) {
        theBoy(boy);
        int best = NONE;
        for (int part = 0; part < w.parts.size(); part++) {
            int n = by(boy, part);
            if (n != NONE && (best == NONE || n < by(boy, best))) {
                best = part;
            }
        }
        return best;
    }

    private static boolean everyoneIn(Wood wood) {
        return wood.boys.stream().allMatch(b -> b.in);
    }

    public int all() {
        return firstAhead(w, PlainRound::everyoneIn);
    }

    public int should() {
        List<Boy> lost = w.boys.stream().filter(b -> !b.in).toList();
        int best = NONE;
        int least = Integer.MAX_VALUE;
        for (int cell = 0; cell < 64; cell++) {
            int[] steps = w.steps(cell);
            boolean reached = lost.stream().allMatch(b -> steps[b.cell] != NONE);
            int sum = lost.stream().mapToInt(b -> steps[b.cell]).sum();
            if (!lost.isEmpty() && w.free(cell) && reached && sum < least) {
                least = sum;
                best = cell;
            }
        }
        return best;
    }

    /** The cells behind one beat, had he whatever of some notes. */
    private Set<Integer> onward(Set<Integer> cells, int boy, int later, int leastNote, int mostNote) {
        Set<Integer> next = new HashSet<>();
        Wood a = w.copy();
        a.beat = (w.beat + later) % 8;
        Boy b = a.boys.get(boy);
        for (int cell : cells) {
            b.cell = cell;
            for (int note = leastNote; note <= mostNote; note++) {
                int to = cell == w.fire ? cell : a.goes(b, note);
                next.add(to == NONE ? cell : to);
            }
        }
        return next;
    }

    private int fewest(int boy, int leastNote, int mostNote) {
        Set<Integer> cells = Set.of(w.boys.get(boy).cell);
        for (int n = 0; n <= 64; n++) {
            if (cells.contains(w.fire)) {
                return n;
            }
            cells = onward(cells, boy, n, n == 0 ? leastNote : 0, n == 0 ? mostNote : 7);
        }
        return NONE;
    }

    public int calls(int boy) {
        theBoy(boy);
        return fewest(boy, 0, 7);
    }

    public int first(int boy) {
        int fewest = calls(boy);
        if (w.boys.get(boy).in || fewest == NONE) {
            return NONE;
        }
        int note = 0;
        while (fewest(boy, note, note) != fewest) {
            note++;
        }
        return note;
    }

    public int can(int boy, int n) {
        theBoy(boy);
        number(n, 0, 16);
        Set<Integer> cells = Set.of(w.boys.get(boy).cell);
        for (int i = 0; i < n; i++) {
            cells = onward(cells, boy, i, 0, 7);
        }
        return cells.size();
    }

    /** The wood with one more boy in it. */
    private Wood withOne(int number, int cell, int part, int ear) {
        Wood a = w.copy();
        a.boys.clear();
        Boy b = new Boy();
        b.number = number;
        b.cell = cell;
        b.part = part;
        b.ear = ear;
        b.in = cell == w.fire;
        a.boys.add(b);
        return a;
    }

    public int lost(int part, int ear) {
        index(part, w.parts.size());
        number(ear, 0, 15);
        int worst = NONE;
        int latest = NONE;
        for (int cell = 0; cell < 64; cell++) {
            if (w.free(cell)) {
                int n = soonIn(withOne(w.boys.size(), cell, part, ear), 0);
                n = n == NONE ? 1000 : n;
                if (n > latest) {
                    latest = n;
                    worst = cell;
                }
            }
        }
        return worst;
    }

    private int nearAhead(int cell, int n) {
        Wood a = withOne(0, cell, 0, 15);
        for (int i = 0; i < n; i++) {
            a.beat(true);
        }
        return a.near(a.boys.get(0).cell);
    }

    private List<Integer> fitting() {
        byte[] told = used();
        number(told.length, 0, 40);
        number(told.length % 2, 0, 0);
        for (int i = 0; i < told.length; i += 2) {
            number(told[i] & 255, 0, 30);
            number(told[i + 1] & 255, 0, 14);
        }
        number(w.parts.size(), 1, 6);
        List<Integer> cells = new ArrayList<>();
        for (int cell = 0; cell < 64; cell++) {
            boolean fits = w.free(cell);
            for (int i = 0; i < told.length && fits; i += 2) {
                fits = nearAhead(cell, told[i]) == told[i + 1];
            }
            if (fits) {
                cells.add(cell);
            }
        }
        return cells;
    }

    public int sounds(boolean where) {
        List<Integer> cells = fitting();
        return !where ? cells.size() : cells.isEmpty() ? NONE : cells.get(0);
    }

    public int listen() {
        List<Integer> cells = fitting();
        int best = NONE;
        int least = 1000;
        for (int n = 0; n <= 30 && cells.size() >= 2; n++) {
            int[] sizes = new int[15];
            for (int cell : cells) {
                sizes[nearAhead(cell, n)]++;
            }
            int greatest = Arrays.stream(sizes).max().getAsInt();
            if (greatest < least) {
                least = greatest;
                best = n;
            }
        }
        return best;
    }

    public int ears(int boy) {
        byte[] told = used();
        Boy b = theBoy(boy).copy();
        number(told.length, 0, 40);
        number(told.length % 2, 0, 0);
        for (int i = 0; i < told.length; i += 2) {
            number(told[i] & 255, 0, 63);
            need(w.free(told[i]) && told[i] != w.fire, new IllegalArgumentException());
            number(told[i + 1] & 255, 0, 1);
        }
        int bits = 0;
        for (int ear = 0; ear <= 15; ear++) {
            boolean fits = true;
            for (int i = 0; i < told.length; i += 2) {
                b.ear = ear;
                b.cell = told[i];
                fits &= w.hears(b, w.noteOf(b)) == (told[i + 1] == 1);
            }
            bits += fits ? 1 << ear : 0;
        }
        return bits;
    }

    public int code() {
        int best = NONE;
        for (int set = 0; set < 256; set++) {
            Set<String> seen = new HashSet<>();
            for (int[] part : w.parts) {
                StringBuilder text = new StringBuilder();
                for (int b = 0; b < 8; b++) {
                    text.append((set >> b) % 2 == 1 ? part[b] : 9);
                }
                seen.add(text.toString());
            }
            boolean fewer = best == NONE || Integer.bitCount(set) < Integer.bitCount(best);
            if (seen.size() == w.parts.size() && fewer) {
                best = set;
            } else if (w.parts.isEmpty()) {
                best = 0;
            }
        }
        return best;
    }

    public int shifted(int part, int other) {
        index(part, w.parts.size());
        index(other, w.parts.size());
        need(part != other, new IllegalArgumentException());
        for (int k = 1; k <= 7; k++) {
            int[] later = new int[8];
            for (int b = 0; b < 8; b++) {
                later[b] = w.parts.get(part)[(b + k) % 8];
            }
            if (Arrays.equals(later, w.parts.get(other))) {
                return k;
            }
        }
        return NONE;
    }

    public int silence(int part) {
        index(part, w.parts.size());
        return (int) Arrays.stream(w.parts.get(part)).filter(n -> n == 0).count();
    }

    public int hush(int part) {
        index(part, w.parts.size());
        int most = 0;
        for (int b = 0; b < 8; b++) {
            int run = 0;
            while (run < 8 && w.parts.get(part)[(b + run) % 8] == 0) {
                run++;
            }
            most = Math.max(most, run);
        }
        return most;
    }

    public int quiet() {
        int best = NONE;
        for (int part = 0; part < w.parts.size(); part++) {
            if (best == NONE || silence(part) > silence(best)) {
                best = part;
            }
        }
        return best;
    }

    public int mends(int boy) {
        int least = soon(boy);
        int best = NONE;
        for (int beat = 0; beat < 8; beat++) {
            for (int note = 0; note < 8; note++) {
                Wood a = w.copy();
                a.parts.get(a.boys.get(boy).part)[beat] = note;
                int n = soonIn(a, boy);
                if (n != NONE && (least == NONE || n < least)) {
                    least = n;
                    best = 8 * beat + note;
                }
            }
        }
        return best;
    }

    public int meet(int boy, int other) {
        theBoy(boy);
        theBoy(other);
        need(boy != other, new IllegalArgumentException());
        return firstAhead(w, a -> a.boys.get(boy).cell == a.boys.get(other).cell);
    }

    public int sooner() {
        Wood a = w.copy();
        a.loud = 15;
        int best = NONE;
        int least = 1000;
        for (int boy = 0; boy < w.boys.size(); boy++) {
            int n = soonIn(a, boy);
            if (!w.boys.get(boy).in && n != NONE && n < least) {
                least = n;
                best = boy;
            }
        }
        return best;
    }

    public int loudest() {
        Wood a = w.copy();
        for (a.loud = 0; a.loud <= 15; a.loud++) {
            if (firstAhead(a, PlainRound::everyoneIn) != NONE) {
                return a.loud;
            }
        }
        return NONE;
    }

    public int watch() {
        List<Boy> lost = w.boys.stream().filter(b -> !b.in).toList();
        for (int size = 0; size <= 6; size++) {
            for (int set = 0; set < 64; set++) {
                int bits = set;
                boolean ofLost = (set & ~out()) == 0;
                boolean watched = lost.stream().allMatch(b -> lost.stream().anyMatch(
                    o -> (bits >> o.number) % 2 == 1 && distance(b.cell, o.cell) <= 3));
                if (Integer.bitCount(set) == size && ofLost && watched) {
                    return set;
                }
            }
        }
        throw new AssertionError();
    }

    public int clearings() {
        Set<Integer> seen = new HashSet<>();
        int pieces = 0;
        for (int cell = 0; cell < 64; cell++) {
            if (w.free(cell) && !seen.contains(cell)) {
                pieces++;
                int[] steps = w.steps(cell);
                for (int other = 0; other < 64; other++) {
                    if (steps[other] != NONE) {
                        seen.add(other);
                    }
                }
            }
        }
        return pieces;
    }

    public int splits() {
        int count = 0;
        int[] now = w.steps(w.fire);
        for (int cell = 0; cell < 64; cell++) {
            if (w.free(cell) && cell != w.fire && !w.lostBoyAt(cell)) {
                Wood a = w.copy();
                a.trees[cell] = true;
                int[] then = a.steps(w.fire);
                if (w.boys.stream().anyMatch(b -> !b.in && now[b.cell] != NONE && then[b.cell] == NONE)) {
                    count++;
                }
            }
        }
        return count;
    }

    public int rests(int boy) {
        Boy b = theBoy(boy);
        if (b.in) {
            return NONE;
        }
        int[] his = {9 - w.near(b.cell), -3, 1, 0};
        int[] theirs = {-2 + 5, -1, -2, -1};
        int bits = 0;
        for (int c = 0; c < 4; c++) {
            if (his[c] >= his[c ^ 2] && theirs[c] >= theirs[c ^ 1]) {
                bits += 1 << c;
            }
        }
        return bits;
    }

    private int bits(Predicate<Boy> is) {
        return w.boys.stream().filter(is).mapToInt(b -> 1 << b.number).sum();
    }

    public int hearing() {
        return bits(b -> boy(b.number, 6) == 1);
    }

    public int dense() {
        int count = 0;
        for (boolean tree : w.trees) {
            count += tree ? 1 : 0;
        }
        return count;
    }

    public int ferny() {
        int most = Arrays.stream(w.ferns).max().getAsInt();
        int cell = 0;
        while (w.ferns[cell] != most) {
            cell++;
        }
        return most == 0 ? NONE : cell;
    }

    public int out() {
        return bits(b -> !b.in);
    }

    public int far() {
        int most = w.boys.stream().filter(b -> !b.in).mapToInt(b -> w.near(b.cell)).max().orElse(NONE);
        return w.boys.stream().filter(b -> !b.in && w.near(b.cell) == most).mapToInt(b -> b.number).min().orElse(NONE);
    }

    public int worst() {
        int most = w.boys.stream().mapToInt(b -> b.bad).max().orElse(0);
        return most == 0 ? NONE : w.boys.stream().filter(b -> b.bad == most).findFirst().get().number;
    }

    public int odds(int boy, int n) {
        Boy b = theBoy(boy);
        number(n, 0, 4);
        int odds = 10000;
        for (int i = 0; i < n; i++) {
            odds = odds * (100 - w.stray) / 100;
        }
        return b.in || w.hears(b, w.noteOf(b)) ? 10000 : odds;
    }

    public int twins() {
        int pairs = 0;
        for (Boy a : w.boys) {
            for (Boy b : w.boys) {
                pairs += a.number < b.number && a.part == b.part && a.ear == b.ear ? 1 : 0;
            }
        }
        return pairs;
    }

    public int ahead(int boy, int n) {
        theBoy(boy);
        number(n, 0, 100);
        Wood a = w.copy();
        for (int i = 0; i < n; i++) {
            a.beat(true);
        }
        return a.boys.get(boy).cell;
    }

    private Wood tried(int n, int seed) {
        Wood a = w.copy();
        a.seed = seed;
        for (int i = 0; i < n; i++) {
            a.beat(false);
        }
        return a;
    }

    public int trial(int n, boolean bad) {
        number(n, 0, 100);
        Wood a = tried(n, w.seed);
        return bad ? a.boys.stream().mapToInt(b -> b.bad).sum()
            : a.boys.stream().filter(b -> b.in).mapToInt(b -> 1 << b.number).sum();
    }

    public int span(int n, boolean most) {
        number(n, 0, 100);
        List<Integer> sizes = new ArrayList<>();
        for (int seed = 1; seed <= 6; seed++) {
            sizes.add((int) tried(n, seed).boys.stream().filter(b -> b.in).count());
        }
        sizes.sort(null);
        return sizes.get(most ? 5 : 0);
    }

    public int led(int boy, boolean cell) {
        theBoy(boy);
        List<int[]> rows = w.log.stream().filter(r -> r[2] == boy).toList();
        return !cell ? rows.size() : rows.isEmpty() ? NONE : rows.get(rows.size() - 1)[4];
    }

    public int log(int ago, int what) {
        need(what >= 0 && what <= 4, new NoSuchElementException());
        return ago < 0 || ago >= w.log.size() ? NONE : w.log.get(w.log.size() - 1 - ago)[what];
    }

    public int seed(int n) {
        int was = w.seed;
        w.seed = n;
        return was;
    }

    public boolean undo() {
        if (undo.isEmpty()) {
            return false;
        }
        w = undo.pop();
        return true;
    }

    public void image() {
        kept = w.copy();
    }

    public boolean back() {
        if (kept == null) {
            return false;
        }
        w = kept.copy();
        undo.clear();
        return true;
    }

    public int count(int what) {
        int ferns = Arrays.stream(w.ferns).sum();
        int[] all = {w.parts.size(), w.boys.size(), w.texts, w.law == null ? NONE : w.law.size(), w.fire, w.loud,
            w.stray, w.beat, w.night, ferns, bits(b -> b.in), w.log.size(), undo.size()};
        return what < 0 || what > 12 ? NONE : all[what];
    }
}
