import java.util.Arrays;
import java.util.NoSuchElementException;

/** A wood with a fire in it, boys who sing a round there, and boys who are lost and go by ear. */
public final class LostRound {
    public static final int NONE = -1;

    private static final int CELLS = 64;
    private static final int BEATS = 8;
    private static final int NOTES = 8;
    private static final int SIDES = 4;
    private static final int MOST_PARTS = 6;
    private static final int MOST_BOYS = 6;
    private static final int MOST_TEXTS = 12;
    private static final int MOST_WOOD_LINES = 14;
    private static final int MOST_LAW_LINES = 12;
    private static final int MOST_ACTS = 12;
    private static final int MOST_ROWS = 60;
    private static final int MOST_TAPE = 400;
    private static final int MOST_TOLD = 40;
    private static final int MOST_LOUD = 15;
    private static final int MOST_EAR = 15;
    private static final int MOST_BAD = 99;
    private static final int MOST_NIGHT = 9999;
    private static final int MOST_SUNG = 120;
    private static final int HORIZON = 100;
    private static final int MOST_CALLS = 64;
    private static final int MOST_CAN = 16;
    private static final int MOST_ODDS = 4;
    private static final int SEEDS = 6;
    private static final int WATCHED = 3;
    private static final int CAME_IN = 0;
    private static final int WENT_ASTRAY = 1;

    private final Wood wood = new Wood();
    private final Wood spare = new Wood();
    private final Wood imageWood = new Wood();
    private final Law rules = new Law();
    private final Law spareRules = new Law();
    private final Law imageRules = new Law();
    private boolean imageKept;
    private final Acts acts = new Acts();
    private final int[] tape = new int[MOST_TAPE];
    private int tapeLength;
    private int faultAt = NONE;
    private final WoodReader woodReader = new WoodReader(tape, wood);
    private final LawReader lawReader = new LawReader(tape, spareRules);
    private final Walker walker = new Walker(wood, rules);
    private final Walker companion = new Walker(wood, rules);
    private final Ways ways = new Ways(wood);
    private final Choices choices = new Choices(wood, walker);
    private final Trails trails = new Trails(wood, walker);

    public LostRound() {
    }

    // ---- the tape and the texts

    public int feed(int a, int b, int c, int d, int e) {
        if (tapeLength + 20 > MOST_TAPE) {
            return NONE;
        }
        putBytes(a);
        putBytes(b);
        putBytes(c);
        putBytes(d);
        putBytes(e);
        return tapeLength;
    }

    private void putBytes(int number) {
        for (int shift = 24; shift >= 0; shift -= 8) {
            if (tapeLength < tape.length) {
                tape[tapeLength] = number >>> shift & 255;
                tapeLength++;
            }
        }
    }

    public boolean end(int n) {
        if (n < 0 || n > tapeLength) {
            return false;
        }
        tapeLength = n;
        return true;
    }

    private int useTapeUp() {
        int length = tapeLength;
        tapeLength = 0;
        return length;
    }

    public int wood() throws IllegalArgumentException, UnsupportedOperationException {
        // The text is read into the wood itself, as later lines rest on earlier ones.
        spare.copyFrom(wood);
        int lines = woodReader.readLines(useTapeUp(), MOST_WOOD_LINES);
        faultAt = woodReader.wrongAt;
        if (lines == NONE) {
            wood.copyFrom(spare);
            throw new IllegalArgumentException("the text is wrong");
        }
        if (spare.textCount >= MOST_TEXTS) {
            wood.copyFrom(spare);
            throw new UnsupportedOperationException("there are twelve texts");
        }
        wood.textCount++;
        acts.forget();
        return wood.textCount;
    }

    public int law() throws IllegalArgumentException {
        spareRules.clear();
        int lines = lawReader.readLines(useTapeUp(), MOST_LAW_LINES);
        faultAt = lawReader.wrongAt;
        if (lines == NONE) {
            throw new IllegalArgumentException("the text is wrong");
        }
        spareRules.lineCount = lines;
        rules.copyFrom(spareRules);
        acts.forget();
        return lines;
    }

    public int fault() {
        return faultAt;
    }

    // ---- what there is

    private void requireCell(int cell) {
        if (cell < 0 || cell >= CELLS) {
            throw new IndexOutOfBoundsException("there is no such cell");
        }
    }

    private void requirePart(int part) {
        if (part < 0 || part >= wood.partCount) {
            throw new IndexOutOfBoundsException("there is no such part");
        }
    }

    private void requireBoy(int boy) {
        if (boy < 0 || boy >= wood.boyCount) {
            throw new IndexOutOfBoundsException("there is no such boy");
        }
    }

    private void requireBeat(int beat) {
        if (beat < 0 || beat >= BEATS) {
            throw new IndexOutOfBoundsException("there is no such beat");
        }
    }

    private void requireNumber(int n, int least, int most) {
        if (n < least || n > most) {
            throw new IllegalArgumentException("the number is none");
        }
    }

    private void requireTwo(int one, int other) {
        if (one == other) {
            throw new IllegalArgumentException("both are one");
        }
    }

    public int cell(int cell, int what) throws IndexOutOfBoundsException, NoSuchElementException {
        requireCell(cell);
        switch (what) {
            case 0:
                return wood.isOpen(cell) ? 0 : 1;
            case 1:
                return wood.ferns[cell];
            case 2:
                return wood.nearOf(cell);
            default:
                throw new NoSuchElementException("a cell has no such thing");
        }
    }

    public int note(int part, int beat) throws IndexOutOfBoundsException {
        requirePart(part);
        requireBeat(beat);
        return wood.notes[part * BEATS + beat];
    }

    public int boy(int boy, int what) throws IndexOutOfBoundsException, NoSuchElementException {
        requireBoy(boy);
        switch (what) {
            case 0:
                return wood.cells[boy];
            case 1:
                return wood.sung[boy];
            case 2:
                return wood.ears[boy];
            case 3:
                return wood.isIn(boy) ? 1 : 0;
            case 4:
                return wood.bad[boy];
            case 5:
                return wood.nearOf(wood.cells[boy]);
            case 6:
                return hearsNow(boy) ? 1 : 0;
            case 7:
                return cellAhead(boy, 1);
            case 8:
                return shareOf(boy);
            default:
                throw new NoSuchElementException("a boy has no such thing");
        }
    }

    private boolean hearsNow(int boy) {
        if (wood.isIn(boy)) {
            return false;
        }
        walker.follow(boy);
        return walker.hearsNow();
    }

    private int shareOf(int boy) {
        int together = wood.badOfAll();
        return together == 0 ? 0 : 100 * wood.bad[boy] / together;
    }

    public int count(int what) {
        switch (what) {
            case 0:
                return wood.partCount;
            case 1:
                return wood.boyCount;
            case 2:
                return wood.textCount;
            case 3:
                return rules.lineCount;
            case 4:
                return wood.fire;
            case 5:
                return wood.loud;
            case 6:
                return wood.stray;
            case 7:
                return wood.beat;
            case 8:
                return wood.night;
            case 9:
                return wood.fernsOfAll();
            case 10:
                return wood.in;
            case 11:
                return wood.rowCount;
            case 12:
                return acts.size;
            default:
                return NONE;
        }
    }

    // ---- acts

    public int sing(int n) throws IllegalArgumentException {
        requireNumber(n, 1, MOST_SUNG);
        acts.remember(wood);
        return beatOn(n);
    }

    private int beatOn(int n) {
        int came = 0;
        for (int i = 0; i < n; i++) {
            for (int boy = 0; boy < wood.boyCount; boy++) {
                if (!wood.isIn(boy) && walker.beatNow(boy)) {
                    came++;
                }
            }
            wood.endBeat();
        }
        return came;
    }

    public int fire(int cell) throws IndexOutOfBoundsException, IllegalStateException {
        requireCell(cell);
        if (!wood.isOpen(cell)) {
            throw new IllegalStateException("there are trees");
        }
        acts.remember(wood);
        int was = wood.fire;
        wood.putFire(cell);
        return was;
    }

    public boolean plant(int cell, boolean is) throws IndexOutOfBoundsException, IllegalStateException {
        requireCell(cell);
        if (is && !wood.canPlant(cell)) {
            throw new IllegalStateException("the fire or a boy is there");
        }
        acts.remember(wood);
        boolean changed = wood.isOpen(cell) == is;
        if (changed) {
            wood.trees ^= 1L << cell;
        }
        return changed;
    }

    public int part(int boy, int part) throws IndexOutOfBoundsException {
        requireBoy(boy);
        requirePart(part);
        acts.remember(wood);
        int was = wood.sung[boy];
        wood.sung[boy] = part;
        return was;
    }

    public int tune(int part, int beat, int note) throws IndexOutOfBoundsException, IllegalArgumentException {
        requirePart(part);
        requireBeat(beat);
        requireNumber(note, 0, NOTES - 1);
        acts.remember(wood);
        int was = wood.notes[part * BEATS + beat];
        wood.notes[part * BEATS + beat] = note;
        return was;
    }

    public int call(int boy) throws IndexOutOfBoundsException, IllegalStateException {
        requireBoy(boy);
        if (wood.isIn(boy)) {
            throw new IllegalStateException("he is in");
        }
        acts.remember(wood);
        int was = wood.cells[boy];
        wood.putBoy(boy, wood.fire);
        return was;
    }

    public int send(int boy, int cell) throws IndexOutOfBoundsException, IllegalStateException {
        requireBoy(boy);
        requireCell(cell);
        if (!wood.isOpen(cell) || cell == wood.fire) {
            throw new IllegalStateException("there are trees, or the fire");
        }
        acts.remember(wood);
        int was = wood.cells[boy];
        wood.putBoy(boy, cell);
        return was;
    }

    public int loud(int n) throws IllegalArgumentException {
        requireNumber(n, 0, MOST_LOUD);
        acts.remember(wood);
        int was = wood.loud;
        wood.loud = n;
        return was;
    }

    // ---- ways, and coming in ahead

    public int path(int cell, int other) throws IndexOutOfBoundsException {
        requireCell(cell);
        requireCell(other);
        return ways.stepsBetween(cell, other);
    }

    public int soon(int boy) throws IndexOutOfBoundsException {
        requireBoy(boy);
        walker.follow(boy);
        return walker.comesIn();
    }

    public int by(int boy, int part) throws IndexOutOfBoundsException {
        requireBoy(boy);
        requirePart(part);
        return soonBy(boy, part);
    }

    private int soonBy(int boy, int part) {
        walker.follow(boy);
        walker.takePart(part);
        return walker.comesIn();
    }

    public int best(int boy) throws IndexOutOfBoundsException {
        requireBoy(boy);
        int best = NONE;
        int least = HORIZON + 1;
        for (int part = 0; part < wood.partCount; part++) {
            int n = soonBy(boy, part);
            if (n != NONE && n < least) {
                least = n;
                best = part;
            }
        }
        return best;
    }

    public int all() {
        return allInWith(wood.loud);
    }

    private int allInWith(int loud) {
        int last = 0;
        for (int boy = 0; boy < wood.boyCount; boy++) {
            walker.follow(boy);
            walker.loud = loud;
            int n = walker.comesIn();
            if (n == NONE) {
                return NONE;
            }
            last = Math.max(last, n);
        }
        return last;
    }

    public int should() {
        return ways.leastTogether();
    }

    public int calls(int boy) throws IndexOutOfBoundsException {
        requireBoy(boy);
        choices.thinkFor(boy);
        return choices.fewest(wood.cells[boy], 0, MOST_CALLS);
    }

    public int first(int boy) throws IndexOutOfBoundsException {
        requireBoy(boy);
        return wood.isIn(boy) ? NONE : choices.leastFirst(boy);
    }

    public int can(int boy, int n) throws IndexOutOfBoundsException, IllegalArgumentException {
        requireBoy(boy);
        requireNumber(n, 0, MOST_CAN);
        choices.thinkFor(boy);
        return choices.reachedIn(wood.cells[boy], n);
    }

    public int lost(int part, int ear) throws IndexOutOfBoundsException, IllegalArgumentException {
        requirePart(part);
        requireNumber(ear, 0, MOST_EAR);
        int where = NONE;
        int latest = NONE;
        for (int cell = 0; cell < CELLS; cell++) {
            if (wood.isOpen(cell)) {
                walker.become(wood.boyCount, part, ear, 0);
                walker.standAt(cell);
                int n = walker.comesIn();
                int late = n == NONE ? HORIZON + 1 : n;
                if (late > latest) {
                    latest = late;
                    where = cell;
                }
            }
        }
        return where;
    }

    // ---- what is told on the tape

    public int sounds(boolean where) throws IllegalArgumentException {
        hearTold();
        return where ? trails.leastCell() : trails.cellCount();
    }

    public int listen() throws IllegalArgumentException {
        hearTold();
        return trails.bestBeat();
    }

    private void hearTold() {
        if (!trails.hearAll(tape, useTapeUp()) || wood.partCount == 0) {
            throw new IllegalArgumentException("the tape is not that, or there are no parts");
        }
    }

    public int ears(int boy) throws IndexOutOfBoundsException, IllegalArgumentException {
        int length = useTapeUp();
        requireBoy(boy);
        if (!tellsEars(length)) {
            throw new IllegalArgumentException("the tape is not that");
        }
        int fitting = 0;
        for (int ear = 0; ear <= MOST_EAR; ear++) {
            if (earFits(boy, ear, length)) {
                fitting |= 1 << ear;
            }
        }
        return fitting;
    }

    private boolean tellsEars(int length) {
        if (length > MOST_TOLD || length % 2 != 0) {
            return false;
        }
        for (int i = 0; i + 1 < length; i += 2) {
            int cell = tape[i];
            if (!wood.isOpen(cell) || cell == wood.fire || tape[i + 1] > 1) {
                return false;
            }
        }
        return true;
    }

    private boolean earFits(int boy, int ear, int length) {
        walker.follow(boy);
        walker.facts[Law.EAR] = ear;
        for (int i = 0; i + 1 < length; i += 2) {
            walker.standAt(tape[i]);
            if (walker.hearsNow() != (tape[i + 1] == 1)) {
                return false;
            }
        }
        return true;
    }

    // ---- parts

    public int code() {
        int best = NONE;
        int fewest = BEATS + 1;
        for (int beats = 0; beats < 1 << BEATS; beats++) {
            int size = Integer.bitCount(beats);
            if (size < fewest && wood.tellsApart(beats)) {
                fewest = size;
                best = beats;
            }
        }
        return best;
    }

    public int shifted(int part, int other) throws IndexOutOfBoundsException, IllegalArgumentException {
        requirePart(part);
        requirePart(other);
        requireTwo(part, other);
        for (int k = 1; k < BEATS; k++) {
            if (wood.isShifted(part, other, k)) {
                return k;
            }
        }
        return NONE;
    }

    public int silence(int part) throws IndexOutOfBoundsException {
        requirePart(part);
        return wood.silencesOf(part);
    }

    public int hush(int part) throws IndexOutOfBoundsException {
        requirePart(part);
        int longest = 0;
        int run = 0;
        // Twice round, for a run that goes on from the last beat to the first.
        for (int i = 0; i < 2 * BEATS; i++) {
            run = wood.notes[part * BEATS + i % BEATS] == 0 ? run + 1 : 0;
            longest = Math.max(longest, run);
        }
        return Math.min(longest, BEATS);
    }

    public int quiet() {
        int quiet = NONE;
        int most = NONE;
        for (int part = 0; part < wood.partCount; part++) {
            int silences = wood.silencesOf(part);
            if (silences > most) {
                most = silences;
                quiet = part;
            }
        }
        return quiet;
    }

    public int mends(int boy) throws IndexOutOfBoundsException {
        requireBoy(boy);
        walker.follow(boy);
        int now = walker.comesIn();
        int least = now == NONE ? HORIZON + 1 : now;
        int best = NONE;
        for (int change = 0; change < BEATS * NOTES; change++) {
            walker.follow(boy);
            walker.row[change / NOTES] = change % NOTES;
            int n = walker.comesIn();
            if (n != NONE && n < least) {
                least = n;
                best = change;
            }
        }
        return best;
    }

    // ---- boys together

    public int meet(int boy, int other) throws IndexOutOfBoundsException, IllegalArgumentException {
        requireBoy(boy);
        requireBoy(other);
        requireTwo(boy, other);
        walker.follow(boy);
        companion.follow(other);
        for (int n = 0; n <= HORIZON; n++) {
            if (walker.cell == companion.cell) {
                return n;
            }
            walker.beatAhead();
            companion.beatAhead();
        }
        return NONE;
    }

    public int sooner() {
        int soonest = NONE;
        int least = HORIZON + 1;
        for (int boy = 0; boy < wood.boyCount; boy++) {
            walker.follow(boy);
            walker.loud = MOST_LOUD;
            int n = walker.comesIn();
            if (!wood.isIn(boy) && n != NONE && n < least) {
                least = n;
                soonest = boy;
            }
        }
        return soonest;
    }

    public int loudest() {
        for (int loud = 0; loud <= MOST_LOUD; loud++) {
            if (allInWith(loud) != NONE) {
                return loud;
            }
        }
        return NONE;
    }

    public int watch() {
        int lostBoys = wood.lostBoys();
        int best = lostBoys;
        for (int set = 0; set < 1 << MOST_BOYS; set++) {
            boolean fewer = Integer.bitCount(set) < Integer.bitCount(best);
            if ((set & ~lostBoys) == 0 && fewer && allWatched(set, lostBoys)) {
                best = set;
            }
        }
        return best;
    }

    private boolean allWatched(int watchers, int lostBoys) {
        for (int boy = 0; boy < wood.boyCount; boy++) {
            if ((lostBoys >> boy & 1) != 0 && !isWatched(boy, watchers)) {
                return false;
            }
        }
        return true;
    }

    private boolean isWatched(int boy, int watchers) {
        for (int other = 0; other < wood.boyCount; other++) {
            boolean watches = (watchers >> other & 1) != 0;
            if (watches && Wood.apart(wood.cells[boy], wood.cells[other]) <= WATCHED) {
                return true;
            }
        }
        return false;
    }

    public int clearings() {
        return ways.pieces();
    }

    public int splits() {
        return ways.partingCells();
    }

    public int rests(int boy) throws IndexOutOfBoundsException {
        requireBoy(boy);
        if (wood.isIn(boy)) {
            return NONE;
        }
        int near = wood.nearOf(wood.cells[boy]);
        int resting = 0;
        for (int his = 0; his < 2; his++) {
            for (int theirs = 0; theirs < 2; theirs++) {
                boolean heKeeps = hisGain(his, theirs, near) >= hisGain(1 - his, theirs, near);
                boolean theyKeep = theirGain(his, theirs) >= theirGain(his, 1 - theirs);
                if (heKeeps && theyKeep) {
                    resting |= 1 << 2 * his + theirs;
                }
            }
        }
        return resting;
    }

    private static int hisGain(int his, int theirs, int near) {
        if (his == 0) {
            return theirs == 0 ? 9 - near : -3;
        }
        return theirs == 0 ? 1 : 0;
    }

    private static int theirGain(int his, int theirs) {
        if (theirs == 1) {
            return -1;
        }
        return his == 0 ? 5 - 2 : -2;
    }

    public int hearing() {
        int hearing = 0;
        for (int boy = 0; boy < wood.boyCount; boy++) {
            if (hearsNow(boy)) {
                hearing |= 1 << boy;
            }
        }
        return hearing;
    }

    // ---- the wood at a glance

    public int dense() {
        return Long.bitCount(wood.trees);
    }

    public int ferny() {
        int where = NONE;
        int most = 0;
        for (int cell = 0; cell < CELLS; cell++) {
            if (wood.ferns[cell] > most) {
                most = wood.ferns[cell];
                where = cell;
            }
        }
        return where;
    }

    public int out() {
        return wood.lostBoys();
    }

    public int far() {
        int farthest = NONE;
        int most = NONE;
        for (int boy = 0; boy < wood.boyCount; boy++) {
            int near = wood.nearOf(wood.cells[boy]);
            if (!wood.isIn(boy) && near > most) {
                most = near;
                farthest = boy;
            }
        }
        return farthest;
    }

    public int worst() {
        int worst = NONE;
        int most = 0;
        for (int boy = 0; boy < wood.boyCount; boy++) {
            if (wood.bad[boy] > most) {
                most = wood.bad[boy];
                worst = boy;
            }
        }
        return worst;
    }

    public int odds(int boy, int n) throws IndexOutOfBoundsException, IllegalArgumentException {
        requireBoy(boy);
        requireNumber(n, 0, MOST_ODDS);
        int odds = 10000;
        if (wood.isIn(boy) || hearsNow(boy)) {
            return odds;
        }
        for (int i = 0; i < n; i++) {
            odds = odds * (100 - wood.stray) / 100;
        }
        return odds;
    }

    public int twins() {
        int pairs = 0;
        for (int boy = 0; boy < wood.boyCount; boy++) {
            for (int other = boy + 1; other < wood.boyCount; other++) {
                if (wood.sung[boy] == wood.sung[other] && wood.ears[boy] == wood.ears[other]) {
                    pairs++;
                }
            }
        }
        return pairs;
    }

    // ---- beats that are tried

    public int ahead(int boy, int n) throws IndexOutOfBoundsException, IllegalArgumentException {
        requireBoy(boy);
        requireNumber(n, 0, HORIZON);
        return cellAhead(boy, n);
    }

    private int cellAhead(int boy, int n) {
        walker.follow(boy);
        for (int i = 0; i < n; i++) {
            walker.beatAhead();
        }
        return walker.cell;
    }

    public int trial(int n, boolean bad) throws IllegalArgumentException {
        requireNumber(n, 0, HORIZON);
        spare.copyFrom(wood);
        beatOn(n);
        int answer = bad ? wood.badOfAll() : wood.in;
        wood.copyFrom(spare);
        return answer;
    }

    public int span(int n, boolean most) throws IllegalArgumentException {
        requireNumber(n, 0, HORIZON);
        int least = MOST_BOYS;
        int greatest = 0;
        spare.copyFrom(wood);
        for (int seed = 1; seed <= SEEDS; seed++) {
            wood.seed = seed;
            beatOn(n);
            int size = Integer.bitCount(wood.in);
            least = Math.min(least, size);
            greatest = Math.max(greatest, size);
            wood.copyFrom(spare);
        }
        return most ? greatest : least;
    }

    // ---- the log, acts undone, the image

    public int led(int boy, boolean cell) throws IndexOutOfBoundsException {
        requireBoy(boy);
        int rows = 0;
        int latest = NONE;
        for (int ago = wood.rowCount - 1; ago >= 0; ago--) {
            if (wood.rowOf(ago, 2) == boy) {
                rows++;
                latest = wood.rowOf(ago, 4);
            }
        }
        return cell ? latest : rows;
    }

    public int log(int ago, int what) throws NoSuchElementException {
        if (what < 0 || what > 4) {
            throw new NoSuchElementException("a row has no such thing");
        }
        return wood.rowOf(ago, what);
    }

    public int seed(int n) {
        int was = wood.seed;
        wood.seed = n;
        return was;
    }

    public boolean undo() {
        return acts.takeBack(wood);
    }

    public void image() {
        imageWood.copyFrom(wood);
        imageRules.copyFrom(rules);
        imageKept = true;
    }

    public boolean back() {
        if (!imageKept) {
            return false;
        }
        wood.copyFrom(imageWood);
        rules.copyFrom(imageRules);
        acts.forget();
        return true;
    }

    /** All that an act can change; it is copied whole for acts undone, trials and the image. */
    private static final class Wood {
        long trees;
        final int[] ferns = new int[CELLS];
        final int[] notes = new int[MOST_PARTS * BEATS];
        final int[] cells = new int[MOST_BOYS];
        final int[] sung = new int[MOST_BOYS];
        final int[] ears = new int[MOST_BOYS];
        final int[] bad = new int[MOST_BOYS];
        final int[] rows = new int[MOST_ROWS];
        int rowCount;
        int partCount;
        int boyCount;
        int textCount;
        int in;
        int fire = 27;
        int loud = 4;
        int stray = 50;
        int beat;
        int night;
        int seed = 1;

        Wood() {
        }

        void copyFrom(Wood from) {
            trees = from.trees;
            System.arraycopy(from.ferns, 0, ferns, 0, ferns.length);
            System.arraycopy(from.notes, 0, notes, 0, notes.length);
            System.arraycopy(from.cells, 0, cells, 0, cells.length);
            System.arraycopy(from.sung, 0, sung, 0, sung.length);
            System.arraycopy(from.ears, 0, ears, 0, ears.length);
            System.arraycopy(from.bad, 0, bad, 0, bad.length);
            System.arraycopy(from.rows, 0, rows, 0, rows.length);
            rowCount = from.rowCount;
            partCount = from.partCount;
            boyCount = from.boyCount;
            textCount = from.textCount;
            in = from.in;
            fire = from.fire;
            loud = from.loud;
            stray = from.stray;
            beat = from.beat;
            night = from.night;
            seed = from.seed;
        }

        static int apart(int cell, int other) {
            return Math.abs((cell & 7) - (other & 7)) + Math.abs((cell >> 3) - (other >> 3));
        }

        int nearOf(int cell) {
            return apart(cell, fire);
        }

        boolean isOpen(int cell) {
            return cell >= 0 && cell < CELLS && (trees >>> cell & 1) == 0;
        }

        boolean isIn(int boy) {
            return (in >> boy & 1) != 0;
        }

        int lostBoys() {
            return (1 << boyCount) - 1 & ~in;
        }

        boolean isLostAt(int cell) {
            for (int boy = 0; boy < boyCount; boy++) {
                if (!isIn(boy) && cells[boy] == cell) {
                    return true;
                }
            }
            return false;
        }

        boolean canPlant(int cell) {
            return cell != fire && !isLostAt(cell);
        }

        int stepTo(int cell, int side) {
            int to = cell;
            if (side == 1 && cell >> 3 > 0) {
                to = cell - 8;
            } else if (side == 2 && (cell & 7) < 7) {
                to = cell + 1;
            } else if (side == 3 && cell >> 3 < 7) {
                to = cell + 8;
            } else if (side == 4 && (cell & 7) > 0) {
                to = cell - 1;
            }
            return isOpen(to) ? to : cell;
        }

        int stepNearer(int cell) {
            int right = (fire & 7) - (cell & 7);
            int down = (fire >> 3) - (cell >> 3);
            int alongX = right == 0 ? NONE : right > 0 ? cell + 1 : cell - 1;
            int alongY = down == 0 ? NONE : down > 0 ? cell + 8 : cell - 8;
            boolean firstX = Math.abs(right) >= Math.abs(down);
            int one = firstX ? alongX : alongY;
            int other = firstX ? alongY : alongX;
            if (isOpen(one)) {
                return one;
            }
            return isOpen(other) ? other : cell;
        }

        void putBoy(int boy, int cell) {
            cells[boy] = cell;
            if (cell == fire) {
                in |= 1 << boy;
            } else {
                in &= ~(1 << boy);
            }
        }

        void putFire(int cell) {
            fire = cell;
            for (int boy = 0; boy < boyCount; boy++) {
                putBoy(boy, isIn(boy) ? cell : cells[boy]);
            }
        }

        int takeDraw() {
            seed = 1103515245 * seed + 12345;
            return seed >>> 16 & 0x7fff;
        }

        void endBeat() {
            beat = beat + 1 & 7;
            if (beat == 0) {
                night = Math.min(night + 1, MOST_NIGHT);
            }
        }

        void writeRow(int boy, int kind) {
            if (rowCount == MOST_ROWS) {
                System.arraycopy(rows, 1, rows, 0, MOST_ROWS - 1);
                rowCount--;
            }
            rows[rowCount] = night << 13 | beat << 10 | boy << 7 | kind << 6 | cells[boy];
            rowCount++;
        }

        int rowOf(int ago, int what) {
            if (ago < 0 || ago >= rowCount) {
                return NONE;
            }
            int row = rows[rowCount - 1 - ago];
            switch (what) {
                case 0:
                    return row >> 13;
                case 1:
                    return row >> 10 & 7;
                case 2:
                    return row >> 7 & 7;
                case 3:
                    return row >> 6 & 1;
                default:
                    return row & 63;
            }
        }

        int badOfAll() {
            int together = 0;
            for (int boy = 0; boy < boyCount; boy++) {
                together += bad[boy];
            }
            return together;
        }

        int fernsOfAll() {
            int together = 0;
            for (int many : ferns) {
                together += many;
            }
            return together;
        }

        int silencesOf(int part) {
            int silences = 0;
            for (int b = 0; b < BEATS; b++) {
                if (notes[part * BEATS + b] == 0) {
                    silences++;
                }
            }
            return silences;
        }

        boolean isShifted(int part, int other, int k) {
            for (int b = 0; b < BEATS; b++) {
                if (notes[other * BEATS + b] != notes[part * BEATS + (b + k) % BEATS]) {
                    return false;
                }
            }
            return true;
        }

        boolean tellsApart(int beats) {
            for (int part = 0; part < partCount; part++) {
                for (int other = part + 1; other < partCount; other++) {
                    if (areAlike(part, other, beats)) {
                        return false;
                    }
                }
            }
            return true;
        }

        private boolean areAlike(int part, int other, int beats) {
            for (int b = 0; b < BEATS; b++) {
                if ((beats >> b & 1) != 0 && notes[part * BEATS + b] != notes[other * BEATS + b]) {
                    return false;
                }
            }
            return true;
        }
    }

    /** The acts that can be undone: of each the wood as it was ahead of it. */
    private static final class Acts {
        private final Wood[] before = new Wood[MOST_ACTS];
        private int oldest;
        int size;

        Acts() {
            for (int i = 0; i < MOST_ACTS; i++) {
                before[i] = new Wood();
            }
        }

        void remember(Wood wood) {
            if (size == MOST_ACTS) {
                oldest = (oldest + 1) % MOST_ACTS;
                size--;
            }
            before[(oldest + size) % MOST_ACTS].copyFrom(wood);
            size++;
        }

        boolean takeBack(Wood wood) {
            if (size == 0) {
                return false;
            }
            size--;
            wood.copyFrom(before[(oldest + size) % MOST_ACTS]);
            return true;
        }

        void forget() {
            size = 0;
        }
    }

    /**
     * The law as a row of codes: a line's condition behind its operands, then what the line does.
     * Codes from 0 on are numbers of a sum, and behind these far and near lines with their numbers.
     */
    private static final class Law {
        static final int BOY = 0;
        static final int PART = 1;
        static final int EAR = 2;
        static final int X = 3;
        static final int Y = 4;
        static final int AWAY = 5;
        static final int BAD = 6;
        static final int BEAT = 7;
        static final int FACTS = 8;

        static final int FAR = 1000;
        static final int NEAR = 1100;
        static final int ALWAYS = -1;
        static final int SILENT = -2;
        static final int FERNY = -3;
        static final int NOT = -4;
        static final int AND = -5;
        static final int OR = -6;
        static final int THAN = -7;
        static final int LESS = -8;
        static final int MORE = -9;
        static final int STAY = -10;
        static final int FACT = -20;

        private final int[] codes = new int[MOST_TAPE];
        private int size;
        int lineCount = NONE;
        int reach;
        boolean stays;

        Law() {
        }

        void clear() {
            size = 0;
            lineCount = NONE;
        }

        void copyFrom(Law from) {
            System.arraycopy(from.codes, 0, codes, 0, codes.length);
            size = from.size;
            lineCount = from.lineCount;
        }

        void add(int code) {
            // No text on the tape needs more codes than it has bytes.
            if (size < codes.length) {
                codes[size] = code;
                size++;
            }
        }

        /**
         * Leaves in reach what far and near lines add up to, and in stays whether a stay line holds.
         * What holds so far is a stack of bits: six deep it never needs more than an int has.
         */
        void weigh(int[] facts, boolean silent, boolean ferny) {
            reach = 0;
            stays = false;
            int sum = 0;
            int left = 0;
            int held = 0;
            for (int i = 0; i < size; i++) {
                int code = codes[i];
                if (code >= FAR) {
                    int number = code >= NEAR ? NEAR - code : code - FAR;
                    reach += (held & 1) == 0 ? 0 : number;
                } else if (code >= 0) {
                    sum += code;
                } else if (code <= FACT) {
                    sum += facts[FACT - code & 7];
                } else if (code == THAN) {
                    left = sum;
                    sum = 0;
                } else if (code == LESS || code == MORE) {
                    boolean holds = code == LESS ? left < sum : left > sum;
                    held = held << 1 | (holds ? 1 : 0);
                    sum = 0;
                } else if (code == NOT) {
                    held ^= 1;
                } else if (code == AND) {
                    held = held >>> 1 & (held | ~1);
                } else if (code == OR) {
                    held = held >>> 1 | held & 1;
                } else if (code == STAY) {
                    stays |= (held & 1) != 0;
                } else {
                    boolean holds = code == SILENT ? silent : code == FERNY ? ferny : true;
                    held = held << 1 | (holds ? 1 : 0);
                }
            }
        }
    }

    /** One who goes by ear: a boy, or one who might be there, with all that the law asks of him. */
    private static final class Walker {
        static final int STRAYS = -2;

        private final Wood wood;
        private final Law law;
        final int[] facts = new int[Law.FACTS];
        final int[] row = new int[BEATS];
        int cell;
        int loud;

        Walker(Wood wood, Law law) {
            this.wood = wood;
            this.law = law;
        }

        void follow(int boy) {
            become(boy, wood.sung[boy], wood.ears[boy], wood.bad[boy]);
            standAt(wood.cells[boy]);
        }

        void become(int number, int part, int ear, int bad) {
            facts[Law.BOY] = number;
            facts[Law.EAR] = ear;
            facts[Law.BAD] = bad;
            facts[Law.BEAT] = wood.beat;
            loud = wood.loud;
            takePart(part);
        }

        void takePart(int part) {
            facts[Law.PART] = part;
            System.arraycopy(wood.notes, part * BEATS, row, 0, BEATS);
        }

        void standAt(int where) {
            cell = where;
            facts[Law.X] = where & 7;
            facts[Law.Y] = where >> 3;
            facts[Law.AWAY] = Wood.apart(where, wood.fire);
        }

        private int noteNow() {
            return row[facts[Law.BEAT] & 7];
        }

        boolean hearsNow() {
            return hears(noteNow());
        }

        private boolean hears(int note) {
            int ferns = wood.ferns[cell];
            law.weigh(facts, note == 0, ferns > 0);
            return facts[Law.AWAY] <= facts[Law.EAR] + loud + law.reach - ferns;
        }

        /** Whether a note would lead him: he hears it, and no line lets him stay. */
        boolean isLedBy(int note) {
            return hears(note) && !law.stays;
        }

        private int goesTo(int note) {
            boolean hears = hears(note);
            if (law.stays) {
                return cell;
            }
            if (!hears) {
                return STRAYS;
            }
            return note == 0 ? wood.stepNearer(cell) : wood.stepTo(cell, note);
        }

        /** A beat in which one who strays goes nowhere. */
        void beatAhead() {
            if (cell != wood.fire) {
                int to = goesTo(noteNow());
                if (to != STRAYS) {
                    standAt(to);
                }
            }
            facts[Law.BEAT] = facts[Law.BEAT] + 1 & 7;
        }

        int comesIn() {
            int before = NONE;
            for (int n = 0; n <= HORIZON; n++) {
                if (cell == wood.fire) {
                    return n;
                }
                if (n % BEATS == 0) {
                    // Where he was a whole row ago he goes the same way for ever.
                    if (cell == before) {
                        return NONE;
                    }
                    before = cell;
                }
                beatAhead();
            }
            return NONE;
        }

        /** A real beat of a boy, with draws; tells whether he came in. */
        boolean beatNow(int boy) {
            follow(boy);
            int to = goesTo(noteNow());
            if (to != STRAYS) {
                wood.cells[boy] = to;
            } else if (wood.takeDraw() % 100 < wood.stray) {
                wood.cells[boy] = wood.stepTo(cell, 1 + wood.takeDraw() % SIDES);
                wood.bad[boy] = Math.min(wood.bad[boy] + 1, MOST_BAD);
                wood.writeRow(boy, WENT_ASTRAY);
            }
            if (wood.cells[boy] != wood.fire) {
                return false;
            }
            wood.putBoy(boy, wood.fire);
            wood.writeRow(boy, CAME_IN);
            return true;
        }
    }

    /** Ways over cells without trees; sets of cells are the bits of a long. */
    private static final class Ways {
        private static final long LEFT_EDGE = 0x0101010101010101L;
        private static final long RIGHT_EDGE = 0x8080808080808080L;

        private final Wood wood;
        private final int[] together = new int[CELLS];

        Ways(Wood wood) {
            this.wood = wood;
        }

        static long beside(long cells) {
            long leftOf = (cells & ~LEFT_EDGE) >>> 1;
            long rightOf = (cells & ~RIGHT_EDGE) << 1;
            return cells >>> 8 | cells << 8 | leftOf | rightOf;
        }

        private static long reached(int cell, long open) {
            long cells = 1L << cell & open;
            for (int i = 0; i < CELLS; i++) {
                cells |= beside(cells) & open;
            }
            return cells;
        }

        int stepsBetween(int from, int to) {
            long open = ~wood.trees;
            long cells = 1L << from & open;
            for (int n = 0; n < CELLS; n++) {
                if ((cells >>> to & 1) != 0) {
                    return n;
                }
                cells |= beside(cells) & open;
            }
            return NONE;
        }

        private void addSteps(int from) {
            long open = ~wood.trees;
            long cells = 1L << from & open;
            long fresh = cells;
            for (int n = 0; n < CELLS && fresh != 0; n++) {
                for (int cell = 0; cell < CELLS; cell++) {
                    if ((fresh >>> cell & 1) != 0) {
                        together[cell] += n;
                    }
                }
                fresh = beside(fresh) & open & ~cells;
                cells |= fresh;
            }
        }

        int leastTogether() {
            long all = wood.lostBoys() == 0 ? 0 : ~wood.trees;
            Arrays.fill(together, 0);
            for (int boy = 0; boy < wood.boyCount; boy++) {
                if (!wood.isIn(boy)) {
                    addSteps(wood.cells[boy]);
                    all &= reached(wood.cells[boy], ~wood.trees);
                }
            }
            int best = NONE;
            for (int cell = 0; cell < CELLS; cell++) {
                boolean less = best == NONE || together[cell] < together[best];
                if ((all >>> cell & 1) != 0 && less) {
                    best = cell;
                }
            }
            return best;
        }

        int pieces() {
            long left = ~wood.trees;
            int pieces = 0;
            for (int cell = 0; cell < CELLS; cell++) {
                if ((left >>> cell & 1) != 0) {
                    left &= ~reached(cell, left);
                    pieces++;
                }
            }
            return pieces;
        }

        int partingCells() {
            long open = ~wood.trees;
            long lostOnWays = lostCells() & reached(wood.fire, open);
            int parting = 0;
            for (int cell = 0; cell < CELLS; cell++) {
                if (wood.isOpen(cell) && wood.canPlant(cell)) {
                    long still = reached(wood.fire, open & ~(1L << cell));
                    if ((lostOnWays & ~still) != 0) {
                        parting++;
                    }
                }
            }
            return parting;
        }

        private long lostCells() {
            long cells = 0;
            for (int boy = 0; boy < wood.boyCount; boy++) {
                if (!wood.isIn(boy)) {
                    cells |= 1L << wood.cells[boy];
                }
            }
            return cells;
        }
    }

    /** What a boy could do, had he whatever note in each beat. */
    private static final class Choices {
        private final Wood wood;
        private final Walker walker;
        private final long[] silenceLeads = new long[BEATS];
        private final long[] sideLeads = new long[BEATS];

        Choices(Wood wood, Walker walker) {
            this.wood = wood;
            this.walker = walker;
        }

        /** Of each beat: the cells from which a silence, and those from which a side would lead him. */
        void thinkFor(int boy) {
            walker.follow(boy);
            for (int beat = 0; beat < BEATS; beat++) {
                walker.facts[Law.BEAT] = beat;
                silenceLeads[beat] = leads(0);
                sideLeads[beat] = leads(1);
            }
        }

        private long leads(int note) {
            long cells = 0;
            for (int cell = 0; cell < CELLS; cell++) {
                if (wood.isOpen(cell) && cell != wood.fire) {
                    walker.standAt(cell);
                    if (walker.isLedBy(note)) {
                        cells |= 1L << cell;
                    }
                }
            }
            return cells;
        }

        /** He can always stay by a note of 5 to 7, or as he does not hear, so cells are never fewer. */
        private long oneBeatOn(long cells, int beat) {
            long next = cells | Ways.beside(cells & sideLeads[beat]) & ~wood.trees;
            long silent = cells & silenceLeads[beat];
            for (int cell = 0; cell < CELLS; cell++) {
                if ((silent >>> cell & 1) != 0) {
                    next |= 1L << wood.stepNearer(cell);
                }
            }
            return next;
        }

        /** The fewest beats from a cell to the fire, begun so many beats later than now. */
        int fewest(int from, int later, int most) {
            long cells = 1L << from;
            for (int n = 0; n <= most; n++) {
                if ((cells >>> wood.fire & 1) != 0) {
                    return n;
                }
                cells = oneBeatOn(cells, wood.beat + later + n & 7);
            }
            return NONE;
        }

        int leastFirst(int boy) {
            thinkFor(boy);
            int from = wood.cells[boy];
            int fewest = fewest(from, 0, MOST_CALLS);
            for (int note = 0; note < NOTES && fewest != NONE; note++) {
                if (fewest(ledTo(from, note), 1, fewest - 1) != NONE) {
                    return note;
                }
            }
            return NONE;
        }

        private int ledTo(int from, int note) {
            long leads = note == 0 ? silenceLeads[wood.beat & 7] : sideLeads[wood.beat & 7];
            if ((leads >>> from & 1) == 0) {
                return from;
            }
            return note == 0 ? wood.stepNearer(from) : wood.stepTo(from, note);
        }

        int reachedIn(int from, int n) {
            long cells = 1L << from;
            for (int i = 0; i < n; i++) {
                cells = oneBeatOn(cells, wood.beat + i & 7);
            }
            return Long.bitCount(cells);
        }
    }

    /** How near one from an unknown cell sounds in the beats to come, and where he can be by that. */
    private static final class Trails {
        private static final int LENGTH = 31;
        private static final int NEARS = 15;
        private static final int CONTRARY = NEARS;

        private final Wood wood;
        private final Walker walker;
        private final int[] heard = new int[LENGTH];
        private final int[] trail = new int[LENGTH];
        private final int[] sizes = new int[LENGTH * NEARS];

        Trails(Wood wood, Walker walker) {
            this.wood = wood;
            this.walker = walker;
        }

        boolean hearAll(int[] tape, int length) {
            if (length > MOST_TOLD || length % 2 != 0) {
                return false;
            }
            Arrays.fill(heard, NONE);
            for (int i = 0; i + 1 < length; i += 2) {
                int beats = tape[i];
                int near = tape[i + 1];
                if (beats >= LENGTH || near >= NEARS) {
                    return false;
                }
                boolean alike = heard[beats] == NONE || heard[beats] == near;
                heard[beats] = alike ? near : CONTRARY;
            }
            return true;
        }

        private boolean fits(int cell) {
            if (!wood.isOpen(cell)) {
                return false;
            }
            walker.become(0, 0, MOST_EAR, 0);
            walker.standAt(cell);
            for (int n = 0; n < LENGTH; n++) {
                trail[n] = walker.facts[Law.AWAY];
                if (heard[n] != NONE && heard[n] != trail[n]) {
                    return false;
                }
                walker.beatAhead();
            }
            return true;
        }

        int leastCell() {
            for (int cell = 0; cell < CELLS; cell++) {
                if (fits(cell)) {
                    return cell;
                }
            }
            return NONE;
        }

        int cellCount() {
            int fitting = 0;
            for (int cell = 0; cell < CELLS; cell++) {
                if (fits(cell)) {
                    fitting++;
                }
            }
            return fitting;
        }

        int bestBeat() {
            int fitting = 0;
            Arrays.fill(sizes, 0);
            for (int cell = 0; cell < CELLS; cell++) {
                if (fits(cell)) {
                    fitting++;
                    for (int n = 0; n < LENGTH; n++) {
                        sizes[n * NEARS + trail[n]]++;
                    }
                }
            }
            return fitting < 2 ? NONE : leastGreatest();
        }

        private int leastGreatest() {
            int best = NONE;
            int least = CELLS + 1;
            for (int n = 0; n < LENGTH; n++) {
                int greatest = 0;
                for (int near = 0; near < NEARS; near++) {
                    greatest = Math.max(greatest, sizes[n * NEARS + near]);
                }
                if (greatest < least) {
                    least = greatest;
                    best = n;
                }
            }
            return best;
        }
    }

    /** Reads a text of lines thing by thing: a word, a row of digits, or another byte. */
    private abstract static class Reader {
        private static final int END = 0;
        private static final int WORD = 1;
        private static final int DIGITS = 2;
        private static final int SIGN = 3;
        private static final int MOST_DIGITS = 3;

        private final int[] text;
        private int length;
        private int kind;
        private int begin;
        private int behind;
        int wrongAt = NONE;

        Reader(int[] text) {
            this.text = text;
        }

        /** Reads one line; false, where it is wrong. */
        abstract boolean readLine();

        /** How many lines there are; NONE, if the text is wrong. */
        int readLines(int textLength, int most) {
            length = Math.min(textLength, text.length);
            behind = 0;
            wrongAt = NONE;
            advance();
            if (kind == END) {
                return 0;
            }
            for (int lines = 1; lines <= most; lines++) {
                if (!readLine()) {
                    return NONE;
                }
                if (kind == END) {
                    return lines;
                }
                if (!takeSign(';')) {
                    return NONE;
                }
            }
            refuse();
            return NONE;
        }

        final void advance() {
            begin = behind;
            while (begin < length && text[begin] == ' ') {
                begin++;
            }
            kind = kindAt(begin);
            behind = begin + (kind == END ? 0 : 1);
            boolean goesOn = kind == WORD || kind == DIGITS;
            while (goesOn && behind < length && kindAt(behind) == kind) {
                behind++;
            }
        }

        private int kindAt(int at) {
            if (at >= length) {
                return END;
            }
            if (text[at] >= 'a' && text[at] <= 'z') {
                return WORD;
            }
            return text[at] >= '0' && text[at] <= '9' ? DIGITS : SIGN;
        }

        final boolean refuse() {
            wrongAt = begin;
            return false;
        }

        final boolean isWord(String word) {
            if (kind != WORD || behind - begin != word.length()) {
                return false;
            }
            for (int i = 0; i < word.length(); i++) {
                if (text[begin + i] != word.charAt(i)) {
                    return false;
                }
            }
            return true;
        }

        final boolean isSign(char sign) {
            return kind == SIGN && text[begin] == sign;
        }

        final boolean isNumber() {
            return kind == DIGITS;
        }

        final boolean takeWord(String word) {
            if (!isWord(word)) {
                return refuse();
            }
            advance();
            return true;
        }

        final boolean takeSign(char sign) {
            if (!isSign(sign)) {
                return refuse();
            }
            advance();
            return true;
        }

        /** The number that stands there; NONE, if there is none from 0 to most. */
        final int numberUpTo(int most) {
            if (kind != DIGITS || behind - begin > MOST_DIGITS) {
                return NONE;
            }
            int number = 0;
            for (int at = begin; at < behind; at++) {
                number = 10 * number + text[at] - '0';
            }
            return number <= most ? number : NONE;
        }

        /** Goes behind the number that stands there; NONE, and it is wrong, if there is none. */
        final int takeNumber(int most) {
            int number = numberUpTo(most);
            if (number == NONE) {
                refuse();
            } else {
                advance();
            }
            return number;
        }

        /** Copies the figures that stand there; false, if they are not so many from 0 to most. */
        final boolean copyFigures(int[] into, int from, int many, int most) {
            if (kind != DIGITS || behind - begin != many || from + many > into.length) {
                return false;
            }
            for (int i = 0; i < many; i++) {
                int figure = text[begin + i] - '0';
                if (figure > most) {
                    return false;
                }
                into[from + i] = figure;
            }
            return true;
        }
    }

    /** Reads the wood's texts straight into it; of a wrong one the caller takes all back. */
    private static final class WoodReader extends Reader {
        private static final int MOST_STRAY = 100;
        private static final int MOST_FERNS = 9;
        private static final int MOST_TOLD_NIGHT = 999;

        private final Wood wood;

        WoodReader(int[] text, Wood wood) {
            super(text);
            this.wood = wood;
        }

        boolean readLine() {
            if (isWord("part")) {
                return readPart();
            }
            if (isWord("boy")) {
                return readBoy();
            }
            if (isWord("trees")) {
                return readTrees();
            }
            if (isWord("ferns")) {
                return readFerns();
            }
            if (isWord("fire")) {
                return readFire();
            }
            return readSetting();
        }

        private boolean readPart() {
            if (wood.partCount >= MOST_PARTS) {
                return refuse();
            }
            advance();
            if (!copyFigures(wood.notes, wood.partCount * BEATS, BEATS, NOTES - 1)) {
                return refuse();
            }
            advance();
            wood.partCount++;
            return true;
        }

        private boolean readBoy() {
            if (wood.boyCount >= MOST_BOYS) {
                return refuse();
            }
            advance();
            int cell = takeWord("at") ? takeOpenCell() : NONE;
            int part = cell != NONE && takeWord("sings") ? takeNumber(wood.partCount - 1) : NONE;
            int ear = part != NONE && takeWord("ear") ? takeNumber(MOST_EAR) : NONE;
            if (ear == NONE) {
                return false;
            }
            int boy = wood.boyCount;
            wood.boyCount++;
            wood.sung[boy] = part;
            wood.ears[boy] = ear;
            wood.bad[boy] = 0;
            wood.putBoy(boy, cell);
            return true;
        }

        private int takeOpenCell() {
            if (!wood.isOpen(numberUpTo(CELLS - 1))) {
                refuse();
                return NONE;
            }
            return takeNumber(CELLS - 1);
        }

        private boolean readTrees() {
            advance();
            int cell = numberUpTo(CELLS - 1);
            if (cell == NONE || !wood.canPlant(cell)) {
                return refuse();
            }
            wood.trees |= 1L << cell;
            advance();
            return true;
        }

        private boolean readFerns() {
            advance();
            int cell = takeNumber(CELLS - 1);
            int many = cell == NONE ? NONE : takeNumber(MOST_FERNS);
            if (many == NONE) {
                return false;
            }
            wood.ferns[cell] = many;
            return true;
        }

        private boolean readFire() {
            advance();
            int cell = takeOpenCell();
            if (cell == NONE) {
                return false;
            }
            wood.putFire(cell);
            return true;
        }

        private boolean readSetting() {
            if (isWord("loud")) {
                advance();
                wood.loud = takeNumber(MOST_LOUD);
                return wood.loud != NONE;
            }
            if (isWord("stray")) {
                advance();
                wood.stray = takeNumber(MOST_STRAY);
                return wood.stray != NONE;
            }
            if (isWord("beat")) {
                advance();
                wood.beat = takeNumber(BEATS - 1);
                return wood.beat != NONE;
            }
            if (isWord("night")) {
                advance();
                wood.night = takeNumber(MOST_TOLD_NIGHT);
                return wood.night != NONE;
            }
            return refuse();
        }
    }

    /** Reads a law into codes; what waits for its right side stands on a stack of its own. */
    private static final class LawReader extends Reader {
        private static final int MOST_LINE_NUMBER = 20;
        private static final int MOST_NUMBER = 999;
        private static final int MOST_DEEP = 6;
        private static final int BRACKET = 0;

        private final Law law;
        private final int[] waiting = new int[3 * MOST_DEEP + 3];
        private int top;
        private int deep;
        private int brackets;

        LawReader(int[] text, Law law) {
            super(text);
            this.law = law;
        }

        boolean readLine() {
            int effect;
            if (isWord("stay")) {
                advance();
                effect = Law.STAY;
            } else if (isWord("far") || isWord("near")) {
                int base = isWord("far") ? Law.FAR : Law.NEAR;
                advance();
                int number = takeNumber(MOST_LINE_NUMBER);
                if (number == NONE) {
                    return false;
                }
                effect = base + number;
            } else {
                return refuse();
            }
            if (!isWord("if")) {
                law.add(Law.ALWAYS);
            } else {
                advance();
                if (!readCondition()) {
                    return false;
                }
            }
            law.add(effect);
            return true;
        }

        private boolean readCondition() {
            top = 0;
            deep = 0;
            brackets = 0;
            boolean behindAtom = false;
            // Each turn goes behind one thing at least.
            for (int turn = 0; turn <= MOST_TAPE; turn++) {
                if (!behindAtom) {
                    if (isWord("not") || isSign('(')) {
                        if (deep >= MOST_DEEP) {
                            return refuse();
                        }
                        open();
                    } else {
                        if (!readAtom()) {
                            return false;
                        }
                        behindAtom = true;
                    }
                } else if (isWord("and") || isWord("or")) {
                    join(isWord("and") ? Law.AND : Law.OR);
                    behindAtom = false;
                } else if (brackets == 0) {
                    addJoins(Law.OR);
                    return true;
                } else if (isSign(')')) {
                    close();
                } else {
                    return refuse();
                }
            }
            return refuse();
        }

        private void open() {
            boolean bracket = isSign('(');
            putUp(bracket ? BRACKET : Law.NOT);
            deep++;
            brackets += bracket ? 1 : 0;
            advance();
        }

        private void putUp(int code) {
            if (top < waiting.length) {
                waiting[top] = code;
                top++;
            }
        }

        private boolean isTop(int code) {
            return top > 0 && waiting[top - 1] == code;
        }

        private void join(int code) {
            addJoins(code);
            putUp(code);
            advance();
        }

        /** An and takes what is on its left before an or does. */
        private void addJoins(int code) {
            while (top > 0 && (isTop(Law.AND) || code == Law.OR && isTop(Law.OR))) {
                top--;
                law.add(waiting[top]);
            }
        }

        private void addNots() {
            while (top > 0 && isTop(Law.NOT)) {
                top--;
                deep--;
                law.add(Law.NOT);
            }
        }

        private void close() {
            addJoins(Law.OR);
            if (isTop(BRACKET)) {
                top--;
                deep--;
                brackets--;
            }
            addNots();
            advance();
        }

        private boolean readAtom() {
            if (isWord("silent") || isWord("ferny")) {
                law.add(isWord("silent") ? Law.SILENT : Law.FERNY);
                advance();
            } else {
                if (!readSum()) {
                    return false;
                }
                if (!isSign('<') && !isSign('>')) {
                    return refuse();
                }
                int compared = isSign('<') ? Law.LESS : Law.MORE;
                law.add(Law.THAN);
                advance();
                if (!readSum()) {
                    return false;
                }
                law.add(compared);
            }
            addNots();
            return true;
        }

        private boolean readSum() {
            for (int turn = 0; turn <= MOST_TAPE; turn++) {
                int code = isNumber() ? numberUpTo(MOST_NUMBER)
                    : isWord("boy") ? Law.FACT - Law.BOY
                    : isWord("part") ? Law.FACT - Law.PART
                    : isWord("ear") ? Law.FACT - Law.EAR
                    : isWord("x") ? Law.FACT - Law.X
                    : isWord("y") ? Law.FACT - Law.Y
                    : isWord("away") ? Law.FACT - Law.AWAY
                    : isWord("bad") ? Law.FACT - Law.BAD
                    : isWord("beat") ? Law.FACT - Law.BEAT : NONE;
                if (code == NONE) {
                    return refuse();
                }
                law.add(code);
                advance();
                if (!isSign('+')) {
                    return true;
                }
                advance();
            }
            return refuse();
        }
    }
}
