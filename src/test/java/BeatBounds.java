/** Steps, beats, draws, acts and the log. */
final class BeatBounds {
    private BeatBounds() {
    }

    static void run() {
        stepsToSides();
        stepsNearer();
        stepsNearerByTrees();
        goes();
        belowStray();
        sidesOfDraws();
        strayBounds();
        byNumbers();
        whoIsInThen();
        badAtMost();
        beatGoesRound();
        eachByAll();
        draws();
        ahead();
        acts();
        noActs();
        log();
        logOfBoth();
        fullLog();
    }

    static int next(int seed) {
        return (int) (1103515245L * seed + 12345L);
    }

    /** The first and the second draw from a seed on. */
    static int draw(int seed, int time) {
        int drawn = time == 1 ? next(seed) : next(next(seed));
        return (int) (((drawn & 0xffffffffL) >> 16) % 32768);
    }

    private static void stepsToSides() {
        Doc.says("A STEP to a SIDE: to the CELL there, if there is one without TREES, else one stays.");
        int[][] due = {{0, 1, 8, 0}, {7, 7, 15, 6}, {48, 57, 56, 56}, {55, 63, 63, 62}, {28, 37, 44, 35}};
        LostRound x = Due.told("part 11111111;part 22222222;part 33333333;part 44444444;boy at 1 sings 0 ear 15;loud 15");
        int[] cells = {0, 7, 56, 63, 36};
        for (int i = 0; i < cells.length; i++) {
            x.send(0, cells[i]);
            for (int side = 0; side < 4; side++) {
                x.part(0, side);
                Due.is("from " + cells[i] + " to side " + (side + 1), x.boy(0, 7), due[i][side]);
            }
        }
        for (int side = 1; side <= 4; side++) {
            LostRound all = Due.told("part " + String.valueOf(side).repeat(8) + ";boy at 1 sings 0 ear 15;loud 15");
            for (int cell = 0; cell < 64; cell++) {
                if (cell != 27) {
                    all.send(0, cell);
                    Due.is("from " + cell + " to side " + side, all.boy(0, 7), side(cell, side));
                }
            }
        }
        for (int[] edge : new int[][] {{3, 0, 3}, {23, 1, 23}, {60, 2, 60}, {24, 3, 24}, {8, 3, 8}, {15, 1, 15}}) {
            x.send(0, edge[0]);
            x.part(0, edge[1]);
            Due.is("at the edge " + edge[0], x.boy(0, 7), edge[2]);
        }
        x.send(0, 36);
        for (int trees : new int[] {28, 37, 44, 35}) {
            x.plant(trees, true);
        }
        for (int side = 0; side < 4; side++) {
            x.part(0, side);
            Due.is("trees at side " + (side + 1), x.boy(0, 7), 36);
        }
        x.plant(37, false);
        x.part(0, 1);
        Due.is("trees felled there", x.boy(0, 7), 37);
    }

    /** The cell to a side, without trees. */
    private static int side(int cell, int side) {
        int x = cell % 8 + (side == 2 ? 1 : side == 4 ? -1 : 0);
        int y = cell / 8 + (side == 3 ? 1 : side == 1 ? -1 : 0);
        return x < 0 || x > 7 || y < 0 || y > 7 ? cell : 8 * y + x;
    }

    private static void stepsNearer() {
        Doc.says("A STEP nearer: along X, if X of THE FIRE is farther off than Y is (or as far, but not 0), to that SIDE, else along Y;");
        for (int fire : new int[] {27, 0, 7, 56, 63, 36}) {
            LostRound x = Due.told("part 00000000;boy at 9 sings 0 ear 15;loud 15;fire " + fire);
            for (int cell = 0; cell < 64; cell++) {
                if (cell != fire) {
                    x.send(0, cell);
                    Due.is("nearer " + fire + " from " + cell, x.boy(0, 7), nearer(fire, cell));
                }
            }
        }
    }

    private static int nearer(int fire, int cell) {
        int right = fire % 8 - cell % 8;
        int down = fire / 8 - cell / 8;
        if (right * right >= down * down && right != 0) {
            return right > 0 ? cell + 1 : cell - 1;
        }
        return down > 0 ? cell + 8 : cell - 8;
    }

    private static void stepsNearerByTrees() {
        Doc.says("if that cannot be (TREES), along the other one, if it is not 0 and can be; else one stays.");
        // From, the trees, and where one goes: the fire is in 27.
        int[][] rows = {{9, 10, 17}, {9, 17, 10}, {45, 44, 37}, {14, 13, 22}, {49, 41, 50}, {10, 18, 11}, {44, 36, 43}, {25, 26, 25},
            {29, 28, 29}, {11, 19, 11}, {43, 35, 43}};
        for (int[] row : rows) {
            LostRound x = Due.told("part 00000000;boy at " + row[0] + " sings 0 ear 15;trees " + row[1]);
            Due.is("nearer from " + row[0] + " by trees in " + row[1], x.boy(0, 7), row[2]);
        }
        LostRound x = Due.told("part 00000000;boy at 9 sings 0 ear 15;trees 10;trees 17");
        Due.is("trees along both", x.boy(0, 7), 9);
        LostRound y = Due.told("part 00000000;boy at 10 sings 0 ear 15;trees 18;trees 11");
        Due.is("trees along both, y ahead of x", y.boy(0, 7), 10);
    }

    private static void goes() {
        Doc.says("GOES of a BOY in a BEAT: if he STAYS: nowhere; if he HEARS: by his NOTE of that BEAT: 0 a STEP nearer, "
            + "1 to 4 a STEP to that SIDE, else nowhere; if not: he strays.");
        LostRound x = Due.told("part 01234567;boy at 45 sings 0 ear 15;stray 100");
        int[] due = {44, 37, 46, 53, 44, 45, 45, 45};
        for (int beat = 0; beat <= 7; beat++) {
            x.sing(1);
            Due.is("by note " + beat, x.boy(0, 0), due[beat]);
            x.send(0, 45);
        }
        Due.is("who hears draws nothing", x.seed(1), 1);
        Due.law(x, "stay;near 20;near 20");
        x.sing(8);
        Due.is("who stays goes nowhere, also one who does not hear", x.boy(0, 0), 45);
        Due.is("and does not stray", x.seed(1), 1);
        Due.law(x, "near 20;near 20");
        x.sing(1);
        Due.is("if not he strays", x.boy(0, 4), 1);
        Due.is("by draws", x.seed(1), next(next(1)));
    }

    private static LostRound deaf(String more) {
        return Due.told("part 00000000;boy at 36 sings 0 ear 0;loud 0" + more);
    }

    private static int seedOf(int hundredth) {
        for (int seed = 1; seed < 100000; seed++) {
            if (draw(seed, 1) % 100 == hundredth) {
                return seed;
            }
        }
        return 0;
    }

    private static void belowStray() {
        Doc.says("A BEAT: each BOY who is not IN, by numbers: he GOES; one who strays: if DRAW modulo 100 is below STRAY,");
        LostRound x = deaf("");
        for (int hundredth : new int[] {0, 1, 49, 98, 99}) {
            int seed = seedOf(hundredth);
            for (int stray = hundredth; stray <= hundredth + 1; stray++) {
                Due.wood(x, "stray " + stray);
                x.seed(seed);
                x.sing(1);
                boolean astray = stray > hundredth;
                Due.is("draws of " + hundredth + " by stray " + stray, x.seed(1), astray ? next(next(seed)) : next(seed));
                Due.is("rows by it", x.count(11), astray ? 1 : 0);
                x.undo();
            }
        }
    }

    private static void sidesOfDraws() {
        Doc.says("a STEP to the SIDE 1 and DRAW modulo 4 (the second DRAW just then),");
        int[] due = {28, 37, 44, 35};
        boolean[] seen = new boolean[4];
        LostRound x = deaf(";stray 100");
        for (int seed = -30; seed < 30; seed++) {
            x.seed(seed);
            x.sing(1);
            int side = draw(seed, 2) % 4;
            seen[side] = true;
            Due.is("astray from seed " + seed, x.boy(0, 0), due[side]);
            Due.is("bad of it", x.boy(0, 4), 1);
            x.undo();
        }
        Due.is("each of the sides", seen[0] && seen[1] && seen[2] && seen[3], true);
    }

    private static void strayBounds() {
        Doc.says("STRAY 0 to 100 (50 at first).");
        LostRound x = deaf(";stray 0");
        x.sing(120);
        Due.is("never by stray 0", x.boy(0, 4) * 100 + x.boy(0, 0), 36);
        LostRound y = TermBounds.shutIn();
        y.sing(50);
        Due.is("always by stray 100", y.boy(0, 4), 50);
        Due.is("trees where he went: a row all the same", y.count(11), 50);
    }

    private static void byNumbers() {
        Doc.says("A BEAT: each BOY who is not IN, by numbers:");
        // The first hears, the second is in, the third stays: the draws are the fourth's and the fifth's.
        LostRound x = Due.told("part 00000000;boy at 9 sings 0 ear 15;boy at 27 sings 0 ear 0;boy at 0 sings 0 ear 0"
            + ";boy at 18 sings 0 ear 0;boy at 45 sings 0 ear 0;loud 0;stray 100");
        Due.law(x, "stay if boy > 1 and boy < 3");
        for (int seed = 1; seed <= 12; seed++) {
            x.seed(seed);
            x.sing(1);
            int[] up = {-8, 1, 8, -1};
            int later = next(next(seed));
            Due.is("the fourth, from seed " + seed, x.boy(3, 0), 18 + up[draw(seed, 2) % 4]);
            Due.is("the fifth, from seed " + seed, x.boy(4, 0), 45 + up[draw(later, 2) % 4]);
            Due.is("the others", x.boy(0, 0) + 100 * x.boy(1, 0) + 10000 * x.boy(2, 0), 10 + 2700);
            Due.is("two rows, by numbers", x.log(1, 2) * 10 + x.log(0, 2), 34);
            Due.is("four draws", x.seed(0), next(next(later)));
            x.undo();
        }
    }

    private static void whoIsInThen() {
        Doc.says("whoever is in the CELL of THE FIRE then is IN.");
        LostRound x = Due.told("part 00000000;part 22222222;boy at 26 sings 0 ear 1;boy at 26 sings 1 ear 1;boy at 28 sings 1 ear 1"
            + ";boy at 28 sings 0 ear 0;loud 0;stray 100");
        int seed = seedToLeft();
        x.seed(seed);
        Due.is("three come in: by a silence, by a side, astray", x.sing(1), 3);
        Due.is("who is in", x.count(10), 0b1011);
        Due.is("where they are", x.boy(0, 0) + x.boy(1, 0) + x.boy(3, 0), 81);
        Due.is("one went off", x.boy(2, 0), 29);
        Due.is("nobody comes in again", x.sing(1), 0);
    }

    /** A seed from which the first one who strays goes to the left. */
    private static int seedToLeft() {
        int seed = 1;
        while (seed < 1000 && draw(seed, 2) % 4 != 3) {
            seed++;
        }
        return seed;
    }

    private static void badAtMost() {
        Doc.says("BAD is 1 more (99 at most);");
        LostRound x = TermBounds.shutIn();
        x.sing(98);
        Due.is("98", x.boy(0, 4), 98);
        x.sing(2);
        Due.is("99 at most", x.boy(0, 4), 99);
        x.sing(20);
        Due.is("99 still", x.boy(0, 4), 99);
        Due.is("he goes astray all the same", x.log(0, 0) * 8 + x.log(0, 1), 119);
    }

    private static void beatGoesRound() {
        Doc.says("BEAT is 1 more; behind 7 it is 0, and NIGHT is 1 more (9999 at most).");
        LostRound x = new LostRound();
        for (int n = 1; n <= 17; n++) {
            x.sing(1);
            Due.is("beat behind " + n, x.count(7), n % 8);
            Due.is("night behind " + n, x.count(8), n / 8);
        }
        x.sing(120);
        Due.is("beat behind 137", x.count(7), 1);
        Due.is("night behind 137", x.count(8), 17);
        Due.wood(x, "beat 6;night 999");
        x.sing(1);
        Due.is("night by beat 7", x.count(8), 999);
        x.sing(1);
        Due.is("night behind beat 7", x.count(8), 1000);
    }

    private static void eachByAll() {
        Doc.says("(Each by all as it is then.)");
        // Both go by the beat that is, the second one also behind the first one's coming in.
        LostRound x = Due.told("part 00000002;boy at 26 sings 0 ear 0;boy at 26 sings 0 ear 0;loud 0;beat 7");
        Due.law(x, "far 1 if beat > 6");
        Due.is("both come in by beat 7", x.sing(1), 2);
        Due.is("rows tell beat 7", x.log(0, 1) * 10 + x.log(1, 1), 77);
        Due.is("and the night of it", x.log(0, 0) * 10 + x.log(1, 0), 0);
        // Whether he hears in a beat is asked by the BAD of the beats before.
        LostRound y = TermBounds.shutIn();
        Due.law(y, "stay if bad > 2");
        y.sing(10);
        Due.is("he stays behind his third time astray", y.boy(0, 4), 3);
    }

    private static void draws() {
        Doc.says("DRAW: SEED is 1103515245 times SEED and 12345, as an int that goes round; bits 16 to 30 (SEED 1 at first).");
        LostRound x = deaf(";stray 100");
        Due.is("seed at first", x.seed(0), 1);
        for (int seed : new int[] {0, 1, -1, Integer.MAX_VALUE, Integer.MIN_VALUE, 65536, -65536, 1 << 30, 12345, -12345}) {
            Due.is("seed ahead of " + seed, x.seed(seed), 0);
            x.sing(1);
            Due.is("cell by seed " + seed, x.boy(0, 0), new int[] {28, 37, 44, 35}[draw(seed, 2) % 4]);
            Due.is("seed behind " + seed, x.seed(seed), next(next(seed)));
            x.undo();
            x.seed(0);
        }
    }

    private static void ahead() {
        Doc.says("AHEAD by N BEATS (0 to 100): as so many BEATS in which one who strays goes nowhere, BAD as it is (no DRAWS).");
        LostRound x = Due.told("part 07777777;boy at 24 sings 0 ear 15;boy at 36 sings 0 ear 0;loud 0;stray 100;beat 7");
        x.sing(1);
        int bad = x.boy(1, 0);
        x.seed(5);
        Due.is("ahead(0, 0)", x.ahead(0, 0), 24);
        Due.is("ahead(0, 1)", x.ahead(0, 1), 25);
        Due.is("ahead(0, 16)", x.ahead(0, 16), 26);
        Due.is("ahead(0, 17)", x.ahead(0, 17), 27);
        Due.is("ahead(0, 100)", x.ahead(0, 100), 27);
        Due.is("ahead(1, 100), who strays", x.ahead(1, 100), bad);
        Due.fails("ahead(0, 101)", Due.ARGUMENT, () -> x.ahead(0, 101));
        Due.fails("ahead(0, -1)", Due.ARGUMENT, () -> x.ahead(0, -1));
        Due.law(x, "stay if boy < 1 and bad > 0;far 20 if bad > 0 and bad < 2");
        Due.is("bad as it is: he hears by 1", x.ahead(1, 100), 27);
        Due.is("no draws", x.seed(1), 5);
        Due.is("no rows", x.count(11), 1);
        LostRound y = Due.told("part 70777777;fire 0;boy at 62 sings 0 ear 15;beat 6");
        Due.is("twelve times nearer by 99", y.ahead(0, 99), 8);
        Due.is("thirteen times by 100", y.ahead(0, 100), 0);
    }

    private static void acts() {
        Doc.says("ACTS: BEATS; THE FIRE is put to a CELL without TREES (who is there is IN); "
            + "TREES are planted in a CELL (without a BOY who is not IN, and not THE FIRE), or felled; a BOY sings another PART; "
            + "a NOTE is changed; a BOY is called in (he is in the CELL of THE FIRE); "
            + "one is sent off to a CELL without TREES (not THE FIRE); LOUD is told (each also if it changes nothing).");
        LostRound x = Due.told("part 01234567;boy at 9 sings 0 ear 0;boy at 9 sings 0 ear 0;trees 1");
        x.sing(1);
        x.fire(27);
        x.plant(1, true);
        x.plant(2, false);
        x.part(0, 0);
        x.tune(0, 0, 0);
        x.send(0, x.boy(0, 0));
        x.loud(4);
        Due.is("eight acts, seven of which changed nothing", x.count(12), 8);
        x.call(0);
        Due.is("called: in the cell of the fire", x.boy(0, 0), 27);
        x.fire(x.boy(1, 0));
        Due.is("who is there is in", x.count(10), 3);
        Due.is("ten acts", x.count(12), 10);
        for (int left = 9; left >= 0; left--) {
            Due.is("undo()", x.undo(), true);
            Due.is("acts left", x.count(12), left);
        }
        Due.is("no act left", x.undo(), false);
    }

    private static void noActs() {
        Doc.says("(each also if it changes nothing).");
        LostRound x = Due.told("part 00000000;boy at 9 sings 0 ear 0");
        x.seed(3);
        x.image();
        x.trial(100, true);
        x.span(100, true);
        x.ahead(0, 100);
        x.mends(0);
        x.feed(0, 0, 0, 0, 0);
        x.end(0);
        x.undo();
        Due.is("these are no acts", x.count(12), 0);
        Due.fails("a refused one", Due.STATE, () -> x.send(0, 27));
        Due.fails("a refused one", Due.ARGUMENT, () -> x.sing(0));
        Due.is("nor are refused ones", x.count(12), 0);
    }

    private static void log() {
        Doc.says("THE LOG: the latest 60 times that a BOY came IN by a BEAT (0), or went astray (1): "
            + "NIGHT, BEAT (ahead of its being 1 more), the BOY, 0 or 1, the CELL in which he is then.");
        LostRound x = Due.told("part 00000000;boy at 9 sings 0 ear 0;boy at 26 sings 0 ear 1;boy at 40 sings 0 ear 0;loud 0;stray 100;night 998;beat 7");
        x.call(0);
        Due.is("no row by being called", x.count(11), 0);
        x.send(0, 9);
        x.fire(9);
        Due.is("nor by the fire", x.count(11), 0);
        x.fire(27);
        x.seed(1);
        x.sing(1);
        Due.is("two rows", x.count(11), 2);
        int[][] due = {{998, 7, 2, 1, 40 + new int[] {-8, 1, 8, 0}[draw(1, 2) % 4]}, {998, 7, 1, 0, 27}};
        for (int ago = 0; ago < 2; ago++) {
            for (int what = 0; what < 5; what++) {
                Due.is("log(" + ago + ", " + what + ")", x.log(ago, what), due[ago][what]);
            }
        }
        x.sing(1);
        Due.is("a night later", x.log(0, 0), 999);
        Due.is("its beat", x.log(0, 1), 0);
    }

    private static void logOfBoth() {
        Doc.says("came IN by a BEAT (0), or went astray (1):");
        LostRound x = Due.told("part 00000000;boy at 28 sings 0 ear 0;loud 0;stray 100");
        x.seed(seedToLeft());
        Due.is("astray into the fire", x.sing(1), 1);
        Due.is("both have a row", x.count(11), 2);
        Due.is("astray first, then in", x.log(1, 3) * 10 + x.log(0, 3), 10);
        Due.is("in the same cell", x.log(1, 4) * 100 + x.log(0, 4), 2727);
        Due.is("bad", x.boy(0, 4), 1);
    }

    private static void fullLog() {
        Doc.says("the latest 60 times");
        LostRound x = TermBounds.shutIn();
        x.sing(59);
        Due.is("59 rows", x.count(11), 59);
        Due.is("log(58, 1)", x.log(58, 1), 0);
        Due.is("log(59, 1) of 59", x.log(59, 1), LostRound.NONE);
        x.sing(1);
        Due.is("60 rows", x.count(11), 60);
        Due.is("log(59, 1) of 60", x.log(59, 1), 0);
        x.sing(1);
        Due.is("60 rows of 61", x.count(11), 60);
        Due.is("the first is gone", x.log(59, 1), 1);
        Due.is("log(60, 1)", x.log(60, 1), LostRound.NONE);
        Due.is("the latest", x.log(0, 0) * 8 + x.log(0, 1), 60);
        for (int ago = 0; ago < 60; ago++) {
            Due.is("log(" + ago + ")", x.log(ago, 0) * 8 + x.log(ago, 1), 60 - ago);
        }
        x.sing(120);
        for (int ago = 0; ago < 60; ago++) {
            Due.is("log(" + ago + ") behind 181", x.log(ago, 0) * 8 + x.log(ago, 1), 180 - ago);
        }
        Due.is("led(0, false) is of these alone", x.led(0, false), 60);
    }
}
