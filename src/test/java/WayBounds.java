/** Ways, how soon one is in, what he could do, and the cell to be lost in the longest. */
final class WayBounds {
    private static final String WALL = "trees 4;trees 12;trees 20;trees 36;trees 44;trees 52;trees 60";

    private WayBounds() {
    }

    static void run() {
        path();
        soon();
        by();
        best();
        allIn();
        should();
        shouldNone();
        calls();
        callsAtMost();
        callsAsNow();
        first();
        can();
        lost();
        lostByWhom();
    }

    /** Trees in all cells but the fire's. */
    static LostRound onlyTheFire() {
        LostRound x = Due.told("part 00000000");
        for (int cell = 0; cell < 64; cell++) {
            if (cell != 27) {
                x.plant(cell, true);
            }
        }
        return x;
    }

    /** Thirteen off, and nearer every eighth beat: from beat 1 he is in by 100, from beat 0 by 101. */
    static LostRound byAHundred(int beat) {
        return Due.told("part 77770777;fire 0;boy at 62 sings 0 ear 15;beat " + beat);
    }

    private static void path() {
        Doc.says("PATH of two CELLS: the fewest STEPS to SIDES from the one to the other one; none (also with TREES in one of them).");
        LostRound x = new LostRound();
        Due.is("path(0, 0)", x.path(0, 0), 0);
        Due.is("path(63, 63)", x.path(63, 63), 0);
        Due.is("path(0, 63)", x.path(0, 63), 14);
        Due.is("path(63, 0)", x.path(63, 0), 14);
        Due.is("path(7, 56)", x.path(7, 56), 14);
        Due.is("path(0, 1)", x.path(0, 1), 1);
        Due.is("path(7, 8), no way over the edge", x.path(7, 8), 8);
        Due.is("path(8, 7), no way over the edge", x.path(8, 7), 8);
        Due.is("path(0, 56), nor from the first row to the last", x.path(0, 56), 7);
        Due.wood(x, WALL);
        Due.is("by the gap", x.path(3, 5), 8);
        x.plant(28, true);
        Due.is("no gap", x.path(3, 5), LostRound.NONE);
        Due.is("from trees", x.path(4, 5), LostRound.NONE);
        Due.is("to trees", x.path(5, 4), LostRound.NONE);
        Due.is("trees to the same", x.path(4, 4), LostRound.NONE);
        Due.is("trees to trees", x.path(4, 12), LostRound.NONE);
        Due.is("beside the wall", x.path(0, 59), 10);
        LostRound fire = onlyTheFire();
        Due.is("the fire to itself", fire.path(27, 27), 0);
        Due.is("the fire to trees", fire.path(27, 28), LostRound.NONE);
        Due.is("a winding way", winding().path(56, 63), 7 + 2 + 7 + 2 + 7 + 2 + 7 + 1);
    }

    /** One way alone, up, down, up and down. */
    private static LostRound winding() {
        LostRound x = Due.told("fire 0");
        int[] trees = {9, 17, 25, 33, 41, 49, 57, 3, 11, 19, 27, 35, 43, 51, 13, 21, 29, 37, 45, 53, 61, 7, 15, 23, 31, 39, 47, 55};
        for (int cell : trees) {
            x.plant(cell, true);
        }
        return x;
    }

    private static void soon() {
        Doc.says("SOON of a BOY: the first N (0 to 100) AHEAD by which he is IN; none.");
        LostRound x = Due.told("part 00000000;part 70000000;boy at 27 sings 0 ear 0;boy at 28 sings 0 ear 15;boy at 28 sings 1 ear 15");
        Due.is("in: by 0", x.soon(0), 0);
        Due.is("beside it: by 1", x.soon(1), 1);
        Due.is("beside it, not by the first note", x.soon(2), 2);
        LostRound y = byAHundred(1);
        Due.is("by 100", y.soon(0), 100);
        Due.is("not by 99", y.ahead(0, 99) == y.count(4), false);
        Due.is("by 101: none", byAHundred(0).soon(0), LostRound.NONE);
        Due.is("to and fro, but nearer by one each time", Due.told("part 27777744;boy at 29 sings 0 ear 15").soon(0), 16);
        LostRound z = Due.told("part 22224444;boy at 0 sings 0 ear 15;loud 15");
        Due.is("to and fro: none", z.soon(0), LostRound.NONE);
    }

    private static void by() {
        Doc.says("BY of a BOY and a PART: SOON, if he sang that PART.");
        LostRound x = Due.told("part 77777777;part 77770777;part 44444444;fire 0;boy at 62 sings 0 ear 15;boy at 0 sings 0 ear 0;boy at 1 sings 0 ear 15;beat 1");
        Due.is("by(0, 0): none", x.by(0, 0), LostRound.NONE);
        Due.is("by(0, 1): by 100", x.by(0, 1), 100);
        Due.is("by(0, 2): none", x.by(0, 2), LostRound.NONE);
        Due.is("by(2, 2): by 1", x.by(2, 2), 1);
        Due.is("by(1, 0), who is in", x.by(1, 0), 0);
        Due.is("by(1, 2), who is in", x.by(1, 2), 0);
        Due.law(x, "stay if part > 1");
        Due.is("the law asks for that part", x.by(2, 2), LostRound.NONE);
        Due.is("he sings as he did", x.boy(2, 1), 0);
        Due.wood(x, "beat 0");
        Due.is("by(0, 1): by 101", x.by(0, 1), LostRound.NONE);
    }

    private static void best() {
        Doc.says("BEST of a BOY: the PART by which SOON is the least (of several the least; none, if he comes IN by none).");
        LostRound x = Due.told("part 77777777;part 07777777;part 22222222;part 00000000;part 44444444;part 70000000"
            + ";boy at 24 sings 5 ear 15;boy at 27 sings 5 ear 0;boy at 0 sings 0 ear 0;boy at 28 sings 0 ear 15");
        Due.is("of 2 and 3, both by 3, the least", x.best(0), 2);
        Due.is("in: by all, the least", x.best(1), 0);
        Due.is("by none", x.best(2), LostRound.NONE);
        Due.is("of 1, 3 and 4, all by 1, the least", x.best(3), 1);
        x.tune(1, 0, 7);
        Due.is("of 3 and 4, both by 1, the least", x.best(3), 3);
        Due.is("by 100", byAHundred(1).best(0), 0);
        Due.is("by 101", byAHundred(0).best(0), LostRound.NONE);
    }

    private static void allIn() {
        Doc.says("ALL IN: the first N AHEAD by which all BOYS are IN; none.");
        LostRound x = new LostRound();
        Due.is("without boys", x.all(), 0);
        Due.wood(x, "part 00000000;boy at 27 sings 0 ear 0;boy at 27 sings 0 ear 0");
        Due.is("all in", x.all(), 0);
        Due.wood(x, "boy at 28 sings 0 ear 15");
        Due.is("by 1", x.all(), 1);
        Due.wood(x, "boy at 0 sings 0 ear 15;boy at 29 sings 0 ear 15");
        Due.is("by the latest", x.all(), 6);
        Due.wood(x, "boy at 63 sings 0 ear 0");
        Due.is("by all but the last", x.all(), LostRound.NONE);
        x.call(5);
        Due.is("with him in", x.all(), 6);
        Due.is("by 100", byAHundred(1).all(), 100);
        Due.is("by 101", byAHundred(0).all(), LostRound.NONE);
    }

    private static void should() {
        Doc.says("SHOULD: THE FIRE's CELL (without TREES) by which the PATHS from all BOYS who are not IN to it are together the least "
            + "(all reached; of several the least;");
        LostRound x = Due.told("part 00000000;boy at 63 sings 0 ear 0");
        Due.is("of one: where he is", x.should(), 63);
        Due.wood(x, "boy at 61 sings 0 ear 0");
        Due.is("of 61, 62 and 63 the least", x.should(), 61);
        Due.wood(x, "boy at 0 sings 0 ear 0");
        Due.is("the one amid three", x.should(), 61);
        x.call(2);
        x.call(1);
        Due.is("who is in does not count", x.should(), 63);
        x.send(1, 8);
        x.send(0, 10);
        Due.is("of 8, 9 and 10 the least", x.should(), 8);
        x.plant(9, true);
        Due.is("round trees: of several the least", x.should(), 0);
        x.send(2, 1);
        Due.is("the one amid three round trees", x.should(), 1);
        Due.is("the fire stays", x.count(4), 27);
        x.send(2, 11);
        x.send(1, 10);
        x.send(0, 18);
        Due.is("beside three, where one is", x.should(), 10);
        x.send(1, 19);
        x.call(0);
        x.send(0, 26);
        Due.is("beside the fire", x.should(), 19);
    }

    private static void shouldNone() {
        Doc.says("none without such BOYS, or CELLS).");
        LostRound x = new LostRound();
        Due.is("without boys", x.should(), LostRound.NONE);
        Due.wood(x, "part 00000000;boy at 27 sings 0 ear 0");
        Due.is("without one who is not in", x.should(), LostRound.NONE);
        Due.wood(x, "boy at 0 sings 0 ear 0;boy at 63 sings 0 ear 0;trees 1;trees 8");
        Due.is("from a corner shut off", x.should(), LostRound.NONE);
        x.call(2);
        Due.is("in that corner alone", x.should(), 0);
        x.send(2, 0);
        Due.is("both there", x.should(), 0);
        Due.is("all trees but the fire", onlyTheFire().should(), LostRound.NONE);
    }

    private static void calls() {
        Doc.says("CALLS of a BOY: the fewest BEATS in which he could be IN, if in each BEAT he had whatever NOTE of 0 to 7");
        LostRound x = Due.told("part 77777777;boy at 27 sings 0 ear 0;boy at 28 sings 0 ear 15;boy at 63 sings 0 ear 15;boy at 0 sings 0 ear 0;trees 1;trees 8;loud 0");
        Due.is("in: 0", x.calls(0), 0);
        Due.is("beside it: 1", x.calls(1), 1);
        Due.is("eight off: 8", x.calls(2), 8);
        Due.is("one who does not hear: none", x.calls(3), LostRound.NONE);
        x.loud(15);
        Due.is("one shut in: none", x.calls(3), LostRound.NONE);
        LostRound y = Due.told("part 77777777;boy at 0 sings 0 ear 15;boy at 63 sings 0 ear 15");
        Due.law(y, "stay if not silent");
        Due.is("by silences from the first cell", y.calls(0), 6);
        Due.is("by silences from the last cell", y.calls(1), 8);
        Due.law(y, "stay if silent");
        Due.is("by sides from the first cell", y.calls(0), 6);
        Due.is("by sides from the last cell", y.calls(1), 8);
        x.plant(8, false);
        Due.is("from the corner by the gap", x.calls(3), 6);
        Due.is("nothing is sung", x.count(7), 0);
    }

    private static void callsAtMost() {
        Doc.says("one who does not HEAR stays where he is; at most 64): how many; none;");
        // He is led in beat 0 alone: eight off he is in by 57 from beat 0, by 64 from beat 1; nine off by 65.
        LostRound x = Due.told("part 77777777;fire 19;boy at 55 sings 0 ear 15;boy at 63 sings 0 ear 15;boy at 20 sings 0 ear 15");
        Due.law(x, "near 20 if beat > 0");
        Due.is("57", x.calls(0), 57);
        Due.is("65: none", x.calls(1), LostRound.NONE);
        Due.is("first of 65: none", x.first(1), LostRound.NONE);
        Due.is("1", x.calls(2), 1);
        Due.wood(x, "beat 1");
        Due.is("64", x.calls(0), 64);
        Due.is("first of 64: he does not hear", x.first(0), 0);
        Due.is("8", x.calls(2), 8);
        Due.law(x, "stay if beat > 0");
        Due.is("64, staying", x.calls(0), 64);
        Due.wood(x, "beat 7");
        Due.is("58", x.calls(0), 58);
    }

    private static void callsAsNow() {
        Doc.says("(from his CELL, LOUD, BEAT and all else as now; HEARS, STAYS asked each time; BEAT goes on;");
        LostRound x = Due.told("part 77777777;boy at 31 sings 0 ear 2;loud 1");
        Due.is("he does not hear by three", x.calls(0), LostRound.NONE);
        x.loud(2);
        Due.is("by four", x.calls(0), 4);
        Due.law(x, "near 20 if x < 6");
        Due.is("hears is asked in each cell", x.calls(0), LostRound.NONE);
        Due.law(x, "stay if x < 6 and beat < 3");
        Due.is("stays is asked in each beat", x.calls(0), 5);
        Due.law(x, "stay if not silent;near 20 if silent and away < 3");
        Due.is("the note is asked each time", x.calls(0), LostRound.NONE);
        Due.law(x, "stay if not silent and away > 2;near 20 if silent and away < 3");
        Due.is("first silences, then sides", x.calls(0), 4);
    }

    private static void first() {
        Doc.says("FIRST of these: the least NOTE with which such a row begins; none (also if he is IN).");
        LostRound x = Due.told("part 77777777;boy at 27 sings 0 ear 15;boy at 0 sings 0 ear 15;boy at 63 sings 0 ear 0;loud 0");
        Due.is("in: none", x.first(0), LostRound.NONE);
        Due.is("one who does not hear: none", x.first(2), LostRound.NONE);
        Due.is("a silence leads as well as a side", x.first(1), 0);
        Due.law(x, "stay if silent");
        int[][] from = {{35, 1}, {26, 2}, {19, 3}, {28, 4}, {0, 2}, {7, 3}, {56, 1}, {63, 1}, {24, 2}, {31, 4}};
        for (int[] row : from) {
            x.send(1, row[0]);
            Due.is("a side from " + row[0], x.first(1), row[1]);
        }
        // In one beat alone a side leads, in all others a silence.
        for (int beat = 0; beat <= 7; beat++) {
            LostRound z = Due.told("part 77777777;boy at 29 sings 0 ear 15;beat " + beat);
            String now = "beat + 1 > " + beat + " and beat < " + (beat + 1);
            Due.law(z, "stay if silent and " + now + ";stay if not silent and not (" + now + ")");
            Due.is("calls from beat " + beat, z.calls(0), 2);
            Due.is("first of beat " + beat, z.first(0), 4);
            Due.law(z, "stay if not silent and " + now + ";stay if silent and not (" + now + ")");
            Due.is("first of beat " + beat + ", the other way round", z.first(0), 0);
            // Led in two beats alone, this one and the next.
            Due.law(z, "stay if not (" + now + ") and not (" + (beat == 7 ? "beat < 1" : "beat > " + beat + " and beat < " + (beat + 2)) + ")");
            Due.is("calls by two beats", z.calls(0), 2);
            Due.is("first of two beats", z.first(0), 0);
            Due.is("can by two beats", z.can(0, 2), 13);
        }
        // In beat 0 a silence leads him into ferns, where he would be deaf for ever, and no side leads.
        LostRound y = Due.told("part 77777777;boy at 29 sings 0 ear 0;ferns 28 9");
        Due.law(y, "stay if not silent and beat < 1");
        Due.is("round the ferns, a beat later", y.calls(0), 5);
        Due.is("the least note by which he stays", y.first(0), 1);
        Due.law(y, "");
        Due.is("round the ferns at once", y.calls(0), 4);
        Due.is("up", y.first(0), 1);
    }

    private static void can() {
        Doc.says("CAN of a BOY in N BEATS (0 to 16) likewise: CELLS in which he can be behind N of them (IN he stays): how many.");
        LostRound x = Due.told("part 77777777;boy at 28 sings 0 ear 15;boy at 27 sings 0 ear 15;boy at 0 sings 0 ear 0;loud 0");
        int[] due = {1, 5, 12, 23};
        for (int n = 0; n < due.length; n++) {
            Due.is("can(0, " + n + ")", x.can(0, n), due[n]);
        }
        Due.is("all cells by 16", x.can(0, 16), 64);
        Due.is("in he stays", x.can(1, 16), 1);
        Due.is("who does not hear stays", x.can(2, 16), 1);
        Due.fails("can(0, 17)", Due.ARGUMENT, () -> x.can(0, 17));
        Due.fails("can(0, -1)", Due.ARGUMENT, () -> x.can(0, -1));
        // A row between trees, with the fire amid it: none goes past it.
        LostRound y = Due.told("part 77777777;boy at 0 sings 0 ear 15;fire 4;trees 8;trees 9;trees 10;trees 11;trees 12;trees 13;trees 14;trees 15");
        for (int n = 0; n <= 16; n++) {
            Due.is("can(0, " + n + ") in a row", y.can(0, n), Math.min(n, 4) + 1);
        }
        Due.law(y, "stay if beat > 0");
        Due.is("can(0, 8) by one beat of eight", y.can(0, 8), 2);
        Due.is("can(0, 9) by two", y.can(0, 9), 3);
        Due.is("can(0, 16) by two", y.can(0, 16), 3);
        Due.wood(y, "beat 1");
        Due.is("can(0, 7) by none", y.can(0, 7), 1);
        Due.is("can(0, 16) by two", y.can(0, 16), 3);
    }

    private static void lost() {
        Doc.says("LOST of a PART and EAR: the CELL without TREES from which a BOY with these");
        LostRound x = Due.told("part 00000000;part 77777777;part 77770777;loud 0");
        Due.is("the farthest of all who hear", x.lost(0, 15), 63);
        Due.is("of several who do not, the least", x.lost(0, 0), 0);
        Due.is("the one of eight off, who does not hear by 7", x.lost(0, 7), 63);
        Due.is("of those who never come, the least", x.lost(1, 15), 0);
        x.plant(0, true);
        Due.is("never trees", x.lost(1, 15), 1);
        Due.is("the fire alone", onlyTheFire().lost(0, 15), 27);
        Due.is("of several by 7, the least", Due.told("part 00000000;trees 63").lost(0, 15), 7);
        Doc.says("(of several the least; one from which he is not by 100 is later than all others; from THE FIRE by 0).");
        LostRound y = Due.told("part 77770777;fire 0;beat 1");
        Due.is("by 108 from 63: later than all others", y.lost(0, 15), 63);
        y.plant(63, true);
        Due.is("by 100 from 55 and 62: the least", y.lost(0, 15), 55);
        y.plant(55, true);
        Due.is("by 100 from 62", y.lost(0, 15), 62);
        Due.wood(y, "beat 0");
        Due.is("by 101 from 62: later than all others", y.lost(0, 15), 62);
        y.plant(63, false);
        Due.is("of two from which he is not, the least", y.lost(0, 15), 62);
        // The fire in 0 is by 0, so none is earlier.
        LostRound z = Due.told("part 00000000;fire 0");
        Due.is("not from the fire", z.lost(0, 15), 63);
    }

    private static void lostByWhom() {
        Doc.says("(his number: how many BOYS there are; BAD 0) would be IN the latest AHEAD");
        LostRound x = Due.told("part 00000000;part 00000000;fire 0;loud 15");
        Due.law(x, "stay if boy > 0 or boy + 1 < 1");
        Due.is("as boy 0", x.lost(0, 15), 63);
        Due.wood(x, "boy at 9 sings 0 ear 0");
        Due.is("as boy 1", x.lost(0, 15), 1);
        Due.law(x, "stay if boy < 1 or boy > 1");
        Due.is("as boy 1 alone", x.lost(0, 15), 63);
        Due.wood(x, "boy at 9 sings 0 ear 0;".repeat(4) + "boy at 9 sings 0 ear 0");
        Due.law(x, "stay if boy < 6 or boy > 6");
        Due.is("as boy 6 of six", x.lost(0, 15), 63);
        Due.law(x, "stay if bad > 0");
        Due.is("with bad 0", x.lost(0, 15), 63);
        Due.law(x, "stay if part < 1 or ear < 9 or ear > 9");
        Due.is("with the part and the ear asked for", x.lost(1, 9), 63);
        Due.is("with another part", x.lost(0, 9), 1);
        Due.is("with another ear", x.lost(1, 10), 1);
    }
}
