/** Boys who meet, whom to sing for, watchers, pieces of the wood, choices, odds and shares. */
final class BoyBounds {
    private static final String ROW = "trees 8;trees 9;trees 10;trees 11;trees 12;trees 13;trees 14;trees 15";

    private BoyBounds() {
    }

    static void run() {
        meet();
        sooner();
        loudest();
        watch();
        clearings();
        splits();
        rests();
        hearing();
        next();
        dense();
        ferny();
        out();
        farOff();
        worst();
        odds();
        share();
        twins();
    }

    private static void meet() {
        Doc.says("MEET of two BOYS: the first N (0 to 100) AHEAD by which both are in one CELL; none.");
        LostRound x = Due.told("part 00000000;part 77777777;boy at 9 sings 0 ear 15;boy at 9 sings 1 ear 15;boy at 10 sings 1 ear 15"
            + ";boy at 27 sings 1 ear 0;boy at 27 sings 1 ear 0;boy at 63 sings 1 ear 15");
        Due.is("in one cell now", x.meet(0, 1), 0);
        Due.is("by 1", x.meet(0, 2), 1);
        Due.is("of two who stay", x.meet(1, 2), LostRound.NONE);
        Due.is("at the fire", x.meet(0, 3), 4);
        Due.is("both in", x.meet(3, 4), 0);
        Due.is("never, with one at the fire", x.meet(3, 5), LostRound.NONE);
        Due.is("the other way round", x.meet(3, 0), 4);
        Due.fails("meet(3, 3)", Due.ARGUMENT, () -> x.meet(3, 3));
        Due.fails("meet(6, 6)", Due.INDEX, () -> x.meet(6, 6));
        for (int beat = 0; beat <= 1; beat++) {
            LostRound y = WayBounds.byAHundred(beat);
            Due.wood(y, "boy at 0 sings 0 ear 0");
            Due.is("from beat " + beat, y.meet(0, 1), beat == 1 ? 100 : LostRound.NONE);
        }
        // They go past one another: not in one cell at any time.
        LostRound z = Due.told("part 22222222;part 44444444;boy at 56 sings 0 ear 15;boy at 57 sings 1 ear 15;loud 15");
        Due.is("past one another", z.meet(0, 1), LostRound.NONE);
    }

    private static void sooner() {
        Doc.says("SOONER: the BOY who is not IN whom LOUD 15 would bring IN the soonest AHEAD (of several the least; none, if it brings none IN by 100).");
        LostRound x = new LostRound();
        Due.is("without boys", x.sooner(), LostRound.NONE);
        Due.wood(x, "part 00000000;loud 0;boy at 27 sings 0 ear 0");
        Due.is("with one who is in", x.sooner(), LostRound.NONE);
        Due.wood(x, "boy at 63 sings 0 ear 0;boy at 0 sings 0 ear 0;boy at 51 sings 0 ear 0;boy at 24 sings 0 ear 0");
        Due.is("of two by 3 the least", x.sooner(), 3);
        x.call(3);
        Due.is("the other one", x.sooner(), 4);
        x.call(4);
        x.call(2);
        Due.is("eight off", x.sooner(), 1);
        Due.wood(x, "ferns 63 7");
        Due.is("eight off by 15 less 7", x.sooner(), 1);
        Due.wood(x, "ferns 63 8");
        Due.is("eight off by 15 less 8", x.sooner(), LostRound.NONE);
        Due.is("LOUD stays", x.count(5), 0);
        LostRound y = WayBounds.byAHundred(1);
        Due.is("by 100", y.sooner(), 0);
        Due.is("by 101", WayBounds.byAHundred(0).sooner(), LostRound.NONE);
    }

    private static void loudest() {
        Doc.says("LOUDEST: the least LOUD (0 to 15) by which all BOYS are IN AHEAD by 100; none.");
        LostRound x = new LostRound();
        Due.is("without boys", x.loudest(), 0);
        Due.wood(x, "part 00000000;fire 0;boy at 0 sings 0 ear 0");
        Due.is("with all in", x.loudest(), 0);
        Due.wood(x, "boy at 63 sings 0 ear 14");
        Due.is("14 by ear alone", x.loudest(), 0);
        Due.wood(x, "boy at 63 sings 0 ear 13");
        Due.is("14 by 13 and 1", x.loudest(), 1);
        Due.wood(x, "boy at 63 sings 0 ear 0");
        Due.is("14 by 14", x.loudest(), 14);
        Due.wood(x, "ferns 63 1");
        Due.is("14 by 15 less 1", x.loudest(), 15);
        Due.wood(x, "ferns 63 2");
        Due.is("14 by 16 less 2", x.loudest(), LostRound.NONE);
        Due.is("LOUD stays", x.count(5), 4);
        Due.is("by 100", WayBounds.byAHundred(1).loudest(), 0);
        Due.is("by 101", WayBounds.byAHundred(0).loudest(), LostRound.NONE);
    }

    private static LostRound boysAt(int... cells) {
        StringBuilder text = new StringBuilder("part 00000000");
        for (int cell : cells) {
            text.append(";boy at ").append(cell).append(" sings 0 ear 0");
        }
        return Due.told(text.toString());
    }

    private static void watch() {
        Doc.says("WATCH: of sets of BOYS who are not IN the fewest so that each other one who is not IN is no farther than 3 (X and Y together) "
            + "from one of these: of several the least as bits.");
        Due.is("without boys", new LostRound().watch(), 0);
        Due.is("with all in", boysAt(27, 27).watch(), 0);
        Due.is("of one", boysAt(63).watch(), 0b1);
        Due.is("of one behind one in", boysAt(27, 63).watch(), 0b10);
        Due.is("three off along x", boysAt(0, 3).watch(), 0b1);
        Due.is("four off along x", boysAt(0, 4).watch(), 0b11);
        Due.is("three off along y", boysAt(0, 24).watch(), 0b1);
        Due.is("four off along y", boysAt(0, 32).watch(), 0b11);
        Due.is("three off along both", boysAt(0, 17).watch(), 0b1);
        Due.is("four off along both", boysAt(0, 18).watch(), 0b11);
        Due.is("not over the edge", boysAt(7, 8).watch(), 0b11);
        Due.is("in one cell", boysAt(5, 5, 5).watch(), 0b1);
        Due.is("one amid, of a higher number", boysAt(0, 6, 3).watch(), 0b100);
        Due.is("two pairs: of several the least", boysAt(0, 1, 62, 63).watch(), 0b101);
        Due.is("all six far off", boysAt(0, 4, 32, 36, 63, 15).watch(), 0b111111);
        Due.is("who is in does not watch", boysAt(24, 27, 30).watch(), 0b101);
        Due.is("nor is he watched", boysAt(0, 1, 27).watch(), 0b1);
        // By the first or the second one and the fourth, or by the second one and the fifth.
        Due.is("of several the least", boysAt(0, 3, 6, 15, 39).watch(), 0b01001);
        LostRound x = boysAt(0, 3);
        Due.wood(x, "trees 1;trees 2;trees 8");
        Due.is("whatever is between", x.watch(), 0b1);
    }

    private static void clearings() {
        Doc.says("CLEARINGS: into how many pieces the CELLS without TREES fall by SIDES.");
        LostRound x = new LostRound();
        Due.is("without trees", x.clearings(), 1);
        Due.is("the fire alone", WayBounds.onlyTheFire().clearings(), 1);
        for (int cell = 0; cell < 64; cell++) {
            if ((cell % 8 + cell / 8) % 2 == 1) {
                x.plant(cell, true);
            }
        }
        Due.is("like a board of two colours", x.clearings(), 32);
        Due.is("the first cell cut off", Due.told("trees 1;trees 8").clearings(), 2);
        Due.is("the last cell cut off", Due.told("trees 55;trees 62").clearings(), 2);
        LostRound y = Due.told("trees 6;trees 15");
        Due.is("a corner cut off: 7 and 8 are apart", y.clearings(), 2);
        Due.wood(y, "trees 48;trees 57");
        Due.is("two corners cut off", y.clearings(), 3);
        Due.wood(y, "trees 7;trees 56");
        Due.is("both filled", y.clearings(), 1);
    }

    private static void splits() {
        Doc.says("SPLITS: CELLS without TREES, not THE FIRE's, without BOYS who are not IN, "
            + "whose TREES would leave some BOY who is not IN without a PATH who has one now: how many.");
        LostRound x = Due.told(ROW + ";fire 4");
        Due.is("without boys", x.splits(), 0);
        Due.wood(x, "part 00000000;boy at 4 sings 0 ear 0");
        Due.is("with one in", x.splits(), 0);
        Due.wood(x, "boy at 0 sings 0 ear 0");
        Due.is("1, 2 and 3", x.splits(), 3);
        Due.wood(x, "boy at 2 sings 0 ear 0");
        Due.is("1 and 3, as he is in 2", x.splits(), 2);
        Due.wood(x, "boy at 5 sings 0 ear 0");
        Due.is("one beside the fire", x.splits(), 2);
        Due.wood(x, "boy at 63 sings 0 ear 0");
        Due.is("one who has none now", x.splits(), 2);
        x.send(3, 7);
        Due.is("5 and 6, too", x.splits(), 4);
        x.call(2);
        Due.is("and 2 again", x.splits(), 5);
        x.plant(9, false);
        Due.is("a gap in 9: the one below has a way by 17 and 9", x.splits(), 7);
        LostRound y = boysAt(0);
        Due.is("from a corner there are two ways", y.splits(), 0);
        y.plant(1, true);
        Due.is("from it there is one", y.splits(), 1);
        Due.wood(y, "boy at 0 sings 0 ear 0");
        Due.is("from it for two in one cell", y.splits(), 1);
        Due.is("by the first cell", Due.told("part 00000000;boy at 1 sings 0 ear 0;trees 2;trees 9;fire 8").splits(), 1);
        Due.is("by the last cell", Due.told("part 00000000;boy at 62 sings 0 ear 0;trees 61;trees 54;fire 55").splits(), 1);
    }

    private static void rests() {
        Doc.says("RESTS of a BOY who is not IN and THE FIRE: he goes by ear (0) or stays where he is (1), they sing (0) or are still (1), unseen: "
            + "going by song he has 9 less NEAR (below 0 too), by no song 0 less 3; staying he has 0 in silence, 1 by song; "
            + "they have 2 less by singing, and 5 more, if he goes by it, 1 less by being still: "
            + "choices (2 times his and theirs) from which neither would have more by its other one: as bits; none, if he is IN.");
        // Staying while they are still always rests; going by song does, as long as 9 less NEAR is no less than 1.
        LostRound x = Due.told("part 00000000;fire 0;boy at 1 sings 0 ear 0;boy at 0 sings 0 ear 0");
        for (int[] row : new int[][] {{1, 0b1001}, {7, 0b1001}, {56, 0b1001}, {57, 0b1001}, {15, 0b1001}, {58, 0b1000}, {23, 0b1000}, {62, 0b1000},
            {63, 0b1000}}) {
            x.send(0, row[0]);
            Due.is("rests from " + row[0], x.rests(0), row[1]);
        }
        Due.is("in: none", x.rests(1), LostRound.NONE);
    }

    private static void hearing() {
        Doc.says("HEARING: BOYS who are not IN and HEAR now, as bits.");
        LostRound x = boysAt(27, 31, 39, 0, 59, 27);
        Due.is("four off and nearer", x.hearing(), 0b010010);
        x.loud(5);
        Due.is("five off and nearer", x.hearing(), 0b010110);
        x.loud(0);
        Due.is("none", x.hearing(), 0);
        x.loud(15);
        Due.is("all who are not in", x.hearing(), 0b011110);
        Due.is("without boys", new LostRound().hearing(), 0);
    }

    private static void next() {
        Doc.says("NEXT of a BOY: the CELL in which he is AHEAD by 1.");
        LostRound x = boysAt(27, 31, 63, 28);
        int[] due = {27, 30, 63, 27};
        for (int boy = 0; boy < 4; boy++) {
            Due.is("next of boy " + boy, x.boy(boy, 7), due[boy]);
        }
    }

    private static void dense() {
        Doc.says("DENSE: how many CELLS have TREES.");
        LostRound x = new LostRound();
        Due.is("none", x.dense(), 0);
        Due.is("all but the fire's", WayBounds.onlyTheFire().dense(), 63);
        Due.wood(x, "trees 0;trees 63;trees 0");
        Due.is("two", x.dense(), 2);
    }

    private static void ferny() {
        Doc.says("FERNY: the CELL of the most FERNS (of several the least; none, if there are none).");
        LostRound x = new LostRound();
        Due.is("none", x.ferny(), LostRound.NONE);
        Due.wood(x, "ferns 63 1");
        Due.is("63 alone", x.ferny(), 63);
        Due.wood(x, "ferns 0 1");
        Due.is("of several the least", x.ferny(), 0);
        Due.wood(x, "ferns 62 2");
        Due.is("of the most", x.ferny(), 62);
        Due.wood(x, "ferns 62 0;ferns 63 0;ferns 0 0");
        Due.is("none again", x.ferny(), LostRound.NONE);
    }

    private static void out() {
        Doc.says("OUT: BOYS who are not IN, as bits.");
        Due.is("without boys", new LostRound().out(), 0);
        LostRound x = boysAt(0, 27, 1, 2, 3, 4);
        Due.is("all but one", x.out(), 0b111101);
        for (int boy : new int[] {0, 2, 3, 4, 5}) {
            x.call(boy);
        }
        Due.is("none", x.out(), 0);
        x.send(5, 63);
        Due.is("the last one", x.out(), 0b100000);
    }

    private static void farOff() {
        Doc.says("FAR OFF: the BOY who is not IN of the most NEAR (of several the least; none).");
        Due.is("without boys", new LostRound().far(), LostRound.NONE);
        Due.is("with all in", boysAt(27).far(), LostRound.NONE);
        LostRound x = boysAt(27, 28, 26, 63, 0, 63);
        Due.is("of two of eight the least", x.far(), 3);
        x.call(3);
        Due.is("the other one", x.far(), 5);
        x.call(5);
        Due.is("the one of six", x.far(), 4);
        x.call(4);
        Due.is("of two of one the least", x.far(), 1);
        x.fire(0);
        Due.is("by another fire", x.far(), 1);
        x.fire(29);
        Due.is("three off", x.far(), 2);
        Due.is("the first one", boysAt(0, 28).far(), 0);
        Due.is("of two of one cell the first one", boysAt(63, 63).far(), 0);
    }

    private static void worst() {
        Doc.says("WORST: the BOY of the most BAD (of several the least; none, if it is 0).");
        Due.is("without boys", new LostRound().worst(), LostRound.NONE);
        LostRound x = Due.told("part 00000000;boy at 30 sings 0 ear 15;boy at 0 sings 0 ear 0;boy at 63 sings 0 ear 0;trees 1;trees 8;trees 62;trees 55;loud 0;stray 100");
        Due.is("if it is 0", x.worst(), LostRound.NONE);
        x.sing(1);
        Due.is("of two of 1 the least", x.worst(), 1);
        x.call(1);
        x.sing(1);
        Due.is("of 2", x.worst(), 2);
        x.call(2);
        Due.is("he is in now", x.worst(), 2);
        LostRound y = TermBounds.shutIn();
        y.sing(1);
        Due.is("the first one, by 1", y.worst(), 0);
    }

    private static void odds() {
        Doc.says("ODDS of a BOY, N BEATS (0 to 4): that he, straying, goes nowhere in all of these (each by STRAY), in 10000, rounded down each time; "
            + "10000, if he is IN or HEARS now.");
        LostRound x = Due.told("part 00000000;boy at 63 sings 0 ear 0;boy at 27 sings 0 ear 0;boy at 31 sings 0 ear 0");
        int[][] rows = {{35, 6500, 4225, 2746, 1784}, {0, 10000, 10000, 10000, 10000}, {100, 0, 0, 0, 0}, {99, 100, 1, 0, 0}, {1, 9900, 9801, 9702, 9604},
            {50, 5000, 2500, 1250, 625}};
        for (int[] row : rows) {
            Due.wood(x, "stray " + row[0]);
            Due.is("odds(0, 0) by " + row[0], x.odds(0, 0), 10000);
            for (int n = 1; n <= 4; n++) {
                Due.is("odds(0, " + n + ") by " + row[0], x.odds(0, n), row[n]);
                Due.is("odds(1, " + n + ") of one who is in", x.odds(1, n), 10000);
                Due.is("odds(2, " + n + ") of one who hears", x.odds(2, n), 10000);
            }
        }
        Due.fails("odds(0, 5)", Due.ARGUMENT, () -> x.odds(0, 5));
        Due.fails("odds(0, -1)", Due.ARGUMENT, () -> x.odds(0, -1));
        Due.fails("odds(1, 5) of one who is in", Due.ARGUMENT, () -> x.odds(1, 5));
        x.loud(3);
        Due.is("odds(2, 1) when he hears no more", x.odds(2, 1), 5000);
    }

    private static void share() {
        Doc.says("SHARE of a BOY of BAD of all, in hundredths, rounded down (0 without).");
        LostRound x = Due.told("part 00000000;boy at 27 sings 0 ear 15;boy at 0 sings 0 ear 0;boy at 63 sings 0 ear 0;boy at 63 sings 0 ear 0"
            + ";trees 1;trees 8;trees 62;trees 55;loud 0;stray 100");
        Due.is("without", x.boy(1, 8), 0);
        x.sing(1);
        Due.is("one of three", x.boy(1, 8), 33);
        Due.is("none of three", x.boy(0, 8), 0);
        x.call(1);
        x.sing(1);
        Due.is("one of five", x.boy(1, 8), 20);
        Due.is("two of five", x.boy(3, 8), 40);
        x.call(2);
        x.sing(97);
        Due.is("99 of 102", x.boy(3, 8), 97);
        Due.is("two of 102", x.boy(2, 8), 1);
        Due.is("one of 102", x.boy(1, 8), 0);
        LostRound y = TermBounds.shutIn();
        y.sing(1);
        Due.is("one of one", y.boy(0, 8), 100);
        y.sing(110);
        Due.is("99 of 99", y.boy(0, 8), 100);
    }

    private static void twins() {
        Doc.says("TWINS: pairs of BOYS of one PART and one EAR: how many.");
        Due.is("without boys", new LostRound().twins(), 0);
        Due.is("of one", boysAt(0).twins(), 0);
        Due.is("of two", boysAt(0, 63).twins(), 1);
        Due.is("of six, one of whom is in", boysAt(0, 63, 1, 2, 27, 4).twins(), 15);
        LostRound x = Due.told("part 00000000;part 00000000;boy at 1 sings 0 ear 0;boy at 1 sings 0 ear 1;boy at 1 sings 1 ear 0");
        Due.is("of other ears or parts", x.twins(), 0);
        x.part(2, 0);
        Due.is("of one part now", x.twins(), 1);
    }
}
