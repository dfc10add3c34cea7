/** Promises 37 to 43 and 50: boys who meet, whom to sing for, watchers, pieces of the wood, choices and odds. */
final class BoysTest {
    public static void main(String[] args) {
        meet();
        sooner();
        loudest();
        watch();
        clearings();
        splits();
        rests();
        odds();
        Due.close("BoysTest");
    }

    private static void meet() {
        LostRound x = Due.told("part 00000000;part 77777777;boy at 24 sings 0 ear 15;boy at 30 sings 0 ear 15"
            + ";boy at 25 sings 1 ear 15;boy at 27 sings 0 ear 0;boy at 25 sings 0 ear 15;boy at 59 sings 0 ear 15");
        Due.is("meet(0, 1) at the fire", x.meet(0, 1), 3);
        Due.is("meet(0, 2) on the way", x.meet(0, 2), 1);
        Due.is("meet(2, 0)", x.meet(2, 0), 1);
        Due.is("meet(0, 3) who is in", x.meet(0, 3), 3);
        Due.is("meet(2, 4) now", x.meet(2, 4), 0);
        Due.is("meet(0, 4): not together ahead of the fire", x.meet(0, 4), 3);
        Due.is("meet(1, 2): never", x.meet(1, 2), -1);
        Due.is("meet(0, 5)", x.meet(0, 5), 4);
        LostRound y = Due.told("part 77770777;fire 0;boy at 62 sings 0 ear 15;boy at 0 sings 0 ear 15;beat 1");
        Due.is("meet by 100", y.meet(0, 1), 100);
        Due.wood(y, "beat 0");
        Due.is("meet by 101: none", y.meet(0, 1), -1);
        Due.fails("meet(0, 0)", IllegalArgumentException.class, () -> x.meet(0, 0));
        Due.fails("meet(6, 6)", IndexOutOfBoundsException.class, () -> x.meet(6, 6));
        Due.fails("meet(0, 6)", IndexOutOfBoundsException.class, () -> x.meet(0, 6));
        Due.fails("meet(-1, 0)", IndexOutOfBoundsException.class, () -> x.meet(-1, 0));
        Due.fails("meet(0, -1)", IndexOutOfBoundsException.class, () -> x.meet(0, -1));
    }

    private static void sooner() {
        LostRound x = new LostRound();
        Due.is("sooner() of none", x.sooner(), -1);
        Due.wood(x, "part 00000000;part 77777777;boy at 27 sings 0 ear 0;boy at 28 sings 1 ear 0;loud 0");
        Due.is("sooner() of one in, and one who stays", x.sooner(), -1);
        Due.wood(x, "boy at 63 sings 0 ear 0;boy at 31 sings 0 ear 0;boy at 59 sings 0 ear 0");
        Due.is("sooner(): of several the least", x.sooner(), 3);
        Due.is("loud is as it was", x.count(5), 0);
        Due.wood(x, "fire 0;boy at 9 sings 0 ear 0");
        Due.is("sooner() from another fire", x.sooner(), 5);
        LostRound y = Due.told("part 00000000;fire 0;boy at 63 sings 0 ear 0;boy at 62 sings 0 ear 0;loud 0;ferns 63 2");
        Due.is("sooner(): loud 15 less two of fourteen", y.sooner(), 1);
        LostRound z = Due.told("part 77770777;fire 0;boy at 62 sings 0 ear 15;boy at 63 sings 0 ear 15;beat 1");
        Due.is("sooner() by 100", z.sooner(), 0);
        Due.is("loudest() with one by 108", z.loudest(), -1);
        z.call(1);
        Due.is("loudest() with one by 100", z.loudest(), 0);
        Due.wood(z, "beat 0");
        Due.is("sooner() by 101: none", z.sooner(), -1);
        Due.is("loudest() with one by 101", z.loudest(), -1);
    }

    private static void loudest() {
        LostRound x = new LostRound();
        Due.is("loudest() of none", x.loudest(), 0);
        Due.wood(x, "part 00000000;part 77777777;boy at 31 sings 0 ear 0");
        Due.is("loudest()", x.loudest(), 4);
        Due.wood(x, "boy at 63 sings 0 ear 2");
        Due.is("loudest() of two", x.loudest(), 6);
        Due.is("loud is as it was", x.count(5), 4);
        Due.wood(x, "boy at 63 sings 1 ear 15");
        Due.is("loudest() with one who stays", x.loudest(), -1);
        x.call(2);
        Due.is("loudest() with him in", x.loudest(), 6);
        LostRound y = Due.told("part 00000000;fire 0;boy at 63 sings 0 ear 0;ferns 63 1");
        Due.is("loudest() 15", y.loudest(), 15);
        Due.wood(y, "ferns 63 2");
        Due.is("loudest() more than 15", y.loudest(), -1);
    }

    private static void watch() {
        LostRound x = new LostRound();
        Due.is("watch() of none", x.watch(), 0);
        Due.wood(x, "part 00000000;boy at 27 sings 0 ear 0");
        Due.is("watch() of one in", x.watch(), 0);
        Due.wood(x, "boy at 0 sings 0 ear 0;boy at 3 sings 0 ear 0;boy at 6 sings 0 ear 0");
        Due.is("watch() by the one amid", x.watch(), 0b100);
        Due.wood(x, "boy at 63 sings 0 ear 0");
        Due.is("watch() by two", x.watch(), 0b10100);
        Due.wood(x, "boy at 7 sings 0 ear 0");
        Due.is("watch() by three: of several the least", x.watch(), 0b11010);
        Due.is("watch() of near ones", Due.told("part 00000000;boy at 0 sings 0 ear 0;boy at 10 sings 0 ear 0").watch(), 1);
        Due.is("watch() of far ones", Due.told("part 00000000;boy at 0 sings 0 ear 0;boy at 18 sings 0 ear 0").watch(), 3);
    }

    private static void clearings() {
        LostRound x = new LostRound();
        Due.is("clearings() without trees", x.clearings(), 1);
        Due.wood(x, "trees 4;trees 12;trees 20;trees 36;trees 44;trees 52;trees 60");
        Due.is("clearings() with a gap", x.clearings(), 1);
        x.plant(28, true);
        Due.is("clearings() of a wall", x.clearings(), 2);
        Due.wood(x, "trees 6;trees 15;trees 48;trees 57");
        Due.is("clearings() with corners cut off", x.clearings(), 4);
        x.plant(7, true);
        Due.is("clearings() with one filled", x.clearings(), 3);
        Due.is("clearings() of a corner", Due.told("trees 1;trees 8").clearings(), 2);
    }

    private static void splits() {
        LostRound x = Due.told("trees 4;trees 12;trees 20;trees 36;trees 44;trees 52;trees 60");
        Due.is("splits() without boys", x.splits(), 0);
        Due.wood(x, "part 00000000;boy at 27 sings 0 ear 0;boy at 24 sings 0 ear 0");
        Due.is("splits() of boys on one side", x.splits(), 0);
        Due.wood(x, "boy at 31 sings 0 ear 0");
        Due.is("splits(): the gap and the cell behind it", x.splits(), 2);
        Due.wood(x, "boy at 28 sings 0 ear 0");
        Due.is("splits() with a boy in the gap", x.splits(), 1);
        x.call(3);
        x.plant(28, true);
        Due.is("splits() of one who has no path", x.splits(), 0);
        LostRound y = Due.told("part 00000000;boy at 0 sings 0 ear 0;trees 1;boy at 0 sings 0 ear 0");
        // Out of the corner by 8 alone, and by 9 or 16 then.
        Due.is("splits() of two in a corner", y.splits(), 1);
        LostRound z = Due.told("part 00000000;boy at 1 sings 0 ear 0;fire 8;trees 9;trees 2");
        Due.is("splits(): the corner itself", z.splits(), 1);
    }

    private static void rests() {
        LostRound x = Due.told("part 00000000;boy at 63 sings 0 ear 0;boy at 27 sings 0 ear 0;boy at 26 sings 0 ear 0");
        Due.is("rests(0) at eight", x.rests(0), 9);
        Due.is("rests(1) in", x.rests(1), -1);
        Due.is("rests(2) at one", x.rests(2), 9);
        x.fire(26);
        Due.is("rests(0) at nine", x.rests(0), 8);
        x.fire(0);
        Due.is("rests(0) at fourteen", x.rests(0), 8);
        Due.fails("rests(3)", IndexOutOfBoundsException.class, () -> x.rests(3));
        Due.fails("rests(-1)", IndexOutOfBoundsException.class, () -> x.rests(-1));
    }

    private static void odds() {
        LostRound x = Due.told("part 00000000;boy at 63 sings 0 ear 0;boy at 27 sings 0 ear 0;boy at 26 sings 0 ear 0;stray 33");
        int[] due = {10000, 6700, 4489, 3007, 2014};
        for (int n = 0; n < due.length; n++) {
            Due.is("odds(0, " + n + ")", x.odds(0, n), due[n]);
            Due.is("odds(1, " + n + ") in", x.odds(1, n), 10000);
            Due.is("odds(2, " + n + ") who hears", x.odds(2, n), 10000);
        }
        Due.wood(x, "stray 100");
        Due.is("odds(0, 1) of stray 100", x.odds(0, 1), 0);
        Due.is("odds(0, 0) of stray 100", x.odds(0, 0), 10000);
        Due.wood(x, "stray 0");
        Due.is("odds(0, 4) of stray 0", x.odds(0, 4), 10000);
        Due.fails("odds(0, 5)", IllegalArgumentException.class, () -> x.odds(0, 5));
        Due.fails("odds(0, -1)", IllegalArgumentException.class, () -> x.odds(0, -1));
        Due.fails("odds(3, 5)", IndexOutOfBoundsException.class, () -> x.odds(3, 5));
        Due.fails("odds(-1, 0)", IndexOutOfBoundsException.class, () -> x.odds(-1, 0));
    }
}
