import java.util.NoSuchElementException;

/** Promises 7 to 9, 44 to 49, 51 and 61: what there is, and the wood at a glance. */
final class WoodTest {
    public static void main(String[] args) {
        cells();
        notes();
        boys();
        shares();
        counts();
        glance();
        twins();
        Due.close("WoodTest");
    }

    private static void cells() {
        LostRound x = Due.told("trees 3;ferns 3 4;ferns 63 9");
        Due.is("cell(3, 0)", x.cell(3, 0), 1);
        Due.is("cell(4, 0)", x.cell(4, 0), 0);
        Due.is("cell(3, 1)", x.cell(3, 1), 4);
        Due.is("cell(4, 1)", x.cell(4, 1), 0);
        Due.is("cell(0, 2)", x.cell(0, 2), 6);
        Due.is("cell(7, 2)", x.cell(7, 2), 7);
        Due.is("cell(63, 2)", x.cell(63, 2), 8);
        Due.is("cell(27, 2)", x.cell(27, 2), 0);
        x.fire(0);
        Due.is("cell(63, 2) from 0", x.cell(63, 2), 14);
        Due.fails("cell(-1, 0)", IndexOutOfBoundsException.class, () -> x.cell(-1, 0));
        Due.fails("cell(64, 9)", IndexOutOfBoundsException.class, () -> x.cell(64, 9));
        Due.fails("cell(0, 3)", NoSuchElementException.class, () -> x.cell(0, 3));
        Due.fails("cell(0, -1)", NoSuchElementException.class, () -> x.cell(0, -1));
    }

    private static void notes() {
        LostRound x = Due.told("part 01234567;part 77777777");
        Due.is("note(0, 0)", x.note(0, 0), 0);
        Due.is("note(0, 7)", x.note(0, 7), 7);
        Due.is("note(1, 0)", x.note(1, 0), 7);
        Due.fails("note(2, 0)", IndexOutOfBoundsException.class, () -> x.note(2, 0));
        Due.fails("note(-1, 0)", IndexOutOfBoundsException.class, () -> x.note(-1, 0));
        Due.fails("note(0, 8)", IndexOutOfBoundsException.class, () -> x.note(0, 8));
        Due.fails("note(0, -1)", IndexOutOfBoundsException.class, () -> x.note(0, -1));
    }

    private static void boys() {
        LostRound x = Due.told("part 00000000;part 33333333;boy at 9 sings 1 ear 0;boy at 27 sings 0 ear 15;boy at 0 sings 0 ear 1");
        int[][] due = {{9, 1, 0, 0, 0, 4, 1, 17, 0}, {27, 0, 15, 1, 0, 0, 0, 27, 0}, {0, 0, 1, 0, 0, 6, 0, 0, 0}};
        for (int boy = 0; boy < 3; boy++) {
            for (int what = 0; what < 9; what++) {
                Due.is("boy(" + boy + ", " + what + ")", x.boy(boy, what), due[boy][what]);
            }
        }
        Due.fails("boy(3, 0)", IndexOutOfBoundsException.class, () -> x.boy(3, 0));
        Due.fails("boy(-1, 9)", IndexOutOfBoundsException.class, () -> x.boy(-1, 9));
        Due.fails("boy(0, 9)", NoSuchElementException.class, () -> x.boy(0, 9));
        Due.fails("boy(0, -1)", NoSuchElementException.class, () -> x.boy(0, -1));
    }

    /** By stray 100 whoever does not hear goes astray in each beat. */
    private static void shares() {
        LostRound x = Due.told("part 00000000;boy at 36 sings 0 ear 0;boy at 0 sings 0 ear 0;loud 0;stray 100");
        x.sing(2);
        Due.is("share of one of two", x.boy(0, 8), 50);
        x.call(1);
        x.sing(1);
        Due.is("bad(0)", x.boy(0, 4), 3);
        Due.is("three of five", x.boy(0, 8), 60);
        Due.is("two of five", x.boy(1, 8), 40);
        x.sing(1);
        Due.is("four of six, rounded down", x.boy(0, 8), 66);
        Due.is("two of six, rounded down", x.boy(1, 8), 33);
        Due.is("worst()", x.worst(), 0);
    }

    private static void counts() {
        LostRound x = Due.told("part 00000000;part 11111111;boy at 27 sings 0 ear 0;boy at 26 sings 0 ear 1;fire 28", "ferns 1 2;ferns 2 3",
            "loud 9;stray 8;beat 7;night 6");
        Due.law(x, "far 1;near 1");
        x.loud(10);
        x.loud(11);
        int[] due = {2, 2, 3, 2, 28, 11, 8, 7, 6, 5, 1, 0, 2};
        for (int what = 0; what < due.length; what++) {
            Due.is("count(" + what + ")", x.count(what), due[what]);
        }
        Due.is("count(-1)", x.count(-1), -1);
        Due.is("count(13)", x.count(13), -1);
        x.sing(2);
        Due.is("rows of the log", x.count(11), 1);
        Due.is("both are in", x.count(10), 3);
        Due.is("beat behind 7", x.count(7), 1);
        Due.is("night behind it", x.count(8), 7);
    }

    private static void glance() {
        LostRound x = new LostRound();
        Due.is("dense() of none", x.dense(), 0);
        Due.is("ferny() of none", x.ferny(), -1);
        Due.is("out() of none", x.out(), 0);
        Due.is("hearing() of none", x.hearing(), 0);
        Due.is("far() of none", x.far(), -1);
        Due.is("worst() of none", x.worst(), -1);
        Due.wood(x, "part 00000000;boy at 26 sings 0 ear 0;boy at 63 sings 0 ear 3;boy at 27 sings 0 ear 9;boy at 63 sings 0 ear 4");
        Due.wood(x, "trees 1;trees 2;trees 8;ferns 40 3;ferns 41 5;ferns 42 5;ferns 1 4");
        LostRound y = Due.told("ferns 0 1");
        Due.is("ferny() of one fern in 0", y.ferny(), 0);
        Due.is("far() of boy 0", Due.told("part 00000000;boy at 0 sings 0 ear 0;boy at 26 sings 0 ear 0").far(), 0);
        LostRound z = Due.told("part 00000000;boy at 26 sings 0 ear 9;boy at 0 sings 0 ear 0;loud 0;stray 100");
        z.sing(1);
        Due.is("worst() of bad 1", z.worst(), 1);
        Due.is("dense()", x.dense(), 3);
        Due.is("ferny()", x.ferny(), 41);
        Due.is("out()", x.out(), 0b1011);
        Due.is("hearing()", x.hearing(), 0b1001);
        Due.is("far()", x.far(), 1);
        Due.is("worst()", x.worst(), -1);
        x.call(1);
        Due.is("far() when he is in", x.far(), 3);
        x.call(3);
        x.call(0);
        Due.is("far() when all are in", x.far(), -1);
        Due.is("out() when all are in", x.out(), 0);
        Due.is("hearing() when all are in", x.hearing(), 0);
    }

    private static void twins() {
        LostRound x = Due.told("part 00000000;part 00000000;boy at 1 sings 0 ear 3;boy at 2 sings 0 ear 3;boy at 3 sings 1 ear 3");
        Due.is("twins()", x.twins(), 1);
        Due.wood(x, "boy at 27 sings 0 ear 3;boy at 4 sings 0 ear 2;boy at 4 sings 1 ear 3");
        Due.is("twins() of three and of two", x.twins(), 4);
        Due.is("twins() of none", new LostRound().twins(), 0);
    }
}
