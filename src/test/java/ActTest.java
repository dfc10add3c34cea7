/** Promises 10 to 17 and 55 to 60: acts, the log, the seed, acts undone, the image. */
final class ActTest {
    public static void main(String[] args) {
        singing();
        straying();
        strayingIn();
        fullLog();
        rowsOfSeveral();
        steps();
        fire();
        trees();
        partsAndNotes();
        calledAndSent();
        loud();
        undone();
        undoneByKind();
        forgotten();
        image();
        Due.close("ActTest");
    }

    private static void row(LostRound x, int ago, int... due) {
        for (int what = 0; what < 5; what++) {
            Due.is("log(" + ago + ", " + what + ")", x.log(ago, what), due[what]);
        }
    }

    private static void singing() {
        LostRound x = Due.told("part 00000000;part 22222222;boy at 24 sings 0 ear 15;boy at 63 sings 1 ear 15;night 3;beat 6");
        Due.is("sing(2)", x.sing(2), 0);
        Due.is("beat goes round", x.count(7), 0);
        Due.is("a night more", x.count(8), 4);
        Due.is("nearer", x.boy(0, 0), 26);
        Due.is("at the edge", x.boy(1, 0), 63);
        Due.is("sing(1)", x.sing(1), 1);
        Due.is("in", x.count(10), 1);
        row(x, 0, 4, 0, 0, 0, 27);
        Due.is("log(1, 0)", x.log(1, 0), -1);
        Due.is("sing(120)", x.sing(120), 0);
        Due.is("rows", x.count(11), 1);
        Due.is("led(0, false)", x.led(0, false), 1);
        Due.is("led(0, true)", x.led(0, true), 27);
        Due.is("led(1, false)", x.led(1, false), 0);
        Due.is("led(1, true)", x.led(1, true), -1);
        Due.is("no draw of those who hear", x.seed(1), 1);
        Due.fails("sing(0)", IllegalArgumentException.class, () -> x.sing(0));
        Due.fails("sing(121)", IllegalArgumentException.class, () -> x.sing(121));
        Due.fails("led(2, true)", IndexOutOfBoundsException.class, () -> x.led(2, true));
        Due.fails("led(-1, true)", IndexOutOfBoundsException.class, () -> x.led(-1, true));
        Due.fails("log(0, 5)", java.util.NoSuchElementException.class, () -> x.log(0, 5));
        Due.fails("log(99, -1)", java.util.NoSuchElementException.class, () -> x.log(99, -1));
        Due.is("log(-1, 0)", x.log(-1, 0), -1);
        Due.is("log(Integer.MAX_VALUE, 0)", x.log(Integer.MAX_VALUE, 0), -1);
        Due.is("sing without boys", new LostRound().sing(1), 0);
    }

    /**
     * From seed 1 the draws are 16838 5758, 10113 17515, 31051, 5627 23010, 7419 16212, 4086,
     * 2749 12767, 9084: down, left, no, down, up, no, left, no.
     */
    private static void straying() {
        LostRound x = Due.told("part 00000000;boy at 36 sings 0 ear 0;loud 0");
        int[] cells = {44, 43, 43, 51, 43, 43, 42, 42};
        int[] bad = {1, 2, 2, 3, 4, 4, 5, 5};
        for (int i = 0; i < 8; i++) {
            Due.is("sing(1)", x.sing(1), 0);
            Due.is("cell behind beat " + i, x.boy(0, 0), cells[i]);
            Due.is("bad behind beat " + i, x.boy(0, 4), bad[i]);
        }
        Due.is("rows", x.count(11), 5);
        row(x, 0, 0, 6, 0, 1, 42);
        row(x, 1, 0, 4, 0, 1, 43);
        row(x, 4, 0, 0, 0, 1, 44);
        Due.is("log(5, 4)", x.log(5, 4), -1);
        Due.is("led(0, false)", x.led(0, false), 5);
        Due.is("led(0, true)", x.led(0, true), 42);
        LostRound y = Due.told("part 00000000;boy at 36 sings 0 ear 0;loud 0;stray 38");
        y.sing(1);
        Due.is("38 is not below 38", y.boy(0, 4), 0);
        Due.is("one draw alone", y.seed(1), 1103527590);
        y.seed(1);
        Due.wood(y, "stray 39");
        y.sing(1);
        Due.is("38 is below 39", y.boy(0, 4), 1);
        Due.is("two draws", y.seed(1), 1103527590 * 1103515245 + 12345);
    }

    /** The third and fourth draw from seed 1 are 13 of a hundred, and left. */
    private static void strayingIn() {
        int seed = 1103527590 * 1103515245 + 12345;
        LostRound x = Due.told("part 00000000;boy at 28 sings 0 ear 0;loud 0;beat 7;night 5");
        Due.is("seed", x.seed(seed), 1);
        Due.is("sing(1)", x.sing(1), 1);
        Due.is("two rows", x.count(11), 2);
        row(x, 0, 5, 7, 0, 0, 27);
        row(x, 1, 5, 7, 0, 1, 27);
        Due.is("bad", x.boy(0, 4), 1);
        LostRound y = Due.told("part 00000000;boy at 27 sings 0 ear 0;loud 0;fire 29;trees 28");
        y.send(0, 27);
        y.seed(1);
        y.sing(1);
        y.sing(1);
        Due.is("astray down, then left", y.boy(0, 0), 34);
        LostRound z = Due.told("part 00000000;boy at 36 sings 0 ear 0;loud 0;trees 44");
        z.sing(1);
        Due.is("trees where he went", z.boy(0, 0), 36);
        Due.is("he went astray all the same", z.boy(0, 4), 1);
        row(z, 0, 0, 0, 0, 1, 36);
    }

    private static void fullLog() {
        LostRound x = Due.told("part 00000000;boy at 0 sings 0 ear 0;trees 1;trees 8;loud 0;stray 100");
        x.sing(59);
        Due.is("59 rows", x.count(11), 59);
        x.sing(1);
        Due.is("60 rows", x.count(11), 60);
        row(x, 59, 0, 0, 0, 1, 0);
        x.sing(1);
        Due.is("60 rows at the most", x.count(11), 60);
        row(x, 59, 0, 1, 0, 1, 0);
        row(x, 0, 7, 4, 0, 1, 0);
        row(x, 1, 7, 3, 0, 1, 0);
        x.undo();
        row(x, 0, 7, 3, 0, 1, 0);
        row(x, 59, 0, 0, 0, 1, 0);
        x.sing(1);
        Due.is("log(60, 0)", x.log(60, 0), -1);
        x.sing(120);
        Due.is("bad is 99 at the most", x.boy(0, 4), 99);
        Due.is("led(0, false)", x.led(0, false), 60);
    }

    private static void rowsOfSeveral() {
        LostRound x = Due.told("part 00000000;boy at 26 sings 0 ear 9;boy at 63 sings 0 ear 0;boy at 25 sings 0 ear 9"
            + ";boy at 19 sings 0 ear 9;boy at 0 sings 0 ear 0;boy at 28 sings 0 ear 9;loud 0;stray 100;trees 1;trees 8;trees 62;trees 55");
        Due.is("three come in", x.sing(1), 3);
        row(x, 4, 0, 0, 0, 0, 27);
        row(x, 3, 0, 0, 1, 1, 63);
        row(x, 2, 0, 0, 3, 0, 27);
        row(x, 1, 0, 0, 4, 1, 0);
        row(x, 0, 0, 0, 5, 0, 27);
        Due.is("one more", x.sing(2), 1);
        row(x, 3, 0, 1, 2, 0, 27);
        Due.is("led(1, false)", x.led(1, false), 3);
        Due.is("led(4, true)", x.led(4, true), 0);
        Due.is("led(5, true)", x.led(5, true), 27);
        Due.is("led(2, false)", x.led(2, false), 1);
    }

    private static void steps() {
        LostRound x = Due.told("part 12345670;boy at 9 sings 0 ear 15");
        int[] due = {1, 2, 10, 9, 9, 9, 9, 10, 2};
        for (int n = 0; n < due.length; n++) {
            x.sing(1);
            Due.is("beat " + n, x.boy(0, 0), due[n]);
        }
        LostRound edges = Due.told("part 12341234;boy at 3 sings 0 ear 15;boy at 15 sings 0 ear 15;boy at 59 sings 0 ear 15;boy at 16 sings 0 ear 15");
        int[][] cells = {{3, 7, 51, 8}, {4, 7, 52, 9}, {12, 15, 60, 17}, {11, 14, 59, 16}, {3, 6, 51, 8}};
        for (int[] row : cells) {
            edges.sing(1);
            for (int boy = 0; boy < 4; boy++) {
                Due.is("edges: boy " + boy, edges.boy(boy, 0), row[boy]);
            }
        }
        LostRound wrap = Due.told("part 44444444;part 22222222;boy at 16 sings 0 ear 15;boy at 15 sings 1 ear 15");
        wrap.sing(1);
        Due.is("not over the left edge", wrap.boy(0, 0), 16);
        Due.is("not over the right edge", wrap.boy(1, 0), 15);
        next(12, 20, "as far: along x is 1, along y 2");
        next(9, 10, "as far both ways: along x");
        next(31, 30, "along x alone");
        next(59, 51, "along y alone");
        next(62, 54, "x 3 off, y 4 off");
        LostRound y = Due.told("part 00000000;boy at 9 sings 0 ear 15;trees 10");
        Due.is("trees along x: along y", y.boy(0, 7), 17);
        Due.wood(y, "trees 17");
        Due.is("trees both ways: he stays", y.boy(0, 7), 9);
        LostRound z = Due.told("part 00000000;boy at 29 sings 0 ear 15;trees 28");
        Due.is("trees along x, and y is 0", z.boy(0, 7), 29);
        LostRound u = Due.told("part 00000000;boy at 10 sings 0 ear 15;trees 18");
        Due.is("trees along y: along x", u.boy(0, 7), 11);
    }

    private static void next(int from, int due, String why) {
        LostRound x = Due.told("part 00000000;boy at " + from + " sings 0 ear 15");
        Due.is("nearer from " + from + " (" + why + ")", x.boy(0, 7), due);
    }

    private static void fire() {
        LostRound x = Due.told("part 00000000;boy at 24 sings 0 ear 15;boy at 27 sings 0 ear 0;trees 5");
        Due.is("fire(24)", x.fire(24), 27);
        Due.is("both are in", x.count(10), 3);
        Due.is("fire(30)", x.fire(30), 24);
        Due.is("they go with it", x.boy(0, 0) + x.boy(1, 0), 60);
        Due.is("fire(30) again", x.fire(30), 30);
        Due.is("no rows of it", x.count(11), 0);
        Due.is("three acts", x.count(12), 3);
        Due.fails("fire(5)", IllegalStateException.class, () -> x.fire(5));
        Due.fails("fire(64)", IndexOutOfBoundsException.class, () -> x.fire(64));
        Due.fails("fire(-1)", IndexOutOfBoundsException.class, () -> x.fire(-1));
        Due.is("three acts still", x.count(12), 3);
    }

    private static void trees() {
        LostRound x = Due.told("part 00000000;boy at 24 sings 0 ear 15;boy at 27 sings 0 ear 0");
        Due.is("plant(5, true)", x.plant(5, true), true);
        Due.is("plant(5, true) again", x.plant(5, true), false);
        Due.is("trees", x.cell(5, 0), 1);
        Due.is("plant(5, false)", x.plant(5, false), true);
        Due.is("plant(5, false) again", x.plant(5, false), false);
        Due.is("no trees", x.cell(5, 0), 0);
        Due.is("plant(63, true)", x.plant(63, true), true);
        Due.is("plant(63, false)", x.plant(63, false), true);
        Due.is("felled at the fire", x.plant(27, false), false);
        Due.is("felled where a boy is", x.plant(24, false), false);
        Due.is("eight acts", x.count(12), 8);
        Due.fails("plant(27, true)", IllegalStateException.class, () -> x.plant(27, true));
        Due.fails("plant(24, true)", IllegalStateException.class, () -> x.plant(24, true));
        Due.fails("plant(64, true)", IndexOutOfBoundsException.class, () -> x.plant(64, true));
        Due.fails("plant(-1, false)", IndexOutOfBoundsException.class, () -> x.plant(-1, false));
        Due.is("eight acts still", x.count(12), 8);
    }

    private static void partsAndNotes() {
        LostRound x = Due.told("part 00000000;part 11111111;boy at 24 sings 0 ear 15");
        Due.is("part(0, 1)", x.part(0, 1), 0);
        Due.is("his part", x.boy(0, 1), 1);
        Due.is("part(0, 1) again", x.part(0, 1), 1);
        Due.is("he goes by it", x.boy(0, 7), 16);
        Due.fails("part(1, 0)", IndexOutOfBoundsException.class, () -> x.part(1, 0));
        Due.fails("part(0, 2)", IndexOutOfBoundsException.class, () -> x.part(0, 2));
        Due.fails("part(-1, 0)", IndexOutOfBoundsException.class, () -> x.part(-1, 0));
        Due.fails("part(0, -1)", IndexOutOfBoundsException.class, () -> x.part(0, -1));
        Due.is("tune(1, 0, 3)", x.tune(1, 0, 3), 1);
        Due.is("its note", x.note(1, 0), 3);
        Due.is("he goes by that", x.boy(0, 7), 32);
        Due.is("tune(1, 0, 3) again", x.tune(1, 0, 3), 3);
        Due.is("tune(0, 7, 7)", x.tune(0, 7, 7), 0);
        Due.is("tune(0, 7, 0)", x.tune(0, 7, 0), 7);
        Due.fails("tune(2, 0, 8)", IndexOutOfBoundsException.class, () -> x.tune(2, 0, 8));
        Due.fails("tune(-1, 0, 0)", IndexOutOfBoundsException.class, () -> x.tune(-1, 0, 0));
        Due.fails("tune(0, 8, 8)", IndexOutOfBoundsException.class, () -> x.tune(0, 8, 8));
        Due.fails("tune(0, -1, 0)", IndexOutOfBoundsException.class, () -> x.tune(0, -1, 0));
        Due.fails("tune(0, 0, 8)", IllegalArgumentException.class, () -> x.tune(0, 0, 8));
        Due.fails("tune(0, 0, -1)", IllegalArgumentException.class, () -> x.tune(0, 0, -1));
        Due.is("six acts", x.count(12), 6);
    }

    private static void calledAndSent() {
        LostRound x = Due.told("part 00000000;boy at 24 sings 0 ear 15;trees 5");
        Due.is("call(0)", x.call(0), 24);
        Due.is("he is in", x.boy(0, 3), 1);
        Due.is("at the fire", x.boy(0, 0), 27);
        Due.is("no row of it", x.count(11), 0);
        Due.fails("call(0) again", IllegalStateException.class, () -> x.call(0));
        Due.fails("call(1)", IndexOutOfBoundsException.class, () -> x.call(1));
        Due.fails("call(-1)", IndexOutOfBoundsException.class, () -> x.call(-1));
        Due.is("send(0, 9)", x.send(0, 9), 27);
        Due.is("he is not in", x.boy(0, 3), 0);
        Due.is("send(0, 63)", x.send(0, 63), 9);
        Due.is("send(0, 63) again", x.send(0, 63), 63);
        Due.fails("send(0, 5)", IllegalStateException.class, () -> x.send(0, 5));
        Due.fails("send(0, 27)", IllegalStateException.class, () -> x.send(0, 27));
        Due.fails("send(1, 5)", IndexOutOfBoundsException.class, () -> x.send(1, 5));
        Due.fails("send(-1, 9)", IndexOutOfBoundsException.class, () -> x.send(-1, 9));
        Due.fails("send(0, 64)", IndexOutOfBoundsException.class, () -> x.send(0, 64));
        Due.fails("send(0, -1)", IndexOutOfBoundsException.class, () -> x.send(0, -1));
        Due.is("four acts", x.count(12), 4);
    }

    private static void loud() {
        LostRound x = new LostRound();
        Due.is("loud(15)", x.loud(15), 4);
        Due.is("loud(0)", x.loud(0), 15);
        Due.is("loud(0) again", x.loud(0), 0);
        Due.fails("loud(16)", IllegalArgumentException.class, () -> x.loud(16));
        Due.fails("loud(-1)", IllegalArgumentException.class, () -> x.loud(-1));
        Due.is("three acts", x.count(12), 3);
    }

    private static void undone() {
        LostRound x = new LostRound();
        for (int n = 0; n < 13; n++) {
            x.loud(n);
        }
        Due.is("twelve acts", x.count(12), 12);
        for (int n = 11; n >= 0; n--) {
            Due.is("undo()", x.undo(), true);
            Due.is("loud behind it", x.count(5), n);
            Due.is("acts left", x.count(12), n);
        }
        Due.is("undo() of none", x.undo(), false);
        Due.is("the first act stays", x.count(5), 0);
        x.loud(9);
        x.undo();
        x.loud(10);
        Due.is("undo() behind another act", x.undo(), true);
        Due.is("loud behind that", x.count(5), 0);
    }

    private static void undoneByKind() {
        LostRound x = Due.told("part 00000000;part 11111111;boy at 36 sings 0 ear 0;boy at 24 sings 1 ear 15;loud 0;beat 7;night 2");
        x.sing(3);
        x.seed(77);
        x.image();
        Due.put(x, "song");
        x.undo();
        int[] due = {2, 2, 1, -1, 27, 0, 50, 7, 2, 0, 0, 0, 0};
        for (int what = 0; what < due.length; what++) {
            Due.is("count(" + what + ") behind beats undone", x.count(what), due[what]);
        }
        Due.is("cells", x.boy(0, 0) + 100 * x.boy(1, 0), 2436);
        Due.is("bad", x.boy(0, 4), 0);
        Due.is("the seed too", x.seed(1), 1);
        Due.is("the tape stays", x.end(4), true);
        Due.is("the image stays", x.back(), true);
        Due.is("with its beat", x.count(7), 2);
        Due.is("and its seed", x.seed(1), 77);
        x.fire(62);
        x.plant(9, true);
        x.part(1, 0);
        x.tune(0, 3, 6);
        x.call(1);
        x.send(1, 63);
        Due.is("six acts", x.count(12), 6);
        x.undo();
        Due.is("sent off undone", x.boy(1, 0) + x.boy(1, 3), 63);
        x.undo();
        Due.is("called in undone", x.boy(1, 3), 0);
        x.undo();
        Due.is("a note undone", x.note(0, 3), 0);
        x.undo();
        Due.is("a part undone", x.boy(1, 1), 1);
        x.undo();
        Due.is("trees undone", x.dense(), 0);
        x.undo();
        Due.is("the fire undone", x.count(4), 27);
    }

    private static void forgotten() {
        LostRound x = new LostRound();
        x.loud(1);
        Due.wrongWood(x, "x", 0);
        Due.wrongLaw(x, "x", 0);
        Due.is("a wrong text forgets none", x.count(12), 1);
        Due.wood(x, "");
        Due.is("a text of the wood forgets all", x.count(12), 0);
        Due.is("undo() behind it", x.undo(), false);
        x.loud(2);
        Due.law(x, "");
        Due.is("a law forgets all", x.count(12), 0);
        Due.is("undo() behind that", x.undo(), false);
        x.loud(3);
        x.seed(3);
        Due.is("a seed is no act", x.count(12), 1);
        Due.is("back() without an image", x.back(), false);
        Due.is("it forgets none", x.count(12), 1);
        x.image();
        Due.is("an image is no act", x.count(12), 1);
        x.back();
        Due.is("going back forgets all", x.count(12), 0);
    }

    private static void image() {
        LostRound x = Due.told("part 01234567;boy at 9 sings 0 ear 3;trees 1;ferns 2 3;stray 9");
        Due.law(x, "far 1;far 2");
        x.seed(5);
        x.image();
        Due.wood(x, "part 00000000;boy at 9 sings 0 ear 3;trees 3;ferns 2 4;fire 40;loud 1;stray 2;beat 3;night 4");
        Due.law(x, "near 20");
        x.sing(9);
        Due.wrongLaw(x, "stay if", 7);
        Due.put(x, "loud 1");
        for (int time = 0; time < 2; time++) {
            Due.is("back()", x.back(), true);
            int[] due = {1, 1, 1, 2, 27, 4, 9, 0, 0, 3, 0, 0, 0};
            for (int what = 0; what < due.length; what++) {
                Due.is("count(" + what + ") behind back()", x.count(what), due[what]);
            }
            Due.is("trees", x.cell(1, 0) * 10 + x.cell(3, 0), 10);
            Due.is("seed", x.seed(6), 5);
            Due.is("fault()", x.fault(), 7);
            x.loud(9);
            x.sing(1);
        }
        Due.is("the tape", x.end(6), true);
        x.image();
        x.loud(2);
        x.back();
        Due.is("a later image", x.count(5), 9);
    }
}
