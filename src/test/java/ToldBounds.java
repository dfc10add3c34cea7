/** What is told on the tape of how near one sounded, and of where one would hear. */
final class ToldBounds {
    private ToldBounds() {
    }

    static void run() {
        rowsOfSounds();
        tapeOfSounds();
        noParts();
        whoSounds();
        where();
        listen();
        listenNone();
        rowsOfEars();
        tapeOfEars();
        earsThatFit();
    }

    private static void sounds(LostRound x, int many, int least, int... told) {
        Due.put(x, told);
        Due.is("sounds(false) of " + java.util.Arrays.toString(told), x.sounds(false), many);
        Due.put(x, told);
        Due.is("sounds(true) of " + java.util.Arrays.toString(told), x.sounds(true), least);
    }

    private static void usedUp(LostRound x) {
        Due.is("the tape is used up", x.feed(0, 0, 0, 0, 0), 20);
        x.end(0);
    }

    private static void wrong(LostRound x, int... told) {
        String tape = java.util.Arrays.toString(told);
        Due.put(x, told);
        Due.fails("sounds(false) of " + tape, Due.ARGUMENT, () -> x.sounds(false));
        usedUp(x);
        Due.put(x, told);
        Due.fails("sounds(true) of " + tape, Due.ARGUMENT, () -> x.sounds(true));
        usedUp(x);
        Due.put(x, told);
        Due.fails("listen() of " + tape, Due.ARGUMENT, x::listen);
        usedUp(x);
    }

    private static void rowsOfSounds() {
        Doc.says("SOUNDS: told are rows: a number of BEATS from now on (0 to 30) and NEAR (0 to 14)");
        // In each beat all come nearer by one: the fire is in 0.
        LostRound x = Due.told("part 00000000;fire 0");
        sounds(x, 1, 0, 0, 0);
        sounds(x, 1, 63, 0, 14);
        sounds(x, 2, 55, 0, 13);
        sounds(x, 1, 63, 13, 1);
        sounds(x, 64, 0, 14, 0);
        sounds(x, 64, 0, 30, 0);
        sounds(x, 0, LostRound.NONE, 30, 1);
        sounds(x, 0, LostRound.NONE, 30, 14);
        sounds(x, 0, LostRound.NONE, 1, 14);
        sounds(x, 0, LostRound.NONE, 0, 13, 0, 14);
        sounds(x, 0, LostRound.NONE, 0, 14, 0, 13);
        sounds(x, 1, 63, 0, 14, 0, 14);
        wrong(x, 31, 0);
        wrong(x, 255, 0);
        wrong(x, 0, 15);
        wrong(x, 0, 255);
        wrong(x, 0, 1, 31, 15);
        wrong(x, 0, 1, 0, 15);
    }

    private static void tapeOfSounds() {
        Doc.promises(28, "Uses the TAPE up: SOUNDS (of each two bytes: how many BEATS from now on, NEAR; at most 40 bytes): "
            + "how many CELLS (where false), or WHERE; NONE. IllegalArgumentException: the TAPE is not that (none may be told),");
        LostRound x = Due.told("part 00000000");
        sounds(x, 64, 0);
        int[] forty = new int[40];
        for (int i = 0; i < 40; i += 2) {
            forty[i] = 30;
        }
        sounds(x, 64, 0, forty);
        forty[38] = 0;
        forty[39] = 3;
        sounds(x, 12, 3, forty);
        wrong(x, 0);
        wrong(x, 0, 3, 0);
        wrong(x, new int[39]);
        wrong(x, new int[41]);
        wrong(x, new int[42]);
        wrong(x, new int[400]);
        Due.is("no fault of it", x.fault(), LostRound.NONE);
        sounds(x, 12, 3, 0, 3);
    }

    private static void noParts() {
        Doc.promises(28, "or there are no PARTS.");
        LostRound x = new LostRound();
        wrong(x);
        wrong(x, 0, 3);
        Due.wood(x, "part 77777777");
        sounds(x, 64, 0);
        sounds(x, 12, 3, 30, 3);
    }

    private static void whoSounds() {
        Doc.says("of one who sings PART 0 with EAR 15 now, and went AHEAD, as a BOY of the number 0 with BAD 0 from an unknown CELL without TREES:");
        // From beat 1 on he comes nearer in each beat but beat 0: seven of eight.
        LostRound x = Due.told("part 70000000;part 77777777;boy at 9 sings 1 ear 0;boy at 9 sings 1 ear 0;beat 1;loud 0");
        sounds(x, 1, 63, 7, 1);
        sounds(x, 1, 63, 8, 1);
        sounds(x, 64, 0, 9, 0);
        Due.law(x, "stay if boy > 0 or part > 0 or bad > 0 or ear < 15");
        sounds(x, 1, 63, 7, 1);
        for (String other : new String[] {"boy < 1", "part < 1", "bad < 1", "ear > 14"}) {
            Due.law(x, "stay if " + other);
            sounds(x, 12, 3, 30, 3);
        }
        Due.law(x, "");
        x.plant(63, true);
        sounds(x, 0, LostRound.NONE, 0, 8);
        x.plant(3, true);
        sounds(x, 11, 10, 0, 3);
        // With 15 less 8 by ferns one in 63 does not hear, with LOUD 1 he does.
        LostRound y = Due.told("part 00000000;ferns 63 8;loud 0");
        sounds(y, 1, 63, 30, 8);
        y.loud(1);
        sounds(y, 0, LostRound.NONE, 30, 8);
    }

    private static void where() {
        Doc.says("CELLS where he can be now: how many; WHERE: the least such CELL; none.");
        LostRound x = Due.told("part 00000000");
        sounds(x, 1, 27, 0, 0);
        sounds(x, 4, 19, 0, 1);
        sounds(x, 4, 7, 0, 7);
        sounds(x, 5, 19, 1, 0);
        sounds(x, 0, LostRound.NONE, 0, 1, 1, 1);
        sounds(x, 0, LostRound.NONE, 0, 1, 0, 2);
        sounds(x, 4, 19, 0, 1, 0, 1);
        sounds(x, 0, LostRound.NONE, 0, 9);
        LostRound y = WayBounds.onlyTheFire();
        sounds(y, 1, 27);
        sounds(y, 1, 27, 30, 0);
        sounds(y, 0, LostRound.NONE, 0, 1);
    }

    private static void best(LostRound x, int due, int... told) {
        Due.put(x, told);
        Due.is("listen() of " + java.util.Arrays.toString(told), x.listen(), due);
    }

    private static void listen() {
        Doc.says("LISTEN: the number (0 to 30) by whose NEAR those that fit are parted so that the greatest part is the least (of several the least;");
        LostRound x = Due.told("part 77777777");
        best(x, 0);
        best(x, 0, 0, 3);
        // Two are left, 3 and 24: to the right in beat 6 the one goes off by it, the other one nearer.
        LostRound y = Due.told("part 77777727");
        Due.law(y, "stay if x + y > 3 or x + y < 3");
        pairOf3And24(y);
        best(y, 7, 0, 3);
        Due.wood(y, "beat 1");
        best(y, 6, 0, 3);
        Due.wood(y, "beat 7");
        best(y, 8, 0, 3);
        LostRound z = Due.told("part 22222222;loud 15");
        pairOf3And24(z);
        Due.law(z, "stay");
        best(z, 0, 0, 3);
        Due.law(z, "");
        best(z, 1, 0, 3);
        // The one in 62 goes to where the other one is, as far as one can be.
        LostRound v = Due.told("part 22222222;fire 0;loud 15");
        sounds(v, 2, 62, 1, 14);
        best(v, 0, 1, 14);
        // Of 8 and 40 each goes to the right every eighth beat, and the fourth time trees stop the one of them.
        LostRound u = Due.told("part 77777277;trees 44");
        sounds(u, 2, 8, 0, 5, 6, 4, 14, 3, 22, 2);
        best(u, 30, 0, 5, 6, 4, 14, 3, 22, 2);
        Due.wood(u, "beat 7");
        sounds(u, 2, 8, 0, 5, 7, 4, 15, 3, 23, 2);
        best(u, 0, 0, 5, 7, 4, 15, 3, 23, 2);
    }

    /** Of all cells that are three off but 3 and 24 there are trees. */
    private static void pairOf3And24(LostRound x) {
        for (int cell = 0; cell < 64; cell++) {
            if (x.cell(cell, 2) == 3 && cell != 3 && cell != 24) {
                x.plant(cell, true);
            }
        }
    }

    private static void listenNone() {
        Doc.says("none with fewer than two).");
        LostRound x = Due.told("part 00000000");
        best(x, LostRound.NONE, 0, 8);
        best(x, LostRound.NONE, 0, 0);
        best(x, LostRound.NONE, 0, 9);
        best(x, 0, 0, 7);
        x.plant(7, true);
        x.plant(56, true);
        best(x, 0, 0, 7);
        x.plant(62, true);
        best(x, LostRound.NONE, 0, 7);
        LostRound few = WayBounds.onlyTheFire();
        best(few, LostRound.NONE);
        for (int cell : new int[] {0, 63}) {
            few.plant(cell, false);
            best(few, 0);
            few.plant(cell, true);
        }
        best(few, LostRound.NONE);
        Doc.promises(29, "Uses the TAPE up: LISTEN (the TAPE likewise); NONE. IllegalArgumentException: the TAPE is not that, or there are no PARTS.");
        LostRound y = Due.told("part 00000000");
        int[] forty = new int[40];
        forty[38] = 30;
        best(y, LostRound.NONE, forty);
        best(y, 0, 30, 0);
        LostRound none = new LostRound();
        Due.fails("listen() without parts", Due.ARGUMENT, none::listen);
    }

    private static void ears(LostRound x, int boy, int due, int... told) {
        Due.put(x, told);
        Due.is("ears(" + boy + ") of " + java.util.Arrays.toString(told), x.ears(boy), due);
    }

    private static void wrongEars(LostRound x, int... told) {
        Due.put(x, told);
        Due.fails("ears(0) of " + java.util.Arrays.toString(told), Due.ARGUMENT, () -> x.ears(0));
        usedUp(x);
    }

    private static void rowsOfEars() {
        Doc.says("EARS of a BOY: told are rows: a CELL (without TREES, not THE FIRE) and whether he would HEAR there in BEAT (1) or not (0):");
        LostRound x = Due.told("part 00000000;boy at 9 sings 0 ear 3;trees 5;loud 0");
        ears(x, 0, 0b1111_1111_1100_0000, 0, 1);
        ears(x, 0, 0b0000_0000_0011_1111, 0, 0);
        ears(x, 0, 0b1111_1111_0000_0000, 63, 1);
        wrongEars(x, 5, 1);
        wrongEars(x, 5, 0);
        wrongEars(x, 27, 1);
        wrongEars(x, 27, 0);
        wrongEars(x, 64, 1);
        wrongEars(x, 128, 1);
        wrongEars(x, 255, 0);
        wrongEars(x, 0, 2);
        wrongEars(x, 0, 255);
        wrongEars(x, 0, 1, 64, 0);
        wrongEars(x, 0, 1, 1, 2);
        wrongEars(x, 0, 1, 63, 0, 5, 1);
        x.fire(63);
        ears(x, 0, 0b1111_1111_0000_0000, 27, 1);
        wrongEars(x, 63, 1);
    }

    private static void tapeOfEars() {
        Doc.promises(30, "Uses the TAPE up: EARS (of each two bytes: the CELL, 1 or 0; at most 40 bytes), as bits 0 to 15. "
            + "IllegalArgumentException: the TAPE is not that (none may be told).");
        LostRound x = Due.told("part 00000000;boy at 9 sings 0 ear 3;loud 0");
        ears(x, 0, 0xffff);
        int[] forty = new int[40];
        ears(x, 0, 0x003f, forty);
        forty[38] = 63;
        forty[39] = 1;
        ears(x, 0, 0, forty);
        forty[38] = 1;
        ears(x, 0, 0b0010_0000, forty);
        wrongEars(x, 0);
        wrongEars(x, 0, 1, 0);
        wrongEars(x, new int[39]);
        wrongEars(x, new int[41]);
        wrongEars(x, new int[42]);
        wrongEars(x, new int[400]);
        Due.is("no fault of it", x.fault(), LostRound.NONE);
        Due.put(x, 0, 1);
        Due.fails("ears(1)", Due.INDEX, () -> x.ears(1));
        usedUp(x);
        Due.put(x, 0, 2, 0);
        Due.fails("ears(-1), and a tape that is not that", Due.INDEX, () -> x.ears(-1));
        usedUp(x);
    }

    private static void earsThatFit() {
        Doc.says("EARS 0 to 15 that fit, as bits.");
        LostRound x = Due.told("part 70000000;boy at 9 sings 0 ear 3;boy at 27 sings 0 ear 3;loud 0;fire 0");
        ears(x, 0, 0b1100_0000_0000_0000, 63, 1);
        Due.wood(x, "ferns 63 1;ferns 1 0");
        ears(x, 0, 0b1000_0000_0000_0000, 63, 1);
        Due.wood(x, "ferns 63 2");
        ears(x, 0, 0, 63, 1);
        ears(x, 0, 0xffff, 63, 0);
        ears(x, 0, 0b0000_0000_0000_0001, 1, 0);
        ears(x, 0, 0b1111_1111_1111_1110, 1, 1);
        Due.law(x, "near 20 if silent");
        ears(x, 0, 0b1111_1111_1111_1110, 1, 1);
        Due.wood(x, "beat 1");
        ears(x, 0, 0, 1, 1);
        Due.law(x, "near 20 if boy > 0 or bad > 0 or part > 0");
        ears(x, 0, 0b1111_1111_1111_1110, 1, 1);
        ears(x, 1, 0, 1, 1);
        Due.law(x, "stay;far 1 if ear < 1;near 1 if ear > 14");
        ears(x, 0, 0xffff, 1, 1);
        ears(x, 0, 0b1110_0000_0000_0000, 63, 0, 62, 1);
        Due.is("he hears as he does", x.boy(0, 2), 3);
    }
}
