/** Promises 28 to 30: what is told on the tape of how near one sounded, and of what he heard. */
final class ToldTest {
    public static void main(String[] args) {
        sounds();
        soundsByRules();
        listen();
        ears();
        wrongTapes();
        Due.close("ToldTest");
    }

    private static void fit(LostRound x, int many, int least, int... told) {
        Due.put(x, told);
        Due.is("sounds(false) of " + java.util.Arrays.toString(told), x.sounds(false), many);
        Due.put(x, told);
        Due.is("sounds(true) of " + java.util.Arrays.toString(told), x.sounds(true), least);
    }

    /** All hear and come nearer by one in each beat. */
    private static void sounds() {
        LostRound x = Due.told("part 00000000");
        fit(x, 64, 0);
        fit(x, 12, 3, 0, 3);
        fit(x, 1, 63, 0, 8);
        fit(x, 0, -1, 0, 9);
        fit(x, 0, -1, 0, 14);
        fit(x, 1, 27, 0, 0);
        fit(x, 12, 3, 2, 1);
        fit(x, 25, 3, 3, 0);
        fit(x, 64, 0, 30, 0);
        fit(x, 0, -1, 30, 1);
        fit(x, 12, 3, 0, 3, 1, 2, 2, 1, 3, 0);
        fit(x, 0, -1, 0, 3, 0, 4);
        fit(x, 12, 3, 0, 3, 0, 3);
        fit(x, 0, -1, 0, 3, 1, 3);
        fit(x, 64, 0, 30, 0, 30, 0, 30, 0, 30, 0, 30, 0, 30, 0, 30, 0, 30, 0, 30, 0, 30, 0,
            30, 0, 30, 0, 30, 0, 30, 0, 30, 0, 30, 0, 30, 0, 30, 0, 30, 0, 30, 0);
        Due.wood(x, "trees 3");
        fit(x, 11, 10, 0, 3);
        Due.is("feed behind it", x.feed(0, 0, 0, 0, 0), 20);
    }

    private static void soundsByRules() {
        LostRound x = Due.told("part 70000000;part 00000000;boy at 0 sings 1 ear 3;beat 1;loud 0");
        // In beats 1 to 7 he comes nearer, then there is a stay.
        fit(x, 1, 63, 7, 1);
        fit(x, 1, 63, 8, 1);
        fit(x, 0, -1, 9, 1);
        Due.law(x, "stay if boy > 0;stay if bad > 0;stay if part > 0;stay if ear < 15");
        fit(x, 1, 63, 7, 1);
        Due.law(x, "stay if boy < 1");
        fit(x, 12, 3, 7, 3);
    }

    private static void best(LostRound x, int due, int... told) {
        Due.put(x, told);
        Due.is("listen() of " + java.util.Arrays.toString(told), x.listen(), due);
    }

    private static void listen() {
        LostRound x = Due.told("part 00000000");
        best(x, 0);
        best(x, 0, 0, 3);
        best(x, -1, 0, 8);
        best(x, -1, 0, 9);
        best(x, -1, 0, 0);
        best(x, 0, 0, 7);
        best(x, 0);
        // Of four that are seven off 55 and 56 are left, and then 55 alone.
        Due.wood(x, "trees 7;trees 62");
        best(x, 0, 0, 7);
        Due.wood(x, "trees 56");
        best(x, -1, 0, 7);
        // Of the four beside the fire one comes in by the first note, and the others part by the edge.
        LostRound y = Due.told("part 14444444");
        best(y, 4, 0, 1);
        best(y, 4, 0, 1);
        best(y, -1, 0, 8);
        Due.is("feed behind it", y.feed(0, 0, 0, 0, 0), 20);
    }

    private static void fitting(LostRound x, int boy, int due, int... told) {
        Due.put(x, told);
        Due.is("ears(" + boy + ") of " + java.util.Arrays.toString(told), x.ears(boy), due);
    }

    private static void ears() {
        LostRound x = Due.told("part 00000000;boy at 26 sings 0 ear 3;boy at 27 sings 0 ear 3;ferns 2 3");
        fitting(x, 0, 0xffff);
        fitting(x, 0, 0xfffc, 0, 1);
        fitting(x, 0, 0x0003, 0, 0);
        fitting(x, 1, 0xfffc, 0, 1);
        fitting(x, 0, 0x000c, 0, 1, 63, 0);
        fitting(x, 0, 0x0008, 2, 1, 63, 0);
        fitting(x, 0, 0x0000, 0, 1, 0, 0);
        int[] forty = new int[40];
        forty[39] = 1;
        fitting(x, 0, 0x0000, forty);
        forty[39] = 0;
        fitting(x, 0, 0x0003, forty);
        Due.wood(x, "loud 0");
        Due.law(x, "near 9 if ear > 9 and silent and boy < 1 and x < 1 and away > 5 and beat < 1 and not ferny");
        // Ears 6 to 9 hear six off; ears 10 to 14 are nine nearer, and 15 is just good enough.
        fitting(x, 0, 0x83c0, 0, 1);
        fitting(x, 0, 0x7c3f, 0, 0);
        fitting(x, 1, 0xffc0, 0, 1);
        fitting(x, 0, 0x00c0, 0, 1, 63, 0);
        x.tune(0, 0, 5);
        fitting(x, 0, 0xffc0, 0, 1);
        Due.is("feed behind it", x.feed(0, 0, 0, 0, 0), 20);
    }

    private static void wrong(LostRound x, int... told) {
        String tape = java.util.Arrays.toString(told);
        Due.put(x, told);
        Due.fails("sounds of " + tape, IllegalArgumentException.class, () -> x.sounds(true));
        Due.is("feed behind that", x.feed(0, 0, 0, 0, 0), 20);
        x.end(0);
        Due.put(x, told);
        Due.fails("listen of " + tape, IllegalArgumentException.class, () -> x.listen());
        Due.is("feed behind that", x.feed(0, 0, 0, 0, 0), 20);
        x.end(0);
    }

    private static void wrongEars(LostRound x, int... told) {
        Due.put(x, told);
        Due.fails("ears of " + java.util.Arrays.toString(told), IllegalArgumentException.class, () -> x.ears(0));
        Due.is("feed behind that", x.feed(0, 0, 0, 0, 0), 20);
        x.end(0);
    }

    private static void wrongTapes() {
        LostRound x = new LostRound();
        wrong(x);
        Due.wood(x, "part 00000000;boy at 0 sings 0 ear 1;trees 9");
        x.seed(3);
        wrong(x, 0);
        wrong(x, 0, 3, 1);
        wrong(x, 31, 3);
        wrong(x, 0, 15);
        wrong(x, 255, 3);
        wrong(x, 0, 255);
        wrong(x, new int[42]);
        wrongEars(x, 1);
        wrongEars(x, 27, 1);
        wrongEars(x, 9, 1);
        wrongEars(x, 64, 1);
        wrongEars(x, 255, 1);
        wrongEars(x, 0, 2);
        wrongEars(x, 0, 255);
        wrongEars(x, 0, 1, 1, 1, 9, 1);
        wrongEars(x, 0, 1, 1, 2);
        wrongEars(x, new int[42]);
        Due.put(x, 0, 1);
        Due.fails("ears(1)", IndexOutOfBoundsException.class, () -> x.ears(1));
        Due.is("feed behind that", x.feed(0, 0, 0, 0, 0), 20);
        Due.fails("ears(-1)", IndexOutOfBoundsException.class, () -> x.ears(-1));
        Due.is("no text was read", x.fault(), -1);
    }
}
