/** Promises 31 to 36: parts told apart, shifted, silent, and notes that could be mended. */
final class PartTest {
    public static void main(String[] args) {
        code();
        shifted();
        silences();
        mends();
        Due.close("PartTest");
    }

    private static void code() {
        Due.is("code() of none", new LostRound().code(), 0);
        Due.is("code() of one", Due.told("part 00000000").code(), 0);
        Due.is("code() by beat 5", Due.told("part 00000000;part 00000700").code(), 32);
        Due.is("code() by the least beat", Due.told("part 00000000;part 77777777").code(), 1);
        Due.is("code() of two alike", Due.told("part 00000000;part 11111111;part 00000000").code(), -1);
        Due.is("code() by two beats", Due.told("part 00000000;part 01000000;part 10000000;part 11000000").code(), 3);
        Due.is("code() by one of many", Due.told("part 00000001;part 01000002;part 10000003;part 11000004").code(), 128);
        Due.is("code() by all but one", Due.told("part 00000000;part 10000000;part 01000000;part 00100000;part 00010000").code(), 15);
    }

    private static void shifted() {
        LostRound x = Due.told("part 12345670;part 23456701;part 01010101;part 10101010;part 01010101;part 77777777");
        Due.is("shifted(0, 1)", x.shifted(0, 1), 1);
        Due.is("shifted(1, 0)", x.shifted(1, 0), 7);
        Due.is("shifted(2, 3)", x.shifted(2, 3), 1);
        Due.is("shifted(2, 4)", x.shifted(2, 4), 2);
        Due.is("shifted(0, 5)", x.shifted(0, 5), -1);
        Due.fails("shifted(0, 0)", IllegalArgumentException.class, () -> x.shifted(0, 0));
        Due.fails("shifted(0, 6)", IndexOutOfBoundsException.class, () -> x.shifted(0, 6));
        Due.fails("shifted(6, 6)", IndexOutOfBoundsException.class, () -> x.shifted(6, 6));
        Due.fails("shifted(-1, 0)", IndexOutOfBoundsException.class, () -> x.shifted(-1, 0));
        LostRound y = Due.told("part 77777777;part 77777777;part 12121212;part 12121212;part 11112222;part 22221111");
        Due.is("shifted of one note", y.shifted(0, 1), 1);
        Due.is("shifted of two notes", y.shifted(2, 3), 2);
        Due.is("shifted by half", y.shifted(4, 5), 4);
        LostRound z = Due.told("part 12345670;part 33456701;part 23456702");
        Due.is("shifted but for beat 0", z.shifted(0, 1), -1);
        Due.is("shifted but for beat 7", z.shifted(0, 2), -1);
    }

    private static void silences() {
        LostRound x = new LostRound();
        Due.is("quiet() of none", x.quiet(), -1);
        Due.wood(x, "part 77777777");
        Due.is("quiet() without a silence", x.quiet(), 0);
        Due.wood(x, "part 00100000;part 00000001;part 01010101;part 00000000;part 70000007");
        int[] silence = {0, 7, 7, 4, 8, 6};
        int[] hush = {0, 7, 7, 1, 8, 6};
        for (int part = 0; part < 6; part++) {
            Due.is("silence(" + part + ")", x.silence(part), silence[part]);
            Due.is("hush(" + part + ")", x.hush(part), hush[part]);
        }
        Due.is("quiet()", x.quiet(), 4);
        x.tune(4, 3, 1);
        Due.is("quiet() of several the least", x.quiet(), 1);
        x.tune(1, 5, 1);
        Due.is("hush on from beat 7 to 0", x.hush(1), 4);
        x.tune(1, 0, 1);
        Due.is("hush of two, two and two", x.hush(1), 2);
        Due.fails("silence(6)", IndexOutOfBoundsException.class, () -> x.silence(6));
        Due.fails("silence(-1)", IndexOutOfBoundsException.class, () -> x.silence(-1));
        Due.fails("hush(6)", IndexOutOfBoundsException.class, () -> x.hush(6));
        Due.fails("hush(-1)", IndexOutOfBoundsException.class, () -> x.hush(-1));
    }

    private static void mends() {
        LostRound x = Due.told("part 07777777;part 77777777;part 00000000;boy at 24 sings 0 ear 15;boy at 24 sings 1 ear 15"
            + ";boy at 24 sings 2 ear 15;boy at 27 sings 1 ear 15;boy at 24 sings 0 ear 0;loud 0");
        Due.is("mends: a second silence in any beat", x.mends(0), 8);
        Due.is("mends of one who comes never", x.mends(1), 0);
        Due.is("mends of one who comes straight", x.mends(2), -1);
        Due.is("mends of one who is in", x.mends(3), -1);
        Due.is("mends of one who does not hear", x.mends(4), -1);
        Due.is("the notes stay", x.note(0, 1), 7);
        Due.law(x, "stay if silent and beat > 0");
        Due.is("mends by a side, as a silence is no good", x.mends(0), 8 + 2);
        Due.wood(x, "beat 5");
        // A side in beat 5 helps now and eight beats later: in by 9 instead of 20.
        Due.is("mends by the beat that is now", x.mends(0), 8 * 5 + 2);
        Due.fails("mends(5)", IndexOutOfBoundsException.class, () -> x.mends(5));
        Due.fails("mends(-1)", IndexOutOfBoundsException.class, () -> x.mends(-1));
        LostRound z = Due.told("part 07777777;fire 0;boy at 63 sings 0 ear 15");
        Due.is("mends one who comes by 105", z.mends(0), 8);
        // Thirteen off, and beat 4 alone leads: from beat 1 by 100, from beat 0 by 101.
        LostRound u = Due.told("part 77777777;fire 0;boy at 62 sings 0 ear 15;beat 1");
        Due.law(u, "stay if beat < 4 or beat > 4");
        Due.is("mends one by 100", u.mends(0), 32);
        Due.wood(u, "beat 0");
        Due.is("mends none by 101", u.mends(0), -1);
        LostRound y = Due.told("part 01777777;boy at 25 sings 0 ear 15");
        // Up in beat 1 leads him off: 26, 18, then nearer along x and y by turns.
        Due.is("mends a wrong note", y.mends(0), 8);
        Due.is("soon behind it", Due.told("part 00777777;boy at 25 sings 0 ear 15").soon(0), 2);
    }
}
