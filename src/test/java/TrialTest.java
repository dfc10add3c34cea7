/** Promises 53 and 54: trials and spans, of which nothing stays. */
final class TrialTest {
    public static void main(String[] args) {
        trial();
        span();
        Due.close("TrialTest");
    }

    private static void asBefore(LostRound x, int cell) {
        Due.is("cell behind it", x.boy(0, 0), cell);
        Due.is("bad behind it", x.boy(0, 4), 0);
        Due.is("beat and night behind it", x.count(7) + x.count(8), 0);
        Due.is("rows behind it", x.count(11), 0);
        Due.is("acts behind it", x.count(12), 0);
        Due.is("seed behind it", x.seed(1), 1);
    }

    /** From seed 1: down, left, no, down, up, no, left, no (see ActTest). */
    private static void trial() {
        LostRound x = Due.told("part 00000000;boy at 36 sings 0 ear 0;boy at 24 sings 0 ear 3;boy at 27 sings 0 ear 0;loud 0");
        int[] bad = {0, 1, 2, 2, 3, 4, 4, 5, 5};
        for (int n = 0; n < bad.length; n++) {
            Due.is("trial(" + n + ", true)", x.trial(n, true), bad[n]);
            Due.is("trial(" + n + ", false)", x.trial(n, false), n < 3 ? 0b100 : 0b110);
        }
        asBefore(x, 36);
        x.sing(8);
        Due.is("trial(0, true) behind beats", x.trial(0, true), 5);
        int in = x.trial(100, false);
        int badThen = x.trial(100, true);
        x.sing(100);
        Due.is("trial(100, false) as it came", in, x.count(10));
        Due.is("trial(100, true) as it came", badThen, x.boy(0, 4));
        Due.fails("trial(101, false)", IllegalArgumentException.class, () -> x.trial(101, false));
        Due.fails("trial(-1, true)", IllegalArgumentException.class, () -> x.trial(-1, true));
        Due.is("trial of none", new LostRound().trial(100, true), 0);
    }

    /** By stray 100 the first step is, from seeds 1 to 6: down, right, left, down, right, left. */
    private static void span() {
        LostRound x = Due.told("part 00000000;boy at 28 sings 0 ear 0;boy at 27 sings 0 ear 0;loud 0;stray 100");
        Due.is("span(1, false)", x.span(1, false), 1);
        Due.is("span(1, true)", x.span(1, true), 2);
        Due.is("span(0, true)", x.span(0, true), 1);
        asBefore(x, 28);
        LostRound y = Due.told("part 00000000;boy at 35 sings 0 ear 0;loud 0;stray 100");
        Due.is("span(1, false) without the step up", y.span(1, false), 0);
        Due.is("span(1, true) without the step up", y.span(1, true), 0);
        LostRound z = Due.told("part 00000000;boy at 24 sings 0 ear 15");
        Due.is("span(2, true) of one who hears", z.span(2, true), 0);
        Due.is("span(3, false) of one who hears", z.span(3, false), 1);
        Due.is("span of none", new LostRound().span(100, false), 0);
        // From seed 7 the step would be up; from seed 1 and 4 alone it is down, from 2 and 5 right.
        Due.is("span(1, true) by down", Due.told("part 00000000;boy at 19 sings 0 ear 0;loud 0;stray 100").span(1, true), 1);
        Due.is("span(1, true) by right", Due.told("part 00000000;boy at 26 sings 0 ear 0;loud 0;stray 100").span(1, true), 1);
        Due.fails("span(101, false)", IllegalArgumentException.class, () -> x.span(101, false));
        Due.fails("span(-1, true)", IllegalArgumentException.class, () -> x.span(-1, true));
    }
}
