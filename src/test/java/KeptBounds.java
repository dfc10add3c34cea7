import java.util.function.Consumer;

/** What is tried and not kept, and what is kept: trials, spans, the log, acts undone, the image. */
final class KeptBounds {
    private KeptBounds() {
    }

    static void run() {
        trial();
        trialKeepsNothing();
        span();
        led();
        undone();
        twelveActs();
        asAheadOfIt();
        butFor();
        noneRemembered();
        image();
        imageButFor();
        sets();
    }

    /** What becomes of one who does not hear, in a wood without trees, with the fire in 27: his cell, BAD, and SEED. */
    private static int[] strays(int seed, int from, int beats, int stray) {
        int[] is = {from, 0, seed};
        for (int n = 0; n < beats && is[0] != 27; n++) {
            boolean astray = BeatBounds.draw(is[2], 1) % 100 < stray;
            if (astray) {
                int side = BeatBounds.draw(is[2], 2) % 4;
                int x = is[0] % 8 + (side == 1 ? 1 : side == 3 ? -1 : 0);
                int y = is[0] / 8 + (side == 2 ? 1 : side == 0 ? -1 : 0);
                is[0] = x < 0 || x > 7 || y < 0 || y > 7 ? is[0] : 8 * y + x;
                is[1] = Math.min(99, is[1] + 1);
                is[2] = BeatBounds.next(is[2]);
            }
            is[2] = BeatBounds.next(is[2]);
        }
        return is;
    }

    private static LostRound deaf(int stray) {
        return Due.told("part 00000000;boy at 36 sings 0 ear 0;loud 0;stray " + stray);
    }

    private static void trial() {
        Doc.says("TRIAL of N BEATS (0 to 100) from now (draws, too; nothing stays): BOYS who are IN then, as bits; BAD of all together.");
        LostRound x = deaf(60);
        for (int n : new int[] {0, 1, 2, 3, 7, 8, 9, 50, 99, 100}) {
            for (int seed : new int[] {1, 5, -9}) {
                int[] due = strays(seed, 36, n, 60);
                x.seed(seed);
                Due.is("trial(" + n + ", false) from seed " + seed, x.trial(n, false), due[0] == 27 ? 1 : 0);
                Due.is("trial(" + n + ", true) from seed " + seed, x.trial(n, true), due[1]);
            }
        }
        Due.fails("trial(101, true)", Due.ARGUMENT, () -> x.trial(101, true));
        Due.fails("trial(-1, false)", Due.ARGUMENT, () -> x.trial(-1, false));
        Due.is("without boys", new LostRound().trial(100, false), 0);
        Due.is("without boys", new LostRound().trial(100, true), 0);
        LostRound y = TermBounds.shutIn();
        y.sing(98);
        Due.is("98 and 0", y.trial(0, true), 98);
        Due.is("98 and 1", y.trial(1, true), 99);
        Due.is("99 at most", y.trial(100, true), 99);
        LostRound six = Due.told("part 00000000;" + "boy at 27 sings 0 ear 0;".repeat(5) + "boy at 24 sings 0 ear 3");
        Due.is("five are in now", six.trial(0, false), 0b011111);
        Due.is("by 2", six.trial(2, false), 0b011111);
        Due.is("all by 3", six.trial(3, false), 0b111111);
    }

    private static void trialKeepsNothing() {
        Doc.says("(draws, too; nothing stays):");
        Consumer<LostRound> nothing = x -> { };
        kept("trial(100, true)", x -> x.trial(100, true), nothing);
        kept("trial(100, false)", x -> x.trial(100, false), nothing);
        kept("span(100, true)", x -> x.span(100, true), nothing);
        kept("span(100, false)", x -> x.span(100, false), nothing);
        kept("questions", KeptBounds::ask, nothing);
    }

    /** Each of the questions but those that use the tape up. */
    private static void ask(LostRound x) {
        x.soon(0);
        x.by(0, 1);
        x.best(1);
        x.all();
        x.should();
        x.path(0, 63);
        x.calls(0);
        x.first(0);
        x.can(0, 16);
        x.lost(1, 15);
        x.code();
        x.shifted(0, 1);
        x.silence(0);
        x.hush(0);
        x.quiet();
        x.mends(0);
        x.meet(0, 1);
        x.sooner();
        x.loudest();
        x.watch();
        x.clearings();
        x.splits();
        x.rests(0);
        x.hearing();
        x.ferny();
        x.out();
        x.far();
        x.worst();
        x.odds(1, 4);
        x.twins();
        x.ahead(0, 100);
        x.led(1, true);
        x.log(0, 4);
        x.boy(1, 8);
    }

    /** Two calls, behind which all is alike. */
    private static void kept(String call, Consumer<LostRound> one, Consumer<LostRound> other) {
        LostRound x = rich();
        LostRound y = rich();
        one.accept(x);
        other.accept(y);
        Due.is("fault() behind " + call, x.fault(), y.fault());
        Due.same("all behind " + call, Whole.of(x), Whole.of(y));
    }

    /** Something of everything: trees, ferns, boys, a law, an image, a log, acts, a fault, and a tape. */
    static LostRound rich() {
        LostRound x = Due.told("part 01230440;part 00000000;boy at 24 sings 0 ear 3;boy at 63 sings 1 ear 0;boy at 27 sings 1 ear 2"
            + ";trees 26;ferns 24 2;stray 60;beat 6;night 2");
        Due.law(x, "near 2 if silent");
        x.loud(5);
        x.seed(9);
        x.image();
        x.seed(77);
        Due.law(x, "far 2 if silent;stay if beat > 6 and boy < 1");
        x.sing(3);
        x.plant(40, true);
        x.tune(1, 1, 4);
        Due.wrongWood(x, "beat 9", 5);
        Due.put(x, "far 20;near 1");
        return x;
    }

    private static void span() {
        Doc.says("SPAN: the least and the greatest number of BOYS who are IN so from SEED 1, 2, .. 6.");
        LostRound x = deaf(70);
        boolean[] matters = new boolean[8];
        for (int cell = 0; cell < 64; cell++) {
            if (cell != 27) {
                x.send(0, cell);
                int in = 0;
                for (int seed = 0; seed <= 7; seed++) {
                    in |= strays(seed, cell, 10, 70)[0] == 27 ? 1 << seed : 0;
                }
                int of = in & 0b01111110;
                for (int seed : new int[] {0, 1, 6, 7}) {
                    int one = 1 << seed;
                    matters[seed] |= of == one || of == (0b01111110 & ~one) && (in & one) == 0 || of == 0 && (in & one) != 0;
                }
                Due.is("span(10, false) from " + cell, x.span(10, false), of == 0b01111110 ? 1 : 0);
                Due.is("span(10, true) from " + cell, x.span(10, true), of == 0 ? 0 : 1);
            }
        }
        Due.is("0 and 7 are no such seeds, 1 and 6 are", matters[0] && matters[1] && matters[6] && matters[7], true);
        spanBounds();
    }

    private static void spanBounds() {
        LostRound x = Due.told("part 00000000;" + "boy at 27 sings 0 ear 0;".repeat(5) + "boy at 28 sings 0 ear 0;loud 0;stray 100");
        Due.is("span(0, true)", x.span(0, true), 5);
        Due.is("span(0, false)", x.span(0, false), 5);
        Due.is("span(1, true)", x.span(1, true), 6);
        Due.is("span(1, false)", x.span(1, false), 5);
        Due.fails("span(101, true)", Due.ARGUMENT, () -> x.span(101, true));
        Due.fails("span(-1, true)", Due.ARGUMENT, () -> x.span(-1, true));
        Due.is("without boys", new LostRound().span(100, true), 0);
        LostRound six = Due.told("part 00000000;" + "boy at 27 sings 0 ear 0;".repeat(5) + "boy at 27 sings 0 ear 0");
        Due.is("all six", six.span(100, false) * 10 + six.span(0, true), 66);
        LostRound y = Due.told("part 77770777;fire 0;boy at 62 sings 0 ear 15;beat 1");
        Due.is("span(99, true)", y.span(99, true), 0);
        Due.is("span(100, false)", y.span(100, false), 1);
    }

    private static void led() {
        Doc.says("LED: how many rows of THE LOG are of a BOY; the CELL of the latest (none).");
        LostRound x = Due.told("part 00000000;boy at 26 sings 0 ear 1;boy at 63 sings 0 ear 0;boy at 27 sings 0 ear 0;trees 55;loud 0;stray 100");
        for (int boy = 0; boy < 3; boy++) {
            Due.is("led(" + boy + ", false) ahead of any", x.led(boy, false), 0);
            Due.is("led(" + boy + ", true) ahead of any", x.led(boy, true), LostRound.NONE);
        }
        x.sing(1);
        Due.is("led(0, false)", x.led(0, false), 1);
        Due.is("led(0, true)", x.led(0, true), 27);
        Due.is("led(1, false)", x.led(1, false), 1);
        Due.is("led(1, true)", x.led(1, true), x.boy(1, 0));
        Due.is("led(2, false)", x.led(2, false), 0);
        Due.is("led(2, true)", x.led(2, true), LostRound.NONE);
        x.send(0, 0);
        Due.is("the cell of the row, not of the boy", x.led(0, true), 27);
        x.send(1, 63);
        x.plant(62, true);
        x.call(0);
        x.sing(59);
        Due.is("60 of boy 1", x.led(1, false), 60);
        Due.is("the row of boy 0 is gone", x.led(0, false), 0);
        Due.is("and its cell", x.led(0, true), LostRound.NONE);
        Due.fails("led(3, true)", Due.INDEX, () -> x.led(3, true));
        Due.fails("led(-1, false)", Due.INDEX, () -> x.led(-1, false));
    }

    private static void undone() {
        Doc.says("UNDONE: the latest ACT not undone yet (12 are remembered; BEATS of one call are one):");
        LostRound x = new LostRound();
        Due.is("without acts", x.undo(), false);
        x.sing(120);
        x.sing(1);
        Due.is("two acts", x.count(12), 2);
        Due.is("undo()", x.undo(), true);
        Due.is("beats of the one call", x.count(7) + 10 * x.count(8), 150);
        Due.is("undo() again", x.undo(), true);
        Due.is("beats of the other call", x.count(7) + x.count(8), 0);
        Due.is("no more", x.undo(), false);
        x.loud(1);
        x.loud(2);
        x.undo();
        x.loud(3);
        x.undo();
        Due.is("the latest not undone yet", x.count(5), 1);
        x.undo();
        Due.is("and the one ahead of it", x.count(5), 4);
    }

    private static void twelveActs() {
        Doc.says("(12 are remembered;");
        for (int acts = 11; acts <= 13; acts++) {
            LostRound x = new LostRound();
            for (int n = 0; n < acts; n++) {
                x.loud(n);
            }
            Due.is("remembered of " + acts, x.count(12), Math.min(acts, 12));
            for (int n = 0; n < Math.min(acts, 12); n++) {
                Due.is("undo() " + n, x.undo(), true);
            }
            Due.is("undo() of none", x.undo(), false);
            Due.is("loud as it was", x.count(5), acts == 13 ? 0 : 4);
        }
        LostRound x = new LostRound();
        for (int n = 0; n < 40; n++) {
            x.loud(n % 16);
        }
        for (int n = 38; n >= 27; n--) {
            x.undo();
            Due.is("loud behind undo()", x.count(5), n % 16);
        }
        Due.is("no more", x.undo(), false);
    }

    private static void asAheadOfIt() {
        Doc.says("all is as ahead of it (but for the TAPE, fault(), THE IMAGE).");
        Consumer<LostRound> nothing = x -> { };
        undone("sing(120)", x -> x.sing(120), nothing);
        undone("fire(62)", x -> x.fire(62), nothing);
        undone("fire to a boy", x -> x.fire(x.boy(1, 0)), nothing);
        undone("plant(41, true)", x -> x.plant(41, true), nothing);
        undone("plant(26, false)", x -> x.plant(26, false), nothing);
        undone("part(0, 1)", x -> x.part(0, 1), nothing);
        undone("tune(0, 7, 7)", x -> x.tune(0, 7, 7), nothing);
        undone("call(1)", x -> x.call(1), nothing);
        undone("send(2, 0)", x -> x.send(2, 0), nothing);
        undone("loud(15)", x -> x.loud(15), nothing);
        LostRound full = TermBounds.shutIn();
        full.sing(61);
        full.image();
        Due.is("a trial", full.trial(30, true), 91);
        full.span(30, true);
        rowsOf61(full);
        full.sing(30);
        Due.is("the latest row", full.log(0, 0) * 8 + full.log(0, 1), 90);
        full.undo();
        rowsOf61(full);
        full.sing(40);
        full.back();
        rowsOf61(full);
        // The SEED is as it was ahead of the act, also where another one was told since.
        LostRound x = rich();
        x.loud(3);
        x.seed(123);
        x.undo();
        LostRound y = rich();
        Due.is("the seed", x.seed(0), y.seed(0));
    }

    /** The log of 61 beats, in each of which one went astray. */
    private static void rowsOf61(LostRound x) {
        Due.is("rows", x.count(11), 60);
        for (int ago = 0; ago < 60; ago += 59) {
            Due.is("the row " + ago + " ago", x.log(ago, 0) * 8 + x.log(ago, 1), 60 - ago);
        }
        Due.is("a row amid", x.log(30, 0) * 8 + x.log(30, 1), 30);
    }

    private static void undone(String call, Consumer<LostRound> act, Consumer<LostRound> nothing) {
        kept(call + ", undone", x -> {
            act.accept(x);
            Due.is("undo() of " + call, x.undo(), true);
        }, nothing);
    }

    private static void butFor() {
        Doc.says("(but for the TAPE, fault(), THE IMAGE).");
        LostRound x = new LostRound();
        x.loud(7);
        x.image();
        Due.wrongWood(x, "beat ?", 5);
        Due.put(x, "beat 3");
        Due.is("undo()", x.undo(), true);
        Due.is("fault()", x.fault(), 5);
        Due.is("the tape", x.wood(), 1);
        Due.is("by which the beat is 3", x.count(7), 3);
        Due.is("the image", x.back(), true);
        Due.is("by which loud is 7", x.count(5), 7);
        LostRound y = new LostRound();
        Due.put(y, "beat 3");
        y.loud(7);
        Due.fails("a text used up behind an act", Due.ARGUMENT, y::law);
        y.undo();
        Due.is("is used up still", y.feed(0, 0, 0, 0, 0), 20);
        Due.is("and its fault tells", y.fault(), 0);
    }

    private static void noneRemembered() {
        Doc.says("A text, going back: none are remembered.");
        LostRound x = new LostRound();
        x.image();
        x.loud(1);
        Due.wood(x, "");
        Due.is("behind a text of the wood", x.count(12), 0);
        Due.is("undo()", x.undo(), false);
        x.loud(2);
        Due.law(x, "");
        Due.is("behind a law", x.count(12), 0);
        Due.is("undo()", x.undo(), false);
        x.loud(3);
        x.back();
        Due.is("behind going back", x.count(12), 0);
        Due.is("undo()", x.undo(), false);
        Due.is("loud of the image", x.count(5), 4);
        x.loud(5);
        Due.wrongWood(x, "?", 0);
        Due.wrongLaw(x, "?", 0);
        Due.is("a wrong text changes none of it", x.count(12), 1);
        LostRound y = new LostRound();
        for (int n = 0; n < 12; n++) {
            Due.wood(y, "");
        }
        y.loud(5);
        Due.fails("a text beyond twelve", Due.UNSUPPORTED, y::wood);
        Due.is("nor does that", y.count(12), 1);
        Due.is("nor going back to none", y.back(), false);
        Due.is("one act still", y.count(12), 1);
        y.image();
        Due.is("nor an image", y.count(12), 1);
    }

    private static void image() {
        Doc.says("THE IMAGE (one) of all may be kept, and gone back to");
        LostRound x = new LostRound();
        Due.is("none at first", x.back(), false);
        x.loud(1);
        x.image();
        x.loud(2);
        x.image();
        x.loud(3);
        Due.is("back()", x.back(), true);
        Due.is("one: the later", x.count(5), 2);
        x.loud(9);
        Due.is("back() again", x.back(), true);
        Due.is("the same", x.count(5), 2);
        LostRound law = WayBounds.byAHundred(1);
        Due.law(law, "far 1;far 2;stay if beat > 0");
        law.image();
        Due.law(law, "near 20");
        law.back();
        Due.is("lines of its law", law.count(3), 3);
        Due.is("by which he hears", law.boy(0, 6), 1);
        Due.is("and stays", law.soon(0), LostRound.NONE);
        Due.law(law, "");
        law.back();
        law.back();
        Due.is("its law again", law.count(3), 3);
        LostRound none = new LostRound();
        none.image();
        Due.law(none, "stay");
        none.back();
        Due.is("none, if there was none", none.count(3), LostRound.NONE);
        // All of it: behind going back everything is as in another one that was left as it was then, but for the acts.
        kept("texts, laws and acts, gone back", y -> {
            y.image();
            Due.put(y, "part 77777777;boy at 0 sings 2 ear 1;boy at 9 sings 0 ear 1;trees 1;ferns 2 3;fire 40;loud 1;stray 2;beat 3;night 4");
            y.plant(40, false);
            y.wood();
            Due.law(y, "stay");
            y.sing(50);
            y.send(0, 62);
            y.seed(5);
            y.back();
            y.back();
            Due.wrongWood(y, "beat 9", 5);
            Due.put(y, "far 20;near 1");
        }, y -> {
            y.image();
            y.back();
            Due.put(y, "far 20;near 1");
        });
    }

    private static void imageButFor() {
        Doc.says("(but for the TAPE, fault() and THE IMAGE itself).");
        LostRound x = new LostRound();
        Due.wrongWood(x, "beat ?", 5);
        Due.put(x, "beat 1");
        x.image();
        Due.wrongLaw(x, "stay if ?", 8);
        Due.put(x, "beat 3");
        Due.is("back()", x.back(), true);
        Due.is("fault()", x.fault(), 8);
        Due.is("the tape", x.wood(), 1);
        Due.is("by which the beat is 3", x.count(7), 3);
        Due.is("the image is there still", x.back(), true);
        Due.is("by which it is 0", x.count(7), 0);
        LostRound y = new LostRound();
        y.image();
        for (int n = 0; n < 12; n++) {
            Due.wood(y, "");
        }
        y.back();
        Due.is("texts are of the image, too", y.count(2), 0);
        Due.is("and more may come", Due.wood(y, ""), 1);
    }

    private static void sets() {
        Doc.says("Sets are bits; of none they count for nothing.");
        LostRound x = new LostRound();
        Due.is("hearing()", x.hearing(), 0);
        Due.is("out()", x.out(), 0);
        Due.is("watch()", x.watch(), 0);
        Due.is("code()", x.code(), 0);
        Due.is("count(10)", x.count(10), 0);
        Due.is("trial(5, false)", x.trial(5, false), 0);
    }
}
