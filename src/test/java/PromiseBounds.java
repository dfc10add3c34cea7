/** What each promise says of its call beside the words in capitals. */
final class PromiseBounds {
    private PromiseBounds() {
    }

    static void run() {
        newObject();
        feed();
        end();
        law();
        cellsAndNotes();
        boy();
        sing();
        fire();
        plant();
        partAndTune();
        call();
        send();
        loud();
        nones();
        zeroes();
        sets();
        numbers();
        log();
        seed();
        undo();
        imageAndBack();
        count();
    }

    private static void newObject() {
        Doc.promises(1, "A wood with a fire, and nobody lost.");
        LostRound x = new LostRound();
        int[] due = {0, 0, 0, LostRound.NONE, 27, 4, 50, 0, 0, 0, 0, 0, 0};
        for (int what = 0; what < due.length; what++) {
            Due.is("count(" + what + ")", x.count(what), due[what]);
        }
        Due.is("out()", x.out(), 0);
        Due.is("dense()", x.dense(), 0);
        Due.is("ferny()", x.ferny(), LostRound.NONE);
        Due.is("fault()", x.fault(), LostRound.NONE);
        Due.is("log(0, 0)", x.log(0, 0), LostRound.NONE);
        Due.is("undo()", x.undo(), false);
        Due.is("back()", x.back(), false);
        Due.is("the tape", x.end(1), false);
        Due.is("seed(2)", x.seed(2), 1);
    }

    private static void feed() {
        Doc.promises(2, "Twenty bytes come behind the TAPE, of each number the highest first: how many it has; "
            + "NONE, and none come, if it would have more than 400.");
        LostRound x = new LostRound();
        for (int n = 1; n <= 20; n++) {
            Due.is("feed number " + n, x.feed(0x20202020, 0x20202020, 0x20202020, 0x20202020, 0x20202020), 20 * n);
        }
        Due.is("feed number 21", x.feed(0, 0, 0, 0, 0), LostRound.NONE);
        Due.is("of which none came", x.end(401), false);
        Due.is("nor one at the end", x.law(), 0);
        for (int n = 1; n <= 20; n++) {
            x.feed(0, 0, 0, 0, 0);
        }
        Due.is("end(381)", x.end(381), true);
        Due.is("feed behind 381", x.feed(0, 0, 0, 0, 0), LostRound.NONE);
        Due.is("of which none came", x.end(382), false);
        Due.is("end(380)", x.end(380), true);
        Due.is("feed behind 380", x.feed(0, 0, 0, 0, 0), 400);
        x.end(0);
        // "ferns 12 9;ferns 3 4" in five numbers.
        Due.is("feed on an empty tape", x.feed(0x6665726e, 0x73203132, 0x20393b66, 0x65726e73, 0x20332034), 20);
        Due.is("wood()", x.wood(), 1);
        Due.is("the highest first", x.cell(12, 1) * 10 + x.cell(3, 1), 94);
        Due.is("behind one another", x.feed(0x6665726e, 0x73203520, 0x20202020, 0x20202020, 0x20202020), 20);
        Due.is("a second feed", x.feed(0x37202020, 0x20202020, 0x20202020, 0x20202020, 0x20202020), 40);
        x.wood();
        Due.is("cell(5, 1)", x.cell(5, 1), 7);
        // A byte above 127, and the highest bit of a number.
        x.feed(0xff000000, 0, 0, 0, 0);
        Due.fails("law of a byte 255", Due.ARGUMENT, x::law);
        Due.is("fault()", x.fault(), 0);
    }

    private static void end() {
        Doc.promises(3, "The TAPE has its first n bytes alone: true; false, and nothing happens, if it has fewer, or n is below 0.");
        LostRound x = new LostRound();
        Due.is("end(0) of none", x.end(0), true);
        Due.is("end(1) of none", x.end(1), false);
        Due.put(x, "stay;far 1?");
        Due.is("end(12) of 11", x.end(12), false);
        Due.is("end(-1)", x.end(-1), false);
        Due.is("end(Integer.MIN_VALUE)", x.end(Integer.MIN_VALUE), false);
        Due.is("end(Integer.MAX_VALUE)", x.end(Integer.MAX_VALUE), false);
        Due.is("nothing happened: feed", x.feed(0, 0, 0, 0, 0), 31);
        Due.is("end(11)", x.end(11), true);
        Due.is("end(11) again", x.end(11), true);
        Due.is("end(10)", x.end(10), true);
        Due.is("the first ten alone", x.law(), 2);
        Due.is("end(1) of none again", x.end(1), false);
        Due.put(x, "stay");
        Due.is("end(0)", x.end(0), true);
        Due.is("none are left", x.law(), 0);
    }

    private static void law() {
        Doc.promises(5, "Uses the TAPE up: THE LAW: how many LINES. IllegalArgumentException: the text is wrong.");
        LostRound x = new LostRound();
        for (int n = 1; n <= 12; n++) {
            Due.is("lines", Due.law(x, "far 1" + ";near 1".repeat(n - 1)), n);
            Due.is("the tape is used up", x.end(1), false);
            Due.is("count(3)", x.count(3), n);
        }
        Due.wrongLaw(x, "far 1" + ";near 1".repeat(12), 5 + 11 * 7 + 1);
        Due.is("the tape is used up by a wrong one, too", x.end(1), false);
        Due.is("count(3) still", x.count(3), 12);
        Due.is("of an empty tape", x.law(), 0);
        Due.is("it is in place of the one before", x.count(3), 0);
    }

    private static void cellsAndNotes() {
        Doc.promises(7, "Of a CELL what 0 1 with TREES, 1 FERNS, 2 NEAR.");
        LostRound x = Due.told("trees 63;ferns 63 9;ferns 0 1;part 70000001");
        Due.is("cell(63, 0)", x.cell(63, 0), 1);
        Due.is("cell(63, 1)", x.cell(63, 1), 9);
        Due.is("cell(63, 2)", x.cell(63, 2), 8);
        Due.is("cell(0, 0)", x.cell(0, 0), 0);
        Due.is("cell(0, 1)", x.cell(0, 1), 1);
        Due.is("cell(0, 2)", x.cell(0, 2), 6);
        Doc.promises(8, "A NOTE of a PART.");
        Due.is("note(0, 0)", x.note(0, 0), 7);
        Due.is("note(0, 7)", x.note(0, 7), 1);
        Due.fails("note(0, 8)", Due.INDEX, () -> x.note(0, 8));
        Due.fails("note(1, 0)", Due.INDEX, () -> x.note(1, 0));
    }

    private static void boy() {
        Doc.promises(9, "6 1 if he HEARS now (0, if IN)");
        LostRound x = Due.told("part 00000000;part 11111111;boy at 27 sings 1 ear 15;boy at 31 sings 0 ear 0;boy at 39 sings 1 ear 0;stray 100");
        int[][] due = {{27, 1, 15, 1, 0, 0, 0, 27, 0}, {31, 0, 0, 0, 0, 4, 1, 30, 0}, {39, 1, 0, 0, 0, 5, 0, 39, 0}};
        for (int boy = 0; boy < 3; boy++) {
            for (int what = 0; what < 9; what++) {
                Due.is("boy(" + boy + ", " + what + ")", x.boy(boy, what), due[boy][what]);
            }
        }
        x.sing(1);
        Due.is("bad of the one who strays", x.boy(2, 4), 1);
        Due.is("his share", x.boy(2, 8), 100);
        Due.is("share of another", x.boy(1, 8), 0);
    }

    private static void sing() {
        Doc.promises(10, "So many BEATS more (1 to 120): how many BOYS came IN in these. IllegalArgumentException: they are none.");
        LostRound x = Due.told("part 00000000;boy at 28 sings 0 ear 15;boy at 26 sings 0 ear 15;boy at 30 sings 0 ear 15;boy at 27 sings 0 ear 15");
        Due.is("sing(1): two", x.sing(1), 2);
        Due.is("sing(1): none", x.sing(1), 0);
        Due.is("sing(120): one", x.sing(120), 1);
        Due.is("122 beats", x.count(7) + 8 * x.count(8), 122);
        Due.is("sing(1): none any more", x.sing(1), 0);
        Due.fails("sing(0)", Due.ARGUMENT, () -> x.sing(0));
        Due.fails("sing(121)", Due.ARGUMENT, () -> x.sing(121));
        Due.is("123 beats", x.count(7) + 8 * x.count(8), 123);
        Due.is("without boys", new LostRound().sing(120), 0);
    }

    private static void fire() {
        Doc.promises(11, "THE FIRE is put to a CELL: where it was. IllegalStateException: there are TREES.");
        LostRound x = Due.told("trees 1");
        Due.is("fire(0)", x.fire(0), 27);
        Due.is("fire(63)", x.fire(63), 0);
        Due.is("fire(63) again", x.fire(63), 63);
        Due.fails("fire(1)", Due.STATE, () -> x.fire(1));
        Due.is("where it is", x.count(4), 63);
        x.plant(1, false);
        Due.is("fire(1), felled", x.fire(1), 63);
    }

    private static void plant() {
        Doc.promises(12, "TREES are planted, or felled: whether that changed. IllegalStateException: planted, where THE FIRE is, or a BOY who is not IN.");
        LostRound x = Due.told("part 00000000;boy at 0 sings 0 ear 0;boy at 63 sings 0 ear 0");
        for (int cell : new int[] {1, 32, 62}) {
            Due.is("planted", x.plant(cell, true), true);
            Due.is("planted again", x.plant(cell, true), false);
            Due.is("there are trees", x.cell(cell, 0), 1);
            Due.is("felled", x.plant(cell, false), true);
            Due.is("felled again", x.plant(cell, false), false);
            Due.is("there are none", x.cell(cell, 0), 0);
        }
        for (int cell : new int[] {27, 0, 63}) {
            Due.fails("plant(" + cell + ", true)", Due.STATE, () -> x.plant(cell, true));
            Due.is("plant(" + cell + ", false)", x.plant(cell, false), false);
        }
        x.call(0);
        Due.is("where he was who is in", x.plant(0, true), true);
        Due.fails("where the other one is still", Due.STATE, () -> x.plant(63, true));
        x.fire(26);
        Due.is("where the fire was", x.plant(27, true), true);
        Due.is("dense()", x.dense(), 2);
    }

    private static void partAndTune() {
        Doc.promises(13, "Another PART: which it was.");
        LostRound x = Due.told("part 00000000;part 11111111;part 22222222;boy at 28 sings 2 ear 15;boy at 27 sings 0 ear 0");
        Due.is("part(0, 0)", x.part(0, 0), 2);
        Due.is("part(0, 1)", x.part(0, 1), 0);
        Due.is("part(0, 1) again", x.part(0, 1), 1);
        Due.is("part(1, 2) of one who is in", x.part(1, 2), 0);
        Due.is("boy(0, 1)", x.boy(0, 1), 1);
        Due.is("he goes by it", x.boy(0, 7), 20);
        Doc.promises(14, "A NOTE is changed: which it was. IllegalArgumentException: it is none (0 to 7).");
        Due.is("tune(1, 0, 7)", x.tune(1, 0, 7), 1);
        Due.is("tune(1, 0, 0)", x.tune(1, 0, 0), 7);
        Due.is("tune(1, 7, 3)", x.tune(1, 7, 3), 1);
        Due.is("tune(1, 7, 3) again", x.tune(1, 7, 3), 3);
        Due.fails("tune(1, 0, 8)", Due.ARGUMENT, () -> x.tune(1, 0, 8));
        Due.fails("tune(1, 0, -1)", Due.ARGUMENT, () -> x.tune(1, 0, -1));
        Due.is("he goes by it", x.boy(0, 7), 27);
        Due.is("the notes of the others", x.note(0, 0) + x.note(0, 7) + x.note(2, 0) + x.note(1, 6), 3);
    }

    private static void call() {
        Doc.promises(15, "Called in: the CELL where he was. IllegalStateException: he is IN.");
        LostRound x = Due.told("part 00000000;boy at 0 sings 0 ear 0;boy at 63 sings 0 ear 0;boy at 27 sings 0 ear 0");
        Due.is("call(0)", x.call(0), 0);
        Due.is("call(1)", x.call(1), 63);
        for (int boy = 0; boy < 3; boy++) {
            int one = boy;
            Due.fails("call(" + boy + ") who is in", Due.STATE, () -> x.call(one));
            Due.is("he is in", x.boy(boy, 3) * 100 + x.boy(boy, 0), 127);
        }
        Due.is("no rows of it", x.count(11), 0);
    }

    private static void send() {
        Doc.promises(16, "Sent off to a CELL (IN or not, he is not IN then): where he was. IllegalStateException: there are TREES, or THE FIRE.");
        LostRound x = Due.told("part 00000000;boy at 27 sings 0 ear 0;boy at 5 sings 0 ear 0;trees 1");
        Due.is("send(0, 0) who is in", x.send(0, 0), 27);
        Due.is("he is not in", x.boy(0, 3), 0);
        Due.is("send(0, 63)", x.send(0, 63), 0);
        Due.is("send(0, 63) again", x.send(0, 63), 63);
        Due.is("to where another one is", x.send(0, 5), 63);
        Due.fails("to trees", Due.STATE, () -> x.send(0, 1));
        Due.fails("to the fire", Due.STATE, () -> x.send(0, 27));
        Due.is("where he is", x.boy(0, 0), 5);
        x.fire(28);
        Due.is("to where the fire was", x.send(0, 27), 5);
    }

    private static void loud() {
        Doc.promises(17, "LOUD is told: what it was. IllegalArgumentException: it is none (0 to 15).");
        LostRound x = new LostRound();
        Due.is("loud(0)", x.loud(0), 4);
        Due.is("loud(15)", x.loud(15), 0);
        Due.is("loud(15) again", x.loud(15), 15);
        Due.fails("loud(16)", Due.ARGUMENT, () -> x.loud(16));
        Due.fails("loud(-1)", Due.ARGUMENT, () -> x.loud(-1));
        Due.is("count(5)", x.count(5), 15);
    }

    /** One who sits in a corner and hears nothing. */
    private static LostRound hopeless() {
        return Due.told("part 77777777;part 12121212;boy at 0 sings 0 ear 0;boy at 63 sings 1 ear 0;trees 1;trees 8;loud 0");
    }

    private static void nones() {
        LostRound x = hopeless();
        none(18, "PATH; NONE.", x.path(0, 63));
        none(19, "SOON; NONE.", x.soon(0));
        none(20, "BY; NONE.", x.by(0, 1));
        none(21, "BEST; NONE.", x.best(0));
        none(22, "ALL IN (0 without BOYS); NONE.", x.all());
        none(23, "SHOULD; NONE.", x.should());
        none(24, "CALLS (0, if he is IN); NONE.", x.calls(0));
        none(25, "FIRST; NONE.", x.first(0));
        none(32, "SHIFTED; NONE. IllegalArgumentException: both are one.", x.shifted(0, 1));
        none(36, "MENDS; NONE.", x.mends(0));
        none(37, "MEET; NONE. IllegalArgumentException: both are one.", x.meet(0, 1));
        none(38, "SOONER; NONE.", x.sooner());
        none(39, "LOUDEST; NONE.", x.loudest());
        none(46, "FERNY; NONE.", x.ferny());
        none(49, "WORST; NONE.", x.worst());
        none(31, "CODE, as bits (0 with fewer than two PARTS); NONE.", Due.told("part 01234567;part 01234567").code());
        none(35, "QUIET; NONE.", new LostRound().quiet());
        none(48, "FAR OFF; NONE.", new LostRound().far());
        x.call(0);
        none(43, "RESTS, as bits; NONE.", x.rests(0));
        Due.is("rests(1)", x.rests(1), 9);
        Due.is("shifted(1, 0)", x.shifted(1, 0), LostRound.NONE);
    }

    private static void none(int promise, String words, int got) {
        Doc.promises(promise, words);
        Due.is("promise " + promise, got, LostRound.NONE);
    }

    private static void zeroes() {
        LostRound x = new LostRound();
        Doc.promises(22, "ALL IN (0 without BOYS);");
        Due.is("all()", x.all(), 0);
        Doc.promises(31, "(0 with fewer than two PARTS);");
        Due.is("code()", x.code(), 0);
        Due.wood(x, "part 00000000;boy at 27 sings 0 ear 0");
        Due.is("code() of one", x.code(), 0);
        Doc.promises(24, "CALLS (0, if he is IN);");
        Due.is("calls(0)", x.calls(0), 0);
        Doc.promises(33, "SILENCE.");
        Due.is("silence(0)", x.silence(0), 8);
        Doc.promises(34, "HUSH.");
        Due.is("hush(0)", x.hush(0), 8);
        Doc.promises(41, "CLEARINGS.");
        Due.is("clearings()", x.clearings(), 1);
        Doc.promises(42, "SPLITS.");
        Due.is("splits()", x.splits(), 0);
        Doc.promises(45, "DENSE.");
        Due.is("dense()", x.dense(), 0);
        Doc.promises(51, "TWINS.");
        Due.is("twins()", x.twins(), 0);
    }

    private static void sets() {
        LostRound x = Due.told("part 00000000;" + "boy at 28 sings 0 ear 0;".repeat(5) + "boy at 63 sings 0 ear 0");
        Doc.promises(40, "WATCH, as bits.");
        Due.is("watch()", x.watch(), 0b100001);
        Doc.promises(44, "HEARING, as bits.");
        Due.is("hearing()", x.hearing(), 0b011111);
        Doc.promises(47, "OUT, as bits.");
        Due.is("out()", x.out(), 0b111111);
        Doc.promises(53, "TRIAL: BOYS, as bits (bad false), or BAD. IllegalArgumentException: N is none.");
        Due.is("trial(1, false)", x.trial(1, false), 0b011111);
        Due.wood(x, "stray 100");
        Due.is("trial(1, true)", x.trial(1, true), 1);
        Due.fails("trial(101, false)", Due.ARGUMENT, () -> x.trial(101, false));
        Due.fails("trial(-1, false)", Due.ARGUMENT, () -> x.trial(-1, false));
        Doc.promises(54, "SPAN: the least (most false), or the greatest. IllegalArgumentException: N is none.");
        Due.is("span(1, false)", x.span(1, false), 5);
        Due.is("span(1, true)", x.span(1, true), 5);
        Due.is("span(0, true)", x.span(0, true), 0);
        Due.fails("span(101, true)", Due.ARGUMENT, () -> x.span(101, true));
        Due.fails("span(-1, false)", Due.ARGUMENT, () -> x.span(-1, false));
    }

    private static void numbers() {
        LostRound x = Due.told("part 00000000;boy at 31 sings 0 ear 0;boy at 0 sings 0 ear 0");
        Doc.promises(26, "CAN. IllegalArgumentException: N is none.");
        Due.is("can(0, 0)", x.can(0, 0), 1);
        Due.fails("can(0, 17)", Due.ARGUMENT, () -> x.can(0, 17));
        Due.fails("can(0, -1)", Due.ARGUMENT, () -> x.can(0, -1));
        Doc.promises(27, "LOST. IllegalArgumentException: EAR is none (0 to 15).");
        Due.is("lost(0, 0)", x.lost(0, 0), 0);
        Due.is("lost(0, 15)", x.lost(0, 15), 63);
        Due.fails("lost(0, 16)", Due.ARGUMENT, () -> x.lost(0, 16));
        Due.fails("lost(0, -1)", Due.ARGUMENT, () -> x.lost(0, -1));
        Doc.promises(50, "ODDS. IllegalArgumentException: N is none.");
        Due.is("odds(1, 4)", x.odds(1, 4), 625);
        Due.fails("odds(1, 5)", Due.ARGUMENT, () -> x.odds(1, 5));
        Due.fails("odds(1, -1)", Due.ARGUMENT, () -> x.odds(1, -1));
        Doc.promises(52, "AHEAD of a BOY by N BEATS: his CELL. IllegalArgumentException: N is none.");
        Due.is("ahead(0, 3)", x.ahead(0, 3), 28);
        Due.is("ahead(0, 4)", x.ahead(0, 4), 27);
        Due.is("ahead(0, 100)", x.ahead(0, 100), 27);
        Due.fails("ahead(0, 101)", Due.ARGUMENT, () -> x.ahead(0, 101));
        Due.fails("ahead(0, -1)", Due.ARGUMENT, () -> x.ahead(0, -1));
        Doc.promises(55, "LED: how many rows (cell false), or the CELL; NONE.");
        Due.is("led(0, false)", x.led(0, false), 0);
        Due.is("led(0, true)", x.led(0, true), LostRound.NONE);
        x.sing(4);
        Due.is("led(0, false) behind four", x.led(0, false), 1);
        Due.is("led(0, true) behind four", x.led(0, true), 27);
    }

    private static void log() {
        Doc.promises(56, "THE LOG so many ago (0 the latest) what 0 NIGHT, 1 BEAT, 2 the BOY, 3 0 or 1, 4 the CELL; NONE without.");
        LostRound x = Due.told("part 00000000;boy at 63 sings 0 ear 0;boy at 28 sings 0 ear 15;stray 100;trees 62;trees 55;loud 0;night 5;beat 6");
        for (int what = 0; what <= 4; what++) {
            Due.is("log(0, " + what + ") without", x.log(0, what), LostRound.NONE);
        }
        x.sing(1);
        int[][] due = {{5, 6, 1, 0, 27}, {5, 6, 0, 1, 63}};
        for (int ago = 0; ago < 2; ago++) {
            for (int what = 0; what <= 4; what++) {
                Due.is("log(" + ago + ", " + what + ")", x.log(ago, what), due[ago][what]);
            }
        }
        for (int ago : new int[] {2, -1, 59, 60, Integer.MAX_VALUE, Integer.MIN_VALUE}) {
            Due.is("log(" + ago + ", 0)", x.log(ago, 0), LostRound.NONE);
        }
        Due.fails("log(2, 5)", Due.ELEMENT, () -> x.log(2, 5));
        Due.fails("log(0, -1)", Due.ELEMENT, () -> x.log(0, -1));
    }

    private static void seed() {
        Doc.promises(57, "SEED: what it was.");
        LostRound x = new LostRound();
        int before = 1;
        for (int seed : new int[] {0, -1, Integer.MIN_VALUE, Integer.MAX_VALUE, 7}) {
            Due.is("seed(" + seed + ")", x.seed(seed), before);
            before = seed;
        }
        Due.is("it is no act", x.count(12), 0);
    }

    private static void undo() {
        Doc.promises(58, "UNDONE: whether there was one.");
        LostRound x = new LostRound();
        Due.is("undo() of none", x.undo(), false);
        x.sing(1);
        Due.is("undo() of one", x.undo(), true);
        Due.is("undo() of none again", x.undo(), false);
        Due.is("count(12)", x.count(12), 0);
    }

    private static void imageAndBack() {
        Doc.promises(59, "THE IMAGE is kept.");
        LostRound x = new LostRound();
        x.loud(9);
        x.image();
        Due.is("acts are as they were", x.count(12), 1);
        Due.is("undo()", x.undo(), true);
        Due.is("loud", x.count(5), 4);
        Due.is("back()", x.back(), true);
        Due.is("loud of the image", x.count(5), 9);
        Doc.promises(60, "One goes back to THE IMAGE: true; false, and nothing happens, if none was kept.");
        LostRound y = KeptBounds.rich();
        Due.is("back() to one", y.back(), true);
        LostRound z = new LostRound();
        z.loud(9);
        Due.wrongWood(z, "?", 0);
        Due.put(z, "stay");
        Due.is("back() to none", z.back(), false);
        Due.is("loud", z.count(5), 9);
        Due.is("acts", z.count(12), 1);
        Due.is("fault()", z.fault(), 0);
        Due.is("the tape", z.law(), 1);
    }

    private static void count() {
        Doc.promises(61, "0 PARTS, 1 BOYS, 2 texts of THE WOOD, 3 LINES of THE LAW (NONE without one), 4 the CELL of THE FIRE, 5 LOUD, 6 STRAY, 7 BEAT, "
            + "8 NIGHT, 9 FERNS of all together, 10 BOYS who are IN, as bits, 11 rows of THE LOG, 12 acts that can be UNDONE. NONE for another what.");
        LostRound x = new LostRound();
        Due.is("count(3) without a law", x.count(3), LostRound.NONE);
        Due.law(x, "");
        Due.is("count(3) of an empty law", x.count(3), 0);
        for (int what : new int[] {-1, 13, Integer.MIN_VALUE, Integer.MAX_VALUE}) {
            Due.is("count(" + what + ")", x.count(what), LostRound.NONE);
        }
        Due.wood(x, "part 00000000;part 00000000;boy at 27 sings 0 ear 0;boy at 26 sings 0 ear 15;boy at 0 sings 0 ear 15;loud 15;stray 100;beat 7;night 999");
        Due.law(x, "far 1;far 2;near 3;stay if boy > 1");
        x.sing(2);
        x.fire(63);
        int[] due = {2, 3, 1, 4, 63, 15, 100, 1, 1000, 0, 0b011, 1, 2};
        for (int what = 0; what <= 12; what++) {
            Due.is("count(" + what + ")", x.count(what), due[what]);
        }
        LostRound y = new LostRound();
        for (int cell = 0; cell < 64; cell += 8) {
            StringBuilder text = new StringBuilder("ferns " + cell + " 9");
            for (int next = cell + 1; next < cell + 8; next++) {
                text.append(";ferns ").append(next).append(" 9");
            }
            Due.wood(y, text.toString());
        }
        Due.is("nine ferns in each cell", y.count(9), 576);
    }
}
