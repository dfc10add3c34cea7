/** The words in capitals: the opening and the first paragraph of the terms. */
final class TermBounds {
    private TermBounds() {
    }

    static void run() {
        callsOfAnObject();
        cells();
        sides();
        treesAndFerns();
        fire();
        near();
        parts();
        notes();
        boys();
        whoIsIn();
        loud();
        stray();
        beat();
        night();
        bad();
    }

    private static void callsOfAnObject() {
        Doc.says("An object is used for at most 512 calls after it has been made; what later calls answer is free.");
        // Three calls to tell "night 999", 508 to sing fifteen nights each: the farthest night there can be.
        LostRound x = new LostRound();
        x.feed(0x6e696768, 0x74203939, 0x39000000, 0, 0);
        x.end(9);
        x.wood();
        for (int call = 4; call <= 511; call++) {
            x.sing(120);
        }
        Due.is("the night by the 512th call", x.count(8), 999 + 508 * 15);
    }

    private static void cells() {
        Doc.says("CELLS 0 to 63: eight rows of eight, X a CELL modulo 8, Y a CELL by 8, rounded down.");
        LostRound x = Due.told("part 77777777;boy at 1 sings 0 ear 0;loud 0");
        Due.is("cell(0, 0)", x.cell(0, 0), 0);
        Due.is("cell(63, 0)", x.cell(63, 0), 0);
        Due.fails("cell(-1, 0)", Due.INDEX, () -> x.cell(-1, 0));
        Due.fails("cell(64, 0)", Due.INDEX, () -> x.cell(64, 0));
        for (int[] at : new int[][] {{0, 0, 0}, {7, 7, 0}, {8, 0, 1}, {9, 1, 1}, {55, 7, 6}, {56, 0, 7}, {63, 7, 7}}) {
            x.send(0, at[0]);
            Due.law(x, "far 20 if x+1>" + at[1] + " and x<" + (at[1] + 1) + " and y+1>" + at[2] + " and y<" + (at[2] + 1));
            Due.is("x and y of " + at[0], x.boy(0, 6), 1);
            Due.law(x, "far 20 if x<" + at[1] + " or x>" + at[1] + " or y<" + at[2] + " or y>" + at[2]);
            Due.is("x and y of " + at[0] + " are no others", x.boy(0, 6), 0);
        }
    }

    private static void sides() {
        Doc.says("SIDES 1 up (Y is 1 less), 2 right (X is 1 more), 3 down, 4 left.");
        LostRound x = Due.told("part 11111111;part 22222222;part 33333333;part 44444444;boy at 36 sings 0 ear 15");
        int[] due = {28, 37, 44, 35};
        for (int side = 1; side <= 4; side++) {
            x.part(0, side - 1);
            Due.is("next to side " + side, x.boy(0, 7), due[side - 1]);
        }
    }

    private static void treesAndFerns() {
        Doc.says("Of each CELL TREES or not (not at first) and FERNS 0 to 9 (0 at first).");
        LostRound x = new LostRound();
        for (int cell = 0; cell < 64; cell++) {
            Due.is("trees in " + cell + " at first", x.cell(cell, 0), 0);
            Due.is("ferns in " + cell + " at first", x.cell(cell, 1), 0);
        }
        Due.wood(x, "ferns 0 9;ferns 63 9;trees 0;trees 63");
        Due.is("ferns told", x.cell(0, 1) + x.cell(63, 1), 18);
        Due.is("trees told", x.cell(0, 0) + x.cell(63, 0), 2);
        Due.wrongWood(x, "ferns 0 10", 8);
        Due.wood(x, "ferns 0 0");
        Due.is("ferns told away", x.cell(0, 1), 0);
        Due.is("the trees there stay", x.cell(0, 0), 1);
    }

    private static void fire() {
        Doc.says("THE FIRE is in a CELL (27 at first), which never has TREES.");
        LostRound x = new LostRound();
        Due.is("the fire at first", x.count(4), 27);
        Due.fails("plant(27, true)", Due.STATE, () -> x.plant(27, true));
        Due.wrongWood(x, "trees 27", 6);
        for (int corner : new int[] {0, 7, 56, 63}) {
            x.fire(corner);
            Due.fails("plant(" + corner + ", true)", Due.STATE, () -> x.plant(corner, true));
            Due.wrongWood(x, "trees " + corner, 6);
        }
        x.plant(27, true);
        Due.fails("fire(27)", Due.STATE, () -> x.fire(27));
        Due.wrongWood(x, "fire 27", 5);
        Due.is("the fire stays", x.count(4), 63);
        Due.is("no trees there", x.cell(63, 0), 0);
    }

    private static void near() {
        Doc.says("NEAR of a CELL: how far X and Y of it are from those of THE FIRE, together (whatever is between).");
        LostRound x = new LostRound();
        for (int cell = 0; cell < 64; cell++) {
            Due.is("near of " + cell, x.cell(cell, 2), Math.abs(cell % 8 - 3) + Math.abs(cell / 8 - 3));
        }
        x.fire(0);
        Due.is("near of the fire", x.cell(0, 2), 0);
        Due.is("near of 63 from 0", x.cell(63, 2), 14);
        Due.is("near of 7 from 0", x.cell(7, 2), 7);
        Due.is("near of 8 from 0", x.cell(8, 2), 1);
        Due.wood(x, "trees 1;trees 8;trees 62;trees 55;trees 63");
        Due.is("near of 63 with trees all round", x.cell(63, 2), 14);
        x.fire(56);
        Due.is("near of 7 from 56", x.cell(7, 2), 14);
    }

    private static void parts() {
        Doc.says("PARTS (at most 6, numbered from 0 on): a row of eight NOTES 0 to 7:");
        LostRound x = new LostRound();
        Due.fails("note(0, 0) of none", Due.INDEX, () -> x.note(0, 0));
        for (int part = 0; part < 6; part++) {
            Due.wood(x, "part " + "0123456" + part);
            Due.is("parts", x.count(0), part + 1);
            Due.is("last note of part " + part, x.note(part, 7), part);
            int next = part + 1;
            Due.fails("note(" + next + ", 0)", Due.INDEX, () -> x.note(next, 0));
        }
        Due.wrongWood(x, "part 01234567", 0);
        Due.is("no seventh part", x.count(0), 6);
        Due.fails("note(-1, 0)", Due.INDEX, () -> x.note(-1, 0));
        Due.fails("note(5, -1)", Due.INDEX, () -> x.note(5, -1));
        Due.fails("note(5, 8)", Due.INDEX, () -> x.note(5, 8));
        Due.is("tune(5, 7, 7)", x.tune(5, 7, 7), 5);
        Due.is("tune(5, 0, 0)", x.tune(5, 0, 0), 0);
        Due.fails("tune(5, 0, 8)", Due.ARGUMENT, () -> x.tune(5, 0, 8));
        Due.fails("tune(5, 0, -1)", Due.ARGUMENT, () -> x.tune(5, 0, -1));
    }

    private static void notes() {
        Doc.says("0 a silence, 1 to 4 a SIDE, 5 to 7 a stay.");
        LostRound x = Due.told("part 00000000;boy at 45 sings 0 ear 15");
        int[] due = {44, 37, 46, 53, 44, 45, 45, 45};
        for (int note = 0; note <= 7; note++) {
            x.tune(0, 0, note);
            Due.is("next by note " + note, x.boy(0, 7), due[note]);
            Due.is("silence by note " + note, x.silence(0), note == 0 ? 8 : 7);
        }
        // By a side one may go off, too, which a silence never does.
        x.tune(0, 0, 2);
        Due.is("off by a side", x.ahead(0, 1), 46);
    }

    private static void boys() {
        Doc.says("BOYS (at most 6, numbered from 0 on): a CELL without TREES, a PART, EAR 0 to 15, IN or not:");
        LostRound x = Due.told("part 00000000;trees 5");
        Due.fails("boy(0, 0) of none", Due.INDEX, () -> x.boy(0, 0));
        Due.wrongWood(x, "boy at 5 sings 0 ear 0", 7);
        for (int boy = 0; boy < 6; boy++) {
            Due.wood(x, "boy at " + (10 + boy) + " sings 0 ear " + 3 * boy);
            Due.is("boys", x.count(1), boy + 1);
            Due.is("cell of boy " + boy, x.boy(boy, 0), 10 + boy);
            Due.is("ear of boy " + boy, x.boy(boy, 2), 3 * boy);
            int next = boy + 1;
            Due.fails("boy(" + next + ", 0)", Due.INDEX, () -> x.boy(next, 0));
        }
        Due.fails("boy(-1, 0)", Due.INDEX, () -> x.boy(-1, 0));
        Due.wrongWood(x, "boy at 10 sings 0 ear 0", 0);
        Due.is("no seventh boy", x.count(1), 6);
        LostRound y = Due.told("part 00000000");
        Due.wrongWood(y, "boy at 10 sings 0 ear 16", 22);
        Due.fails("send to trees", Due.STATE, () -> x.send(0, 5));
        Due.is("lost(0, 0) of the least ear", y.lost(0, 0), 0);
        Due.fails("lost(0, 16)", Due.ARGUMENT, () -> y.lost(0, 16));
        Due.fails("lost(0, -1)", Due.ARGUMENT, () -> y.lost(0, -1));
    }

    private static void whoIsIn() {
        Doc.says("whoever is in the CELL of THE FIRE is IN, stays IN, and goes with THE FIRE.");
        LostRound x = Due.told("part 11111111;boy at 27 sings 0 ear 15;boy at 40 sings 0 ear 15;boy at 41 sings 0 ear 15");
        Due.is("told in it", x.count(10), 0b001);
        x.fire(40);
        Due.is("it came to him", x.count(10), 0b011);
        Due.is("who was in went with it", x.boy(0, 0), 40);
        x.call(2);
        Due.is("called", x.count(10), 0b111);
        x.sing(8);
        Due.is("in by beats that lead off", x.count(10), 0b111);
        Due.is("and there", x.boy(2, 0), 40);
        x.fire(63);
        Due.is("all go with it", x.boy(0, 0) + x.boy(1, 0) + x.boy(2, 0), 3 * 63);
        Due.is("all are in", x.count(10), 0b111);
        Due.wood(x, "fire 0");
        Due.is("all go with it by a text", x.boy(0, 0) + x.boy(1, 0) + x.boy(2, 0), 0);
        Due.is("all are in by a text", x.count(10), 0b111);
    }

    private static void loud() {
        Doc.says("LOUD 0 to 15 (4 at first).");
        LostRound x = new LostRound();
        Due.is("loud at first", x.count(5), 4);
        for (int loud : new int[] {0, 15}) {
            x.loud(loud);
            Due.is("loud(" + loud + ")", x.count(5), loud);
            Due.wood(x, "loud " + (15 - loud));
            Due.is("loud told " + (15 - loud), x.count(5), 15 - loud);
        }
        Due.fails("loud(-1)", Due.ARGUMENT, () -> x.loud(-1));
        Due.fails("loud(16)", Due.ARGUMENT, () -> x.loud(16));
        Due.wrongWood(x, "loud 16", 5);
        Due.is("loud stays", x.count(5), 0);
    }

    private static void stray() {
        Doc.says("STRAY 0 to 100 (50 at first).");
        LostRound x = new LostRound();
        Due.is("stray at first", x.count(6), 50);
        Due.wood(x, "stray 0");
        Due.is("stray 0", x.count(6), 0);
        Due.wood(x, "stray 100");
        Due.is("stray 100", x.count(6), 100);
        Due.wrongWood(x, "stray 101", 6);
        Due.is("stray stays", x.count(6), 100);
    }

    private static void beat() {
        Doc.says("BEAT 0 to 7 (0 at first),");
        LostRound x = new LostRound();
        Due.is("beat at first", x.count(7), 0);
        Due.wood(x, "beat 7");
        Due.is("beat 7", x.count(7), 7);
        Due.wrongWood(x, "beat 8", 5);
        x.sing(1);
        Due.is("beat behind 7", x.count(7), 0);
        Due.wood(x, "beat 0");
        Due.is("beat 0", x.count(7), 0);
    }

    private static void night() {
        Doc.says("NIGHT 0 to 9999 (0 at first).");
        // 9999 is out of reach: 512 calls from night 999 come to 8619 at most.
        LostRound x = new LostRound();
        Due.is("night at first", x.count(8), 0);
        x.sing(7);
        Due.is("night ahead of the eighth beat", x.count(8), 0);
        x.sing(1);
        Due.is("night behind it", x.count(8), 1);
        Due.wood(x, "night 999;beat 7");
        x.sing(1);
        Due.is("night behind 999", x.count(8), 1000);
        Due.wood(x, "night 0");
        Due.is("night 0", x.count(8), 0);
    }

    private static void bad() {
        Doc.says("BAD: how many BEATS a BOY went astray, 0 to 99 (0 at first).");
        LostRound x = shutIn();
        Due.is("bad at first", x.boy(0, 4), 0);
        x.sing(1);
        Due.is("bad by one beat", x.boy(0, 4), 1);
        x.sing(97);
        Due.is("bad by 98 beats", x.boy(0, 4), 98);
        x.sing(1);
        Due.is("bad by 99 beats", x.boy(0, 4), 99);
        x.sing(1);
        Due.is("bad by 100 beats", x.boy(0, 4), 99);
        x.sing(120);
        Due.is("bad by 220 beats", x.boy(0, 4), 99);
        Due.is("bad of all by 320 beats", x.trial(100, true), 99);
    }

    /** One who goes astray in each beat, in a corner between trees. */
    static LostRound shutIn() {
        return Due.told("part 00000000;boy at 0 sings 0 ear 0;trees 1;trees 8;loud 0;stray 100");
    }
}
