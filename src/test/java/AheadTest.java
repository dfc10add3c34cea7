/** Promises 18 to 27 and 52: ways, how soon one is in, what he could do, and beats ahead. */
final class AheadTest {
    private static final String WALL = "trees 4;trees 12;trees 20;trees 36;trees 44;trees 52;trees 60";

    public static void main(String[] args) {
        paths();
        soon();
        ahead();
        byParts();
        all();
        should();
        calls();
        callsByLaw();
        can();
        lost();
        Due.close("AheadTest");
    }

    private static void paths() {
        LostRound x = new LostRound();
        Due.is("path(0, 63)", x.path(0, 63), 14);
        Due.is("path(9, 9)", x.path(9, 9), 0);
        Due.is("path(7, 8): no way over the edge", x.path(7, 8), 8);
        Due.wood(x, WALL);
        Due.is("path through the gap", x.path(24, 31), 7);
        Due.is("path round to it", x.path(3, 5), 8);
        Due.is("path from trees", x.path(4, 3), -1);
        Due.is("path to trees", x.path(3, 4), -1);
        Due.is("path of trees to themselves", x.path(4, 4), -1);
        x.plant(28, true);
        Due.is("path without the gap", x.path(24, 31), -1);
        Due.fails("path(64, 0)", IndexOutOfBoundsException.class, () -> x.path(64, 0));
        Due.fails("path(0, 64)", IndexOutOfBoundsException.class, () -> x.path(0, 64));
        Due.fails("path(-1, 0)", IndexOutOfBoundsException.class, () -> x.path(-1, 0));
        Due.fails("path(0, -1)", IndexOutOfBoundsException.class, () -> x.path(0, -1));
        LostRound y = new LostRound();
        Due.wood(y, "fire 0;trees 8;trees 9;trees 10;trees 11;trees 12;trees 13;trees 14");
        Due.wood(y, "trees 25;trees 26;trees 27;trees 28;trees 29;trees 30;trees 31");
        Due.wood(y, "trees 40;trees 41;trees 42;trees 43;trees 44;trees 45;trees 46");
        Due.wood(y, "trees 57;trees 58;trees 59;trees 60;trees 61;trees 62");
        Due.is("the long way to and fro", y.path(0, 56), 28 + 7);
    }

    private static void soon() {
        LostRound x = Due.told("part 00000000;part 07777777;part 77777777;boy at 24 sings 0 ear 15;boy at 24 sings 1 ear 15"
            + ";boy at 24 sings 2 ear 15;boy at 27 sings 2 ear 0;boy at 24 sings 0 ear 0;boy at 63 sings 1 ear 15;loud 2");
        Due.is("nearer three times", x.soon(0), 3);
        Due.is("nearer every eighth beat", x.soon(1), 17);
        Due.is("never nearer", x.soon(2), -1);
        Due.is("in", x.soon(3), 0);
        Due.is("who does not hear", x.soon(4), -1);
        Due.is("eight off, every eighth beat", x.soon(5), 57);
        Due.fails("soon(6)", IndexOutOfBoundsException.class, () -> x.soon(6));
        Due.fails("soon(-1)", IndexOutOfBoundsException.class, () -> x.soon(-1));
        // Thirteen off one is in by 97, fourteen off by 105.
        LostRound y = Due.told("part 07777777;fire 0;boy at 62 sings 0 ear 15;boy at 63 sings 0 ear 15");
        Due.is("by 97", y.soon(0), 97);
        Due.is("by 105: none", y.soon(1), -1);
        LostRound z = Due.told("part 77770777;fire 0;boy at 62 sings 0 ear 15;beat 1");
        Due.is("by 100", z.soon(0), 100);
        Due.is("best by 100", z.best(0), 0);
        Due.is("all by 100", z.all(), 100);
        Due.is("mends of 100: a silence in a second beat", z.mends(0), 8);
        Due.wood(z, "beat 0");
        Due.is("by 101: none", z.soon(0), -1);
        Due.is("best by 101", z.best(0), -1);
        Due.is("all by 101", z.all(), -1);
        LostRound u = Due.told("part 77770777;part 77777777;fire 0;boy at 62 sings 0 ear 15;boy at 27 sings 1 ear 15;beat 1");
        // Of 61 and 62 the one is in by 92, the other one by 100, from 63 none by 100.
        Due.is("lost: later than by 100", u.lost(0, 15), 63);
        Due.wood(u, "trees 63");
        Due.is("lost: by 100", u.lost(0, 15), 55);
    }

    private static void ahead() {
        LostRound x = Due.told("part 02777777;boy at 24 sings 0 ear 15;boy at 0 sings 0 ear 0;loud 0;stray 100");
        int[] due = {24, 25, 26, 26, 26, 26, 26, 26, 26, 27, 27};
        for (int n = 0; n < due.length; n++) {
            Due.is("ahead(0, " + n + ")", x.ahead(0, n), due[n]);
        }
        Due.is("in he stays", x.ahead(0, 100), 27);
        Due.is("who strays goes nowhere", x.ahead(1, 100), 0);
        Due.is("nothing stays of it", x.count(7) + x.count(11) + x.boy(1, 4), 0);
        Due.is("no draw", x.seed(1), 1);
        Due.is("no act", x.count(12), 0);
        Due.fails("ahead(0, 101)", IllegalArgumentException.class, () -> x.ahead(0, 101));
        Due.fails("ahead(0, -1)", IllegalArgumentException.class, () -> x.ahead(0, -1));
        Due.fails("ahead(2, 101)", IndexOutOfBoundsException.class, () -> x.ahead(2, 101));
        Due.fails("ahead(-1, 0)", IndexOutOfBoundsException.class, () -> x.ahead(-1, 0));
    }

    private static void byParts() {
        LostRound x = Due.told("part 77777777;part 07777777;part 00000000;part 22222222"
            + ";boy at 24 sings 0 ear 15;boy at 27 sings 0 ear 1;boy at 0 sings 0 ear 0");
        Due.is("by(0, 0)", x.by(0, 0), -1);
        Due.is("by(0, 1)", x.by(0, 1), 17);
        Due.is("by(0, 2)", x.by(0, 2), 3);
        Due.is("by(0, 3)", x.by(0, 3), 3);
        Due.is("he sings as he did", x.boy(0, 1), 0);
        Due.is("best(0)", x.best(0), 2);
        Due.is("by(1, 0)", x.by(1, 0), 0);
        Due.is("best(1)", x.best(1), 0);
        Due.is("best(2)", x.best(2), -1);
        Due.law(x, "stay if part > 1");
        Due.is("by(0, 2) by the law", x.by(0, 2), -1);
        Due.is("best(0) by the law", x.best(0), 1);
        Due.fails("by(3, 0)", IndexOutOfBoundsException.class, () -> x.by(3, 0));
        Due.fails("by(0, 4)", IndexOutOfBoundsException.class, () -> x.by(0, 4));
        Due.fails("by(-1, 0)", IndexOutOfBoundsException.class, () -> x.by(-1, 0));
        Due.fails("by(0, -1)", IndexOutOfBoundsException.class, () -> x.by(0, -1));
        Due.fails("best(3)", IndexOutOfBoundsException.class, () -> x.best(3));
        Due.fails("best(-1)", IndexOutOfBoundsException.class, () -> x.best(-1));
    }

    private static void all() {
        LostRound x = new LostRound();
        Due.is("all() of none", x.all(), 0);
        Due.wood(x, "part 00000000;boy at 27 sings 0 ear 0");
        Due.is("all() who are in", x.all(), 0);
        Due.wood(x, "boy at 24 sings 0 ear 15;boy at 63 sings 0 ear 15");
        Due.is("all()", x.all(), 8);
        x.loud(0);
        Due.wood(x, "boy at 63 sings 0 ear 7");
        Due.is("all() but one", x.all(), -1);
    }

    private static void should() {
        LostRound x = new LostRound();
        Due.is("should() of none", x.should(), -1);
        Due.wood(x, "part 00000000;boy at 27 sings 0 ear 0");
        Due.is("should() of one who is in", x.should(), -1);
        Due.wood(x, "boy at 24 sings 0 ear 0;boy at 31 sings 0 ear 0");
        Due.is("should() of several the least", x.should(), 24);
        Due.wood(x, "boy at 58 sings 0 ear 0");
        Due.is("should() amid three", x.should(), 26);
        Due.wood(x, "trees 26");
        // Round the trees it is 11 from 25 and 33 alike, and 10 from 34.
        Due.is("should() beside trees", x.should(), 34);
        Due.wood(x, "trees 30;trees 23;trees 39");
        Due.is("should() when one is shut off", x.should(), -1);
        Due.is("should() of one", Due.told("part 00000000;boy at 0 sings 0 ear 0").should(), 0);
        Due.is("should() of two, the first one in a corner", Due.told("part 00000000;boy at 63 sings 0 ear 0;boy at 27 sings 0 ear 0"
            + ";boy at 62 sings 0 ear 0;boy at 55 sings 0 ear 0").should(), 63);
    }

    private static void calls() {
        LostRound x = Due.told("part 77777777;boy at 31 sings 0 ear 15;boy at 27 sings 0 ear 0;boy at 29 sings 0 ear 15;boy at 63 sings 0 ear 0");
        Due.is("calls(0)", x.calls(0), 4);
        Due.is("first(0)", x.first(0), 0);
        Due.is("calls(1) in", x.calls(1), 0);
        Due.is("first(1) in", x.first(1), -1);
        Due.is("calls(3) too far", x.calls(3), -1);
        Due.is("first(3) too far", x.first(3), -1);
        Due.wood(x, "trees 28");
        Due.is("calls(2) round trees", x.calls(2), 4);
        Due.is("first(2) up", x.first(2), 1);
        Due.wood(x, "trees 21");
        Due.is("first(2) down", x.first(2), 3);
        Due.wood(x, "trees 37");
        Due.is("calls(2) by the right", x.calls(2), 8);
        Due.is("first(2) right", x.first(2), 2);
        Due.wood(x, "trees 30");
        Due.is("calls(2) shut in", x.calls(2), -1);
        Due.is("first(2) shut in", x.first(2), -1);
        Due.fails("calls(4)", IndexOutOfBoundsException.class, () -> x.calls(4));
        Due.fails("calls(-1)", IndexOutOfBoundsException.class, () -> x.calls(-1));
        Due.fails("first(4)", IndexOutOfBoundsException.class, () -> x.first(4));
        Due.fails("first(-1)", IndexOutOfBoundsException.class, () -> x.first(-1));
    }

    private static void callsByLaw() {
        LostRound x = Due.told("part 77777777;boy at 31 sings 0 ear 15");
        Due.law(x, "stay if silent");
        Due.is("calls by no silence", x.calls(0), 4);
        Due.is("first by no silence", x.first(0), 4);
        Due.law(x, "stay if beat < 2");
        Due.is("calls behind two beats", x.calls(0), 6);
        Due.is("first while he stays anyhow", x.first(0), 0);
        Due.law(x, "stay if beat > 0");
        Due.is("calls every eighth beat", x.calls(0), 25);
        Due.wood(x, "beat 1");
        Due.is("calls every eighth beat, later", x.calls(0), 32);
        // Nearer from 56 is up (5 and 3 off), where the law leaves him alone for good.
        LostRound y = Due.told("part 77777777;boy at 56 sings 0 ear 15;fire 19");
        Due.law(y, "stay if x < 1 and y < 7");
        Due.is("first is no silence", y.first(0), 2);
        Due.is("calls by the right", y.calls(0), 8);
        // Eight steps at one in eight beats are 57; nine are 65, which is too many.
        LostRound z = Due.told("part 77777777;boy at 63 sings 0 ear 15;boy at 55 sings 0 ear 15;fire 19");
        Due.law(z, "stay if beat > 0");
        Due.is("calls 57", z.calls(1), 57);
        Due.is("calls 65: none", z.calls(0), -1);
        Due.is("first of 65: none", z.first(0), -1);
        Due.wood(z, "beat 1");
        Due.is("calls 64", z.calls(1), 64);
        // In beat 5 a silence leads and a side does not; in beat 6 it is the other way.
        LostRound u = Due.told("part 77777777;boy at 29 sings 0 ear 15;beat 5");
        Due.law(u, "stay if beat < 5 or beat > 6;stay if silent and beat > 5;stay if not silent and beat < 6");
        Due.is("calls by a silence and a side", u.calls(0), 2);
        Due.is("can(0, 2): there and to the left, and beside these", u.can(0, 2), 8);
        Due.is("first a silence", u.first(0), 0);
        Due.wood(u, "beat 6");
        Due.is("first a side", u.first(0), 4);
        Due.is("calls by a side, and a silence later", u.calls(0), 8);
        Due.wood(u, "beat 7");
        Due.is("first while all are still", u.first(0), 0);
        Due.is("calls while all are still", u.calls(0), 8);
    }

    private static void can() {
        LostRound x = Due.told("part 77777777;boy at 0 sings 0 ear 15;boy at 27 sings 0 ear 15;boy at 0 sings 0 ear 0;boy at 28 sings 0 ear 15");
        int[] due = {1, 3, 6, 10};
        for (int n = 0; n < due.length; n++) {
            Due.is("can(0, " + n + ")", x.can(0, n), due[n]);
        }
        Due.is("can(0, 13)", x.can(0, 13), 63);
        Due.is("can(0, 16)", x.can(0, 16), 64);
        Due.is("can(1, 16) in", x.can(1, 16), 1);
        Due.is("can(2, 16) too far", x.can(2, 16), 1);
        // Beside the fire: there, three other sides, and where he is; in he stays.
        Due.is("can(3, 1)", x.can(3, 1), 5);
        Due.is("can(3, 2)", x.can(3, 2), 12);
        Due.law(x, "stay if beat > 0");
        Due.is("can(0, 8)", x.can(0, 8), 3);
        Due.is("can(0, 9)", x.can(0, 9), 6);
        Due.law(x, "stay if not silent");
        Due.is("can(0, 16) by silences", x.can(0, 16), 7);
        Due.fails("can(0, 17)", IllegalArgumentException.class, () -> x.can(0, 17));
        Due.fails("can(0, -1)", IllegalArgumentException.class, () -> x.can(0, -1));
        Due.fails("can(4, 17)", IndexOutOfBoundsException.class, () -> x.can(4, 17));
        Due.fails("can(-1, 0)", IndexOutOfBoundsException.class, () -> x.can(-1, 0));
    }

    private static void lost() {
        LostRound x = Due.told("part 00000000;part 77777777");
        Due.is("lost(0, 15): the farthest", x.lost(0, 15), 63);
        Due.is("lost(0, 2): one who does not hear", x.lost(0, 2), 7);
        Due.is("lost(0, 0)", x.lost(0, 0), 0);
        Due.is("lost(1, 15)", x.lost(1, 15), 0);
        Due.wood(x, "trees 0");
        Due.is("lost(1, 15) with trees there", x.lost(1, 15), 1);
        Due.law(x, "far 2 if boy > 0");
        Due.is("lost(0, 2) as boy 0", x.lost(0, 2), 7);
        Due.wood(x, "boy at 9 sings 0 ear 0");
        Due.is("lost(0, 2) as boy 1", x.lost(0, 2), 63);
        Due.is("lost from 0 as from all", Due.told("part 77777777").lost(0, 0), 0);
        Due.fails("lost(2, 16)", IndexOutOfBoundsException.class, () -> x.lost(2, 16));
        Due.fails("lost(-1, 0)", IndexOutOfBoundsException.class, () -> x.lost(-1, 0));
        Due.fails("lost(0, 16)", IllegalArgumentException.class, () -> x.lost(0, 16));
        Due.fails("lost(0, -1)", IllegalArgumentException.class, () -> x.lost(0, -1));
    }
}
