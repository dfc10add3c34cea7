/** Calls that are refused: by the exception that is told first, and nothing is changed by them. */
final class RefusedBounds {
    private static final int LEAST = Integer.MIN_VALUE;
    private static final int MOST = Integer.MAX_VALUE;

    private RefusedBounds() {
    }

    static void run() {
        noSuchBoy();
        noSuchPart();
        noSuchCell();
        noSuchBeat();
        numbersThatAreNone();
        cannotBe();
        noSuchWhat();
        theOneToldFirst();
        nothingIsChanged();
        tapeUsedUp();
        thirteenthText();
    }

    /** A call with a number. */
    private interface Ask {
        Object of(LostRound x, int n);
    }

    private interface Call {
        Object of(LostRound x);
    }

    /** One below the least and one above the most are refused, and those at the bounds are not. */
    private static void bounds(String call, Class<? extends Exception> due, int least, int most, Ask ask) {
        for (int n : new int[] {least, most}) {
            LostRound x = inTheWood();
            Due.is(call + " of " + n + " is answered", answered(x, n, ask), true);
        }
        for (int n : new int[] {least - 1, most + 1, LEAST, MOST}) {
            LostRound x = inTheWood();
            Due.fails(call + " of " + n, due, () -> ask.of(x, n));
        }
    }

    private static boolean answered(LostRound x, int n, Ask ask) {
        try {
            ask.of(x, n);
            return true;
        } catch (RuntimeException e) {
            return false;
        }
    }

    /** Three boys, none of whom is in, and two parts; there are trees in 26. */
    private static LostRound inTheWood() {
        return Due.told("part 01230440;part 00000000;boy at 24 sings 0 ear 3;boy at 62 sings 1 ear 0;boy at 29 sings 1 ear 2;trees 26");
    }

    private static void noSuchBoy() {
        Doc.says("IndexOutOfBoundsException: there is no such BOY,");
        noSuch("boy(b, 0)", 2, (x, b) -> x.boy(b, 0));
        noSuch("boy(b, 8)", 2, (x, b) -> x.boy(b, 8));
        noSuch("part(b, 0)", 2, (x, b) -> x.part(b, 0));
        noSuch("call(b)", 2, (x, b) -> x.call(b));
        noSuch("send(b, 0)", 2, (x, b) -> x.send(b, 0));
        noSuch("soon(b)", 2, (x, b) -> x.soon(b));
        noSuch("by(b, 0)", 2, (x, b) -> x.by(b, 0));
        noSuch("best(b)", 2, (x, b) -> x.best(b));
        noSuch("calls(b)", 2, (x, b) -> x.calls(b));
        noSuch("first(b)", 2, (x, b) -> x.first(b));
        noSuch("can(b, 0)", 2, (x, b) -> x.can(b, 0));
        noSuch("ears(b)", 2, (x, b) -> x.ears(b));
        noSuch("mends(b)", 2, (x, b) -> x.mends(b));
        noSuch("rests(b)", 2, (x, b) -> x.rests(b));
        noSuch("odds(b, 0)", 2, (x, b) -> x.odds(b, 0));
        noSuch("ahead(b, 0)", 2, (x, b) -> x.ahead(b, 0));
        noSuch("led(b, true)", 2, (x, b) -> x.led(b, true));
        noSuch("led(b, false)", 2, (x, b) -> x.led(b, false));
        bounds("meet(b, 1)", Due.INDEX, 0, 2, (x, b) -> x.meet(b, b == 1 ? 0 : 1));
        bounds("meet(1, b)", Due.INDEX, 0, 2, (x, b) -> x.meet(1, b == 1 ? 0 : b));
    }

    /** Of the boys or the parts there is a last one; where there is none at all, there is not even 0. */
    private static void noSuch(String call, int last, Ask ask) {
        bounds(call, Due.INDEX, 0, last, ask);
        LostRound empty = new LostRound();
        Due.fails(call + " of 0 of none", Due.INDEX, () -> ask.of(empty, 0));
    }

    private static void noSuchPart() {
        Doc.says("no such BOY, PART,");
        noSuch("note(p, 0)", 1, (x, p) -> x.note(p, 0));
        noSuch("part(0, p)", 1, (x, p) -> x.part(0, p));
        noSuch("tune(p, 0, 0)", 1, (x, p) -> x.tune(p, 0, 0));
        noSuch("by(0, p)", 1, (x, p) -> x.by(0, p));
        noSuch("lost(p, 0)", 1, (x, p) -> x.lost(p, 0));
        noSuch("silence(p)", 1, (x, p) -> x.silence(p));
        noSuch("hush(p)", 1, (x, p) -> x.hush(p));
        bounds("shifted(p, 1 - p)", Due.INDEX, 0, 1, (x, p) -> x.shifted(p, p == 1 ? 0 : 1));
        bounds("shifted(1 - p, p)", Due.INDEX, 0, 1, (x, p) -> x.shifted(p == 1 ? 0 : 1, p));
    }

    private static void noSuchCell() {
        Doc.says("no such BOY, PART, CELL,");
        bounds("cell(c, 0)", Due.INDEX, 0, 63, (x, c) -> x.cell(c, 0));
        bounds("cell(c, 1)", Due.INDEX, 0, 63, (x, c) -> x.cell(c, 1));
        bounds("cell(c, 2)", Due.INDEX, 0, 63, (x, c) -> x.cell(c, 2));
        bounds("fire(c)", Due.INDEX, 0, 63, (x, c) -> x.fire(c));
        bounds("plant(c, true)", Due.INDEX, 0, 63, (x, c) -> x.plant(c, true));
        bounds("plant(c, false)", Due.INDEX, 0, 63, (x, c) -> x.plant(c, false));
        bounds("send(0, c)", Due.INDEX, 0, 63, (x, c) -> x.send(0, c));
        bounds("path(c, 0)", Due.INDEX, 0, 63, (x, c) -> x.path(c, 0));
        bounds("path(0, c)", Due.INDEX, 0, 63, (x, c) -> x.path(0, c));
    }

    private static void noSuchBeat() {
        Doc.says("no such BOY, PART, CELL, BEAT.");
        bounds("note(0, b)", Due.INDEX, 0, 7, (x, b) -> x.note(0, b));
        bounds("tune(0, b, 0)", Due.INDEX, 0, 7, (x, b) -> x.tune(0, b, 0));
    }

    private static void numbersThatAreNone() {
        Doc.says("IllegalArgumentException: a number is none, or two are one.");
        bounds("sing(n)", Due.ARGUMENT, 1, 120, (x, n) -> x.sing(n));
        bounds("tune(0, 0, n)", Due.ARGUMENT, 0, 7, (x, n) -> x.tune(0, 0, n));
        bounds("loud(n)", Due.ARGUMENT, 0, 15, (x, n) -> x.loud(n));
        bounds("can(0, n)", Due.ARGUMENT, 0, 16, (x, n) -> x.can(0, n));
        bounds("lost(0, n)", Due.ARGUMENT, 0, 15, (x, n) -> x.lost(0, n));
        bounds("odds(0, n)", Due.ARGUMENT, 0, 4, (x, n) -> x.odds(0, n));
        bounds("ahead(0, n)", Due.ARGUMENT, 0, 100, (x, n) -> x.ahead(0, n));
        bounds("trial(n, true)", Due.ARGUMENT, 0, 100, (x, n) -> x.trial(n, true));
        bounds("trial(n, false)", Due.ARGUMENT, 0, 100, (x, n) -> x.trial(n, false));
        bounds("span(n, true)", Due.ARGUMENT, 0, 100, (x, n) -> x.span(n, true));
        bounds("span(n, false)", Due.ARGUMENT, 0, 100, (x, n) -> x.span(n, false));
        for (int i = 0; i < 3; i++) {
            int boy = i;
            Due.fails("meet of one, " + boy, Due.ARGUMENT, () -> inTheWood().meet(boy, boy));
        }
        Due.fails("shifted of one, 0", Due.ARGUMENT, () -> inTheWood().shifted(0, 0));
        Due.fails("shifted of one, 1", Due.ARGUMENT, () -> inTheWood().shifted(1, 1));
    }

    private static void cannotBe() {
        Doc.says("IllegalStateException: it cannot be.");
        LostRound x = inTheWood();
        Due.fails("the fire to trees", Due.STATE, () -> x.fire(26));
        Due.fails("trees where the fire is", Due.STATE, () -> x.plant(27, true));
        Due.fails("trees where one is who is not in", Due.STATE, () -> x.plant(62, true));
        Due.is("felled where the fire is", x.plant(27, false), false);
        Due.is("felled where one is", x.plant(62, false), false);
        Due.is("planted where there are trees", x.plant(26, true), false);
        Due.fails("sent off to trees", Due.STATE, () -> x.send(0, 26));
        Due.fails("sent off to the fire", Due.STATE, () -> x.send(0, 27));
        Due.is("sent off to where he is", x.send(0, 24), 24);
        Due.is("sent off to where another one is", x.send(0, 62), 24);
        Due.is("called in", x.call(1), 62);
        Due.fails("called in who is in", Due.STATE, () -> x.call(1));
        Due.fails("sent off to the fire who is in", Due.STATE, () -> x.send(1, 27));
        x.call(0);
        Due.is("trees where they were", x.plant(62, true), true);
        Due.fails("sent off there again", Due.STATE, () -> x.send(1, 62));
        Due.is("sent off who is in", x.send(1, 63), 27);
        Due.is("he is not in then", x.boy(1, 3), 0);
    }

    private static void noSuchWhat() {
        Doc.promises(7, "Of a CELL what 0 1 with TREES, 1 FERNS, 2 NEAR. NoSuchElementException: another what.");
        bounds("cell(0, n)", Due.ELEMENT, 0, 2, (x, n) -> x.cell(0, n));
        Doc.promises(9, "Of a BOY what 0 the CELL, 1 the PART, 2 EAR, 3 1 if IN, 4 BAD, 5 NEAR, 6 1 if he HEARS now (0, if IN), 7 NEXT, 8 SHARE. "
            + "NoSuchElementException: another what.");
        bounds("boy(0, n)", Due.ELEMENT, 0, 8, (x, n) -> x.boy(0, n));
        Doc.promises(56, "NONE without. NoSuchElementException: another what.");
        bounds("log(0, n)", Due.ELEMENT, 0, 4, (x, n) -> x.log(0, n));
        bounds("log(-1, n)", Due.ELEMENT, 0, 4, (x, n) -> x.log(-1, n));
        bounds("log(60, n)", Due.ELEMENT, 0, 4, (x, n) -> x.log(60, n));
    }

    private static void theOneToldFirst() {
        Doc.says("Of several exceptions the one told first is thrown;");
        refused("cell(64, 3)", Due.INDEX, x -> x.cell(64, 3));
        refused("boy(3, 9)", Due.INDEX, x -> x.boy(3, 9));
        refused("fire(-1)", Due.INDEX, x -> x.fire(-1));
        refused("plant(64, true)", Due.INDEX, x -> x.plant(64, true));
        refused("part(3, 2)", Due.INDEX, x -> x.part(3, 2));
        refused("tune(2, 8, 8)", Due.INDEX, x -> x.tune(2, 8, 8));
        refused("tune(0, 8, 8)", Due.INDEX, x -> x.tune(0, 8, 8));
        refused("tune(2, 0, 8)", Due.INDEX, x -> x.tune(2, 0, 8));
        refused("call(3)", Due.INDEX, x -> x.call(3));
        refused("send(3, 26)", Due.INDEX, x -> x.send(3, 26));
        refused("send(3, 27)", Due.INDEX, x -> x.send(3, 27));
        refused("send(0, 64)", Due.INDEX, x -> x.send(0, 64));
        refused("can(3, 17)", Due.INDEX, x -> x.can(3, 17));
        refused("lost(2, 16)", Due.INDEX, x -> x.lost(2, 16));
        refused("shifted(2, 2)", Due.INDEX, x -> x.shifted(2, 2));
        refused("shifted(-1, -1)", Due.INDEX, x -> x.shifted(-1, -1));
        refused("meet(3, 3)", Due.INDEX, x -> x.meet(3, 3));
        refused("meet(-1, -1)", Due.INDEX, x -> x.meet(-1, -1));
        refused("meet(0, 3)", Due.INDEX, x -> x.meet(0, 3));
        refused("odds(3, 5)", Due.INDEX, x -> x.odds(3, 5));
        refused("ahead(3, 101)", Due.INDEX, x -> x.ahead(3, 101));
        refused("by(3, 2)", Due.INDEX, x -> x.by(3, 2));
    }

    /** A call is refused, and all is as in another object of which nothing was asked. */
    private static void refused(String call, Class<? extends Exception> due, Call ask) {
        LostRound x = KeptBounds.rich();
        LostRound y = KeptBounds.rich();
        Due.fails(call, due, () -> ask.of(x));
        Due.is("fault() behind " + call, x.fault(), y.fault());
        Due.same("all behind " + call, Whole.of(x), Whole.of(y));
    }

    private static void nothingIsChanged() {
        Doc.says("a call that throws changes nothing but the TAPE,");
        refused("cell(0, 3)", Due.ELEMENT, x -> x.cell(0, 3));
        refused("note(2, 0)", Due.INDEX, x -> x.note(2, 0));
        refused("note(0, 8)", Due.INDEX, x -> x.note(0, 8));
        refused("boy(0, 9)", Due.ELEMENT, x -> x.boy(0, 9));
        refused("fire(26)", Due.STATE, x -> x.fire(26));
        refused("plant(27, true)", Due.STATE, x -> x.plant(27, true));
        refused("part(0, 2)", Due.INDEX, x -> x.part(0, 2));
        refused("part(3, 0)", Due.INDEX, x -> x.part(3, 0));
        refused("tune(0, 0, 8)", Due.ARGUMENT, x -> x.tune(0, 0, 8));
        refused("tune(0, 0, -1)", Due.ARGUMENT, x -> x.tune(0, 0, -1));
        refused("call(2)", Due.STATE, x -> x.call(2));
        refused("send(0, 26)", Due.STATE, x -> x.send(0, 26));
        refused("send(2, 27)", Due.STATE, x -> x.send(2, 27));
        refused("loud(16)", Due.ARGUMENT, x -> x.loud(16));
        refused("loud(-1)", Due.ARGUMENT, x -> x.loud(-1));
        refused("path(64, 0)", Due.INDEX, x -> x.path(64, 0));
        refused("path(0, 64)", Due.INDEX, x -> x.path(0, 64));
        refused("soon(3)", Due.INDEX, x -> x.soon(3));
        refused("by(0, 2)", Due.INDEX, x -> x.by(0, 2));
        refused("best(3)", Due.INDEX, x -> x.best(3));
        refused("calls(3)", Due.INDEX, x -> x.calls(3));
        refused("first(3)", Due.INDEX, x -> x.first(3));
        refused("can(0, 17)", Due.ARGUMENT, x -> x.can(0, 17));
        refused("lost(0, 16)", Due.ARGUMENT, x -> x.lost(0, 16));
        refused("shifted(1, 1)", Due.ARGUMENT, x -> x.shifted(1, 1));
        refused("silence(2)", Due.INDEX, x -> x.silence(2));
        refused("hush(2)", Due.INDEX, x -> x.hush(2));
        refused("mends(3)", Due.INDEX, x -> x.mends(3));
        refused("meet(2, 2)", Due.ARGUMENT, x -> x.meet(2, 2));
        refused("rests(3)", Due.INDEX, x -> x.rests(3));
        refused("odds(0, 5)", Due.ARGUMENT, x -> x.odds(0, 5));
        refused("ahead(0, 101)", Due.ARGUMENT, x -> x.ahead(0, 101));
        refused("trial(101, true)", Due.ARGUMENT, x -> x.trial(101, true));
        refused("span(101, true)", Due.ARGUMENT, x -> x.span(101, true));
        refused("led(3, true)", Due.INDEX, x -> x.led(3, true));
        refused("log(0, 5)", Due.ELEMENT, x -> x.log(0, 5));
        refused("sing(0)", Due.ARGUMENT, x -> x.sing(0));
        refused("sing(121)", Due.ARGUMENT, x -> x.sing(121));
        refused("plant at a boy", Due.STATE, x -> x.plant(x.boy(0, 0), true));
    }

    /** A call is refused, and the tape is used up, fault() is as due, and all else is as it was. */
    private static void usedUp(String call, Class<? extends Exception> due, String tape, int fault, Call ask) {
        LostRound x = KeptBounds.rich();
        LostRound y = KeptBounds.rich();
        Due.put(x, tape);
        Due.fails(call + " of '" + tape + "'", due, () -> ask.of(x));
        Due.is("fault() behind " + call + " of '" + tape + "'", x.fault(), fault);
        y.end(0);
        Due.same("all behind " + call + " of '" + tape + "'", Whole.of(x), Whole.of(y));
    }

    private static void tapeUsedUp() {
        Doc.says("where it is used up, and fault(), where a text is read (also by one that is refused).");
        usedUp("wood()", Due.ARGUMENT, "part 11111111;boy at 0 sings 2 ear 1;trees 9;ferns 2 9;fire 10;loud 1;stray 1;beat 1;night 1;x", 93, LostRound::wood);
        usedUp("wood()", Due.ARGUMENT, "?", 0, LostRound::wood);
        usedUp("law()", Due.ARGUMENT, "stay;far 20;near 20;near 21", 25, LostRound::law);
        usedUp("law()", Due.ARGUMENT, "stay if (", 9, LostRound::law);
        usedUp("sounds(true)", Due.ARGUMENT, "\u0000\u0003\u0000", 5, x -> x.sounds(true));
        usedUp("sounds(false)", Due.ARGUMENT, "\u001f\u0003", 5, x -> x.sounds(false));
        usedUp("listen()", Due.ARGUMENT, "\u0000\u000f", 5, LostRound::listen);
        usedUp("ears(0)", Due.ARGUMENT, "\u0000\u0002", 5, x -> x.ears(0));
        usedUp("ears(0)", Due.ARGUMENT, "\u001b\u0001", 5, x -> x.ears(0));
        usedUp("ears(0)", Due.ARGUMENT, "\u001a\u0001", 5, x -> x.ears(0));
        usedUp("ears(3)", Due.INDEX, "\u0000\u0001", 5, x -> x.ears(3));
        usedUp("ears(-1)", Due.INDEX, "\u0000\u0002\u0000", 5, x -> x.ears(-1));
    }

    private static void thirteenthText() {
        Doc.promises(4, "Uses the TAPE up: a text of THE WOOD: how many texts there are. IllegalArgumentException: it is wrong; "
            + "UnsupportedOperationException: there are 12.");
        LostRound x = new LostRound();
        for (int n = 1; n <= 11; n++) {
            Due.is("text " + n, Due.wood(x, "ferns " + n + " " + n % 10), n);
        }
        Due.wrongWood(x, "ferns 12 1;", 11);
        Due.is("the twelfth", Due.wood(x, "ferns 12 1"), 12);
        x.loud(9);
        Due.put(x, "ferns 13 1;loud 2");
        Due.fails("the thirteenth", Due.UNSUPPORTED, x::wood);
        Due.is("it was read: no fault", x.fault(), LostRound.NONE);
        Due.is("the tape is used up", x.feed(0, 0, 0, 0, 0), 20);
        Due.is("nothing of it stays", x.cell(13, 1) + x.count(5), 9);
        Due.is("the act is remembered still", x.count(12), 1);
        Due.wrongWood(x, "ferns 13 1;loud 16", 16);
        Due.put(x, "loud 3");
        Due.fails("another one", Due.UNSUPPORTED, x::wood);
        Due.is("its fault", x.fault(), LostRound.NONE);
        Due.is("loud", x.count(5), 9);
        Due.is("undo()", x.undo(), true);
        Due.is("loud as it was", x.count(5), 4);
    }
}
