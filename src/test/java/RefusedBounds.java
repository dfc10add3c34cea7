/** Calls that are refused: by the exception that is told first, and nothing is changed by them. */
final class RefusedBounds {
    private static final int LEAST = Integer.MIN_VALUE;
    private static final int MOST = Integer.MAX_VALUE;

    private RefusedBounds() {
    }

    static void run() {
        noSuchBoy();
        noSuchPart();
        noSuchCell();
        noSuchBeat();
        numbersThatAreNone();
        cannotBe();
        noSuchWhat();
        theOneToldFirst();
        nothingIsChanged();
        tapeUsedUp();
        thirteenthText();
    }

    /** A call with a number. */
    private interface Ask {
        Object of(LostRound x, int n);
    }

    private interface Call {
        Object of(LostRound x);
    }

    /** One below the least and one above the most are refused, and those at the bounds are not. */
    private static void bounds(String call, Class<? extends Exception> due, int least, int most, Ask ask) {
        for (int n : new int[] {least, most}) {
            LostRound x = inTheWood();
            Due.is(call + " of " + n + " is answered", answered(x, n, ask), true);
        }
        for (int n : new int[] {least - 1, most + 1, LEAST, MOST}) {
            LostRound x = inTheWood();
            Due.fails(call + " of " + n, due, () -> ask.of(x, n));
        }
    }

    private static boolean answered(LostRound x, int n, Ask ask) {
        try {
            ask.of(x, n);
            return true;
        } catch (RuntimeException e) {
            return false;
        }
    }

    /** Three boys, none of whom is in, and two parts; there are trees in 26. */
    private static LostRound inTheWood() {
        return Due.told("part 01230440;part 00000000;boy at 24 sings 0 ear 3;boy at 62 sings 1 ear 0;boy at 29 sings 1 ear 2;trees 26");
    }

    private static void noSuchBoy() {
        Doc.says("IndexOutOfBoundsException: there is no such BOY,");
        String[] calls = {"boy(b, 0)", "boy(b, 8)", "part(b, 0)", "call(b)", "send(b, 0)", "soon(b)", "by(b, 0)", "best(b)", "calls(b)", "first(b)",
            "can(b, 0)", "ears(b)", "mends(b)", "rests(b)", "odds(b, 0)", "ahead(b, 0)", "led(b, true)", "led(b, false)"};
        Ask[] asks = {(x, b) -> x.boy(b, 0), (x, b) -> x.boy(b, 8), (x, b) -> x.part(b, 0), (x, b) -> x.call(b), (x, b) -> x.send(b, 0),
            (x, b) -> x.soon(b), (x, b) -> x.by(b, 0), (x, b) -> x.best(b), (x, b) -> x.calls(b), (x, b) -> x.first(b), (x, b) -> x.can(b, 0),
            (x, b) -> x.ears(b), (x, b) -> x.mends(b), (x, b) -> x.rests(b), (x, b) -> x.odds(b, 0), (x, b) -> x.ahead(b, 0),
            (x, b) -> x.led(b, true), (x, b) -> x.led(b, false)};
        for (int i = 0; i < calls.length; i++) {
            bounds(calls[i], Due.INDEX, 0, 2, asks[i]);
            Ask ask = asks[i];
            LostRound empty = new LostRound();
            Due.fails(calls[i] + " of 0 of none", Due.INDEX, () -> ask.of(empty, 0));
        }
        bounds("meet(b, 1)", Due.INDEX, 0, 2, (x, b) -> x.meet(b, b == 1 ? 0 : 1));
        bounds("meet(1, b)", Due.INDEX, 0, 2, (x, b) -> x.meet(1, b));
    }

    private static void noSuchPart() {
        Doc.says("no such BOY, PART,");
        String[] calls = {"note(p, 0)", "part(0, p)", "tune(p, 0, 0)", "by(0, p)", "lost(p, 0)", "silence(p)", "hush(p)"};
        Ask[] asks = {(x, p) -> x.note(p, 0), (x, p) -> x.part(0, p), (x, p) -> x.tune(p, 0, 0), (x, p) -> x.by(0, p), (x, p) -> x.lost(p, 0),
            (x, p) -> x.silence(p), (x, p) -> x.hush(p)};
        for (int i = 0; i < calls.length; i++) {
            bounds(calls[i], Due.INDEX, 0, 1, asks[i]);
            Ask ask = asks[i];
            LostRound empty = new LostRound();
            Due.fails(calls[i] + " of 0 of none", Due.INDEX, () -> ask.of(empty, 0));
        }
        bounds("shifted(p, 1 - p)", Due.INDEX, 0, 1, (x, p) -> x.shifted(p, p == 1 ? 0 : 1));
        bounds("shifted(1 - p, p)", Due.INDEX, 0, 1, (x, p) -> x.shifted(p == 1 ? 0 : 1, p));
    }

    private static void noSuchCell() {
        Doc.says("no such BOY, PART, CELL,");
        String[] calls = {"cell(c, 0)", "cell(c, 1)", "cell(c, 2)", "fire(c)", "plant(c, true)", "plant(c, false)", "send(0, c)", "path(c, 0)",
            "path(0, c)"};
        Ask[] asks = {(x, c) -> x.cell(c, 0), (x, c) -> x.cell(c, 1), (x, c) -> x.cell(c, 2), (x, c) -> x.fire(c), (x, c) -> x.plant(c, true),
            (x, c) -> x.plant(c, false), (x, c) -> x.send(0, c), (x, c) -> x.path(c, 0), (x, c) -> x.path(0, c)};
        for (int i = 0; i < calls.length; i++) {
            bounds(calls[i], Due.INDEX, 0, 63, asks[i]);
        }
    }

    private static void noSuchBeat() {
        Doc.says("no such BOY, PART, CELL, BEAT.");
        bounds("note(0, b)", Due.INDEX, 0, 7, (x, b) -> x.note(0, b));
        bounds("tune(0, b, 0)", Due.INDEX, 0, 7, (x, b) -> x.tune(0, b, 0));
    }

    private static void numbersThatAreNone() {
        Doc.says("IllegalArgumentException: a number is none, or two are one.");
        bounds("sing(n)", Due.ARGUMENT, 1, 120, (x, n) -> x.sing(n));
        bounds("tune(0, 0, n)", Due.ARGUMENT, 0, 7, (x, n) -> x.tune(0, 0, n));
        bounds("loud(n)", Due.ARGUMENT, 0, 15, (x, n) -> x.loud(n));
        bounds("can(0, n)", Due.ARGUMENT, 0, 16, (x, n) -> x.can(0, n));
        bounds("lost(0, n)", Due.ARGUMENT, 0, 15, (x, n) -> x.lost(0, n));
        bounds("odds(0, n)", Due.ARGUMENT, 0, 4, (x, n) -> x.odds(0, n));
        bounds("ahead(0, n)", Due.ARGUMENT, 0, 100, (x, n) -> x.ahead(0, n));
        bounds("trial(n, true)", Due.ARGUMENT, 0, 100, (x, n) -> x.trial(n, true));
        bounds("trial(n, false)", Due.ARGUMENT, 0, 100, (x, n) -> x.trial(n, false));
        bounds("span(n, true)", Due.ARGUMENT, 0, 100, (x, n) -> x.span(n, true));
        bounds("span(n, false)", Due.ARGUMENT, 0, 100, (x, n) -> x.span(n, false));
        for (int i = 0; i < 3; i++) {
            int boy = i;
            Due.fails("meet of one, " + boy, Due.ARGUMENT, () -> inTheWood().meet(boy, boy));
        }
        Due.fails("shifted of one, 0", Due.ARGUMENT, () -> inTheWood().shifted(0, 0));
        Due.fails("shifted of one, 1", Due.ARGUMENT, () -> inTheWood().shifted(1, 1));
    }

    private static void cannotBe() {
        Doc.says("IllegalStateException: it cannot be.");
        LostRound x = inTheWood();
        Due.fails("the fire to trees", Due.STATE, () -> x.fire(26));
        Due.fails("trees where the fire is", Due.STATE, () -> x.plant(27, true));
        Due.fails("trees where one is who is not in", Due.STATE, () -> x.plant(62, true));
        Due.is("felled where the fire is", x.plant(27, false), false);
        Due.is("felled where one is", x.plant(62, false), false);
        Due.is("planted where there are trees", x.plant(26, true), false);
        Due.fails("sent off to trees", Due.STATE, () -> x.send(0, 26));
        Due.fails("sent off to the fire", Due.STATE, () -> x.send(0, 27));
        Due.is("sent off to where he is", x.send(0, 24), 24);
        Due.is("sent off to where another one is", x.send(0, 62), 24);
        Due.is("called in", x.call(1), 62);
        Due.fails("called in who is in", Due.STATE, () -> x.call(1));
        Due.fails("sent off to the fire who is in", Due.STATE, () -> x.send(1, 27));
        x.call(0);
        Due.is("trees where they were", x.plant(62, true), true);
        Due.fails("sent off there again", Due.STATE, () -> x.send(1, 62));
        Due.is("sent off who is in", x.send(1, 63), 27);
        Due.is("he is not in then", x.boy(1, 3), 0);
    }

    private static void noSuchWhat() {
        Doc.promises(7, "Of a CELL what 0 1 with TREES, 1 FERNS, 2 NEAR. NoSuchElementException: another what.");
        bounds("cell(0, n)", Due.ELEMENT, 0, 2, (x, n) -> x.cell(0, n));
        Doc.promises(9, "Of a BOY what 0 the CELL, 1 the PART, 2 EAR, 3 1 if IN, 4 BAD, 5 NEAR, 6 1 if he HEARS now (0, if IN), 7 NEXT, 8 SHARE. "
            + "NoSuchElementException: another what.");
        bounds("boy(0, n)", Due.ELEMENT, 0, 8, (x, n) -> x.boy(0, n));
        Doc.promises(56, "NONE without. NoSuchElementException: another what.");
        bounds("log(0, n)", Due.ELEMENT, 0, 4, (x, n) -> x.log(0, n));
        bounds("log(-1, n)", Due.ELEMENT, 0, 4, (x, n) -> x.log(-1, n));
        bounds("log(60, n)", Due.ELEMENT, 0, 4, (x, n) -> x.log(60, n));
    }

    private static void theOneToldFirst() {
        Doc.says("Of several exceptions the one told first is thrown;");
        String[] calls = {"cell(64, 3)", "boy(3, 9)", "fire(-1)", "plant(64, true)", "part(3, 2)", "tune(2, 8, 8)", "tune(0, 8, 8)", "tune(2, 0, 8)",
            "call(3)", "send(3, 26)", "send(3, 27)", "send(0, 64)", "can(3, 17)", "lost(2, 16)", "shifted(2, 2)", "shifted(-1, -1)", "meet(3, 3)",
            "meet(-1, -1)", "meet(0, 3)", "odds(3, 5)", "ahead(3, 101)", "by(3, 2)"};
        Call[] asks = {x -> x.cell(64, 3), x -> x.boy(3, 9), x -> x.fire(-1), x -> x.plant(64, true), x -> x.part(3, 2), x -> x.tune(2, 8, 8),
            x -> x.tune(0, 8, 8), x -> x.tune(2, 0, 8), x -> x.call(3), x -> x.send(3, 26), x -> x.send(3, 27), x -> x.send(0, 64), x -> x.can(3, 17),
            x -> x.lost(2, 16), x -> x.shifted(2, 2), x -> x.shifted(-1, -1), x -> x.meet(3, 3), x -> x.meet(-1, -1), x -> x.meet(0, 3),
            x -> x.odds(3, 5), x -> x.ahead(3, 101), x -> x.by(3, 2)};
        for (int i = 0; i < calls.length; i++) {
            refused(calls[i], Due.INDEX, asks[i]);
        }
    }

    /** A call is refused, and all is as in another object of which nothing was asked. */
    private static void refused(String call, Class<? extends Exception> due, Call ask) {
        LostRound x = KeptBounds.rich();
        LostRound y = KeptBounds.rich();
        Due.fails(call, due, () -> ask.of(x));
        Due.is("fault() behind " + call, x.fault(), y.fault());
        Due.same("all behind " + call, Whole.of(x), Whole.of(y));
    }

    private static void nothingIsChanged() {
        Doc.says("a call that throws changes nothing but the TAPE,");
        String[] calls = {"cell(0, 3)", "note(2, 0)", "note(0, 8)", "boy(0, 9)", "fire(26)", "plant(27, true)", "part(0, 2)", "part(3, 0)",
            "tune(0, 0, 8)", "tune(0, 0, -1)", "call(2)", "send(0, 26)", "send(2, 27)", "loud(16)", "loud(-1)", "path(64, 0)", "path(0, 64)", "soon(3)",
            "by(0, 2)", "best(3)", "calls(3)", "first(3)", "can(0, 17)", "lost(0, 16)", "shifted(1, 1)", "silence(2)", "hush(2)", "mends(3)",
            "meet(2, 2)", "rests(3)", "odds(0, 5)", "ahead(0, 101)", "trial(101, true)", "span(101, true)", "led(3, true)", "log(0, 5)", "sing(0)",
            "sing(121)", "plant at a boy"};
        Call[] asks = {x -> x.cell(0, 3), x -> x.note(2, 0), x -> x.note(0, 8), x -> x.boy(0, 9), x -> x.fire(26), x -> x.plant(27, true),
            x -> x.part(0, 2), x -> x.part(3, 0), x -> x.tune(0, 0, 8), x -> x.tune(0, 0, -1), x -> x.call(2), x -> x.send(0, 26), x -> x.send(2, 27),
            x -> x.loud(16), x -> x.loud(-1), x -> x.path(64, 0), x -> x.path(0, 64), x -> x.soon(3), x -> x.by(0, 2), x -> x.best(3), x -> x.calls(3),
            x -> x.first(3), x -> x.can(0, 17), x -> x.lost(0, 16), x -> x.shifted(1, 1), x -> x.silence(2), x -> x.hush(2), x -> x.mends(3),
            x -> x.meet(2, 2), x -> x.rests(3), x -> x.odds(0, 5), x -> x.ahead(0, 101), x -> x.trial(101, true), x -> x.span(101, true),
            x -> x.led(3, true), x -> x.log(0, 5), x -> x.sing(0), x -> x.sing(121), x -> x.plant(x.boy(0, 0), true)};
        Class<?>[] due = {Due.ELEMENT, Due.INDEX, Due.INDEX, Due.ELEMENT, Due.STATE, Due.STATE, Due.INDEX, Due.INDEX, Due.ARGUMENT, Due.ARGUMENT,
            Due.STATE, Due.STATE, Due.STATE, Due.ARGUMENT, Due.ARGUMENT, Due.INDEX, Due.INDEX, Due.INDEX, Due.INDEX, Due.INDEX, Due.INDEX, Due.INDEX,
            Due.ARGUMENT, Due.ARGUMENT, Due.ARGUMENT, Due.INDEX, Due.INDEX, Due.INDEX, Due.ARGUMENT, Due.INDEX, Due.ARGUMENT, Due.ARGUMENT, Due.ARGUMENT,
            Due.ARGUMENT, Due.INDEX, Due.ELEMENT, Due.ARGUMENT, Due.ARGUMENT, Due.STATE};
        for (int i = 0; i < calls.length; i++) {
            refused(calls[i], due[i].asSubclass(Exception.class), asks[i]);
        }
    }

    /** A call is refused, and the tape is used up, fault() is as due, and all else is as it was. */
    private static void usedUp(String call, Class<? extends Exception> due, String tape, int fault, Call ask) {
        LostRound x = KeptBounds.rich();
        LostRound y = KeptBounds.rich();
        Due.put(x, tape);
        Due.fails(call + " of '" + tape + "'", due, () -> ask.of(x));
        Due.is("fault() behind " + call + " of '" + tape + "'", x.fault(), fault);
        y.end(0);
        Due.same("all behind " + call + " of '" + tape + "'", Whole.of(x), Whole.of(y));
    }

    private static void tapeUsedUp() {
        Doc.says("where it is used up, and fault(), where a text is read (also by one that is refused).");
        usedUp("wood()", Due.ARGUMENT, "part 11111111;boy at 0 sings 2 ear 1;trees 9;ferns 2 9;fire 10;loud 1;stray 1;beat 1;night 1;x", 93, LostRound::wood);
        usedUp("wood()", Due.ARGUMENT, "?", 0, LostRound::wood);
        usedUp("law()", Due.ARGUMENT, "stay;far 20;near 20;near 21", 25, LostRound::law);
        usedUp("law()", Due.ARGUMENT, "stay if (", 9, LostRound::law);
        usedUp("sounds(true)", Due.ARGUMENT, "\u0000\u0003\u0000", 5, x -> x.sounds(true));
        usedUp("sounds(false)", Due.ARGUMENT, "\u001f\u0003", 5, x -> x.sounds(false));
        usedUp("listen()", Due.ARGUMENT, "\u0000\u000f", 5, LostRound::listen);
        usedUp("ears(0)", Due.ARGUMENT, "\u0000\u0002", 5, x -> x.ears(0));
        usedUp("ears(0)", Due.ARGUMENT, "\u001b\u0001", 5, x -> x.ears(0));
        usedUp("ears(0)", Due.ARGUMENT, "\u001a\u0001", 5, x -> x.ears(0));
        usedUp("ears(3)", Due.INDEX, "\u0000\u0001", 5, x -> x.ears(3));
        usedUp("ears(-1)", Due.INDEX, "\u0000\u0002\u0000", 5, x -> x.ears(-1));
    }

    private static void thirteenthText() {
        Doc.promises(4, "Uses the TAPE up: a text of THE WOOD: how many texts there are. IllegalArgumentException: it is wrong; "
            + "UnsupportedOperationException: there are 12.");
        LostRound x = new LostRound();
        for (int n = 1; n <= 11; n++) {
            Due.is("text " + n, Due.wood(x, "ferns " + n + " " + n % 10), n);
        }
        Due.wrongWood(x, "ferns 12 1;", 11);
        Due.is("the twelfth", Due.wood(x, "ferns 12 1"), 12);
        x.loud(9);
        Due.put(x, "ferns 13 1;loud 2");
        Due.fails("the thirteenth", Due.UNSUPPORTED, x::wood);
        Due.is("it was read: no fault", x.fault(), LostRound.NONE);
        Due.is("the tape is used up", x.feed(0, 0, 0, 0, 0), 20);
        Due.is("nothing of it stays", x.cell(13, 1) + x.count(5), 9);
        Due.is("the act is remembered still", x.count(12), 1);
        Due.wrongWood(x, "ferns 13 1;loud 16", 16);
        Due.put(x, "loud 3");
        Due.fails("another one", Due.UNSUPPORTED, x::wood);
        Due.is("its fault", x.fault(), LostRound.NONE);
        Due.is("loud", x.count(5), 9);
        Due.is("undo()", x.undo(), true);
        Due.is("loud as it was", x.count(5), 4);
    }
}
