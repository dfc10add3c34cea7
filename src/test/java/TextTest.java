/** Promises 1 to 6: a new object, the tape, texts of the wood and of the law, and what is wrong in them. */
final class TextTest {
    public static void main(String[] args) {
        newObject();
        tape();
        rightWoods();
        wrongWoods();
        tooManyOfAWood();
        twelveTexts();
        nothingStaysOfAWrongText();
        rightLaws();
        wrongLaws();
        Due.close("TextTest");
    }

    private static void newObject() {
        LostRound x = new LostRound();
        int[] due = {0, 0, 0, -1, 27, 4, 50, 0, 0, 0, 0, 0, 0};
        for (int what = 0; what < due.length; what++) {
            Due.is("new count(" + what + ")", x.count(what), due[what]);
        }
        Due.is("new fault()", x.fault(), -1);
        Due.is("new dense()", x.dense(), 0);
        Due.is("new seed(9)", x.seed(9), 1);
        Due.is("new undo()", x.undo(), false);
        Due.is("new back()", x.back(), false);
        Due.is("NONE", LostRound.NONE, -1);
    }

    private static void tape() {
        LostRound x = new LostRound();
        Due.is("end(0) of none", x.end(0), true);
        Due.is("end(1) of none", x.end(1), false);
        Due.is("end(-1)", x.end(-1), false);
        for (int n = 20; n <= 400; n += 20) {
            Due.is("feed", x.feed(1, 2, 3, 4, 5), n);
        }
        Due.is("feed beyond 400", x.feed(1, 2, 3, 4, 5), -1);
        Due.is("end(401)", x.end(401), false);
        Due.is("end(Integer.MIN_VALUE)", x.end(Integer.MIN_VALUE), false);
        Due.is("end(400)", x.end(400), true);
        Due.is("end(381)", x.end(381), true);
        Due.is("feed on 381", x.feed(0, 0, 0, 0, 0), -1);
        Due.is("end(380)", x.end(380), true);
        Due.is("feed on 380", x.feed(0, 0, 0, 0, 0), 400);
        Due.is("end(3)", x.end(3), true);
        Due.is("feed on 3", x.feed(0, 0, 0, 0, 0), 23);
        Due.fails("wood of noughts", IllegalArgumentException.class, x::wood);
        Due.is("feed behind a wrong text", x.feed(0, 0, 0, 0, 0), 20);
        x.end(0);
        // "beat 5  " and blanks: the highest byte of each number comes first.
        x.feed(0x62656174, 0x20352020, 0x20202020, 0x20202020, 0x20202020);
        Due.is("wood of four bytes a number", x.wood(), 1);
        Due.is("beat told so", x.count(7), 5);
        Due.is("feed behind a right text", x.feed(0, 0, 0, 0, 0), 20);
    }

    private static void rightWoods() {
        LostRound x = new LostRound();
        Due.is("an empty text", Due.wood(x, ""), 1);
        Due.is("blanks alone", Due.wood(x, "    "), 2);
        Due.is("no blanks but where words meet", Due.wood(x, "part01234567;boy at3sings0ear15"), 3);
        Due.is("many blanks", Due.wood(x, "  part  76543210  ;  boy  at  4  sings  1  ear  0  ;  ferns 5  007  "), 4);
        Due.is("fault()", x.fault(), -1);
        Due.is("parts", x.count(0), 2);
        for (int beat = 0; beat < 8; beat++) {
            Due.is("note(0, b)", x.note(0, beat), beat);
            Due.is("note(1, b)", x.note(1, beat), 7 - beat);
        }
        Due.is("boy(0, 0)", x.boy(0, 0), 3);
        Due.is("boy(0, 2)", x.boy(0, 2), 15);
        Due.is("boy(1, 1)", x.boy(1, 1), 1);
        Due.is("ferns 5 007", x.cell(5, 1), 7);
        Due.wood(x, "loud 15;stray 100;beat 7;night 999;ferns 63 9;ferns 5 0;trees 0;trees 0");
        Due.is("loud", x.count(5), 15);
        Due.is("stray", x.count(6), 100);
        Due.is("beat", x.count(7), 7);
        Due.is("night", x.count(8), 999);
        Due.is("ferns together", x.count(9), 9);
        Due.is("trees told twice", x.dense(), 1);
        Due.wood(x, "trees 63;loud 0;stray 0;beat 0;night 0");
        Due.is("trees 63", x.cell(63, 0), 1);
        Due.is("all 0", x.count(5) + x.count(6) + x.count(7) + x.count(8), 0);
        Due.wood(x, "boy at 27 sings 0 ear 1;fire 3;fire 12;trees 3;trees 27");
        Due.is("a boy told in the fire, and one at whom it came: in", x.count(10), 0b101);
        Due.is("fire", x.count(4), 12);
        Due.is("who is in goes with the fire", x.boy(0, 0) + x.boy(2, 0), 24);
        Due.is("where they were there may be trees", x.cell(3, 0) + x.cell(27, 0), 2);
    }

    private static void wrongWoods() {
        LostRound x = new LostRound();
        Due.wrongWood(x, ";", 0);
        Due.wrongWood(x, "  ;", 2);
        Due.wrongWood(x, "Part 00000000", 0);
        Due.wrongWood(x, "partx 00000000", 0);
        Due.wrongWood(x, "partz 00000000", 0);
        Due.wrongWood(x, "parta 00000000", 0);
        Due.wrongWood(x, "part", 4);
        Due.wrongWood(x, "part   ", 7);
        Due.wrongWood(x, "part;", 4);
        Due.wrongWood(x, "part x", 5);
        Due.wrongWood(x, "part 0123 4567", 5);
        Due.wrongWood(x, "part 0123456", 5);
        Due.wrongWood(x, "part 012345678", 5);
        Due.wrongWood(x, "part 01234568", 5);
        Due.wrongWood(x, "part 01234567 x", 14);
        Due.wrongWood(x, "part 01234567 ;", 15);
        Due.wrongWood(x, "part 01234567;;", 14);
        Due.wrongWood(x, "boy at 3 sings 0 ear 3", 15);
        Due.wrongWood(x, "boy 3", 4);
        Due.wrongWood(x, "boyat 3", 0);
        Due.wrongWood(x, "part 00000000;boy at 64", 21);
        Due.wrongWood(x, "part 00000000;boy at 0003", 21);
        Due.wrongWood(x, "part 00000000;boy at 3 ear", 23);
        Due.wrongWood(x, "part 00000000;boy at 3 sings", 28);
        Due.wrongWood(x, "part 00000000;boy at 3 sings 1 ear 3", 29);
        Due.wrongWood(x, "part 00000000;boy at 3 sings 0 ear 16", 35);
        Due.wrongWood(x, "part 00000000;boy at 3 sings 0 ear", 34);
        Due.wrongWood(x, "part 00000000;trees 3;boy at 3 sings 0 ear 3", 29);
        Due.wrongWood(x, "part 00000000;boy at 3 sings 0 ear 3;trees 3", 43);
        Due.wrongWood(x, "trees 27", 6);
        Due.wrongWood(x, "trees 64", 6);
        Due.wrongWood(x, "trees", 5);
        Due.wrongWood(x, "trees 3;fire 3", 13);
        Due.wrongWood(x, "fire 64", 5);
        Due.wrongWood(x, "fire", 4);
        Due.wrongWood(x, "ferns", 5);
        Due.wrongWood(x, "loud", 4);
        Due.wrongWood(x, "stray", 5);
        Due.wrongWood(x, "beat", 4);
        Due.wrongWood(x, "night", 5);
        Due.wrongWood(x, "ferns 64 1", 6);
        Due.wrongWood(x, "ferns 3", 7);
        Due.wrongWood(x, "ferns 3 10", 8);
        Due.wrongWood(x, "ferns 3 4 5", 10);
        Due.wrongWood(x, "loud 16", 5);
        Due.wrongWood(x, "stray 101", 6);
        Due.wrongWood(x, "beat 8", 5);
        Due.wrongWood(x, "night 1000", 6);
        Due.wrongWood(x, "night 0001", 6);
        Due.wrongWood(x, "beat -1", 5);
        Due.wrongWood(x, "beat 1\t", 6);
        Due.wrongWood(x, "beat 1x", 6);
        Due.wrongWood(x, "beat\u00ff1", 4);
        Due.wrongWood(x, "far 1", 0);
        Due.is("texts of all these", x.count(2), 0);
    }

    private static void tooManyOfAWood() {
        LostRound x = new LostRound();
        Due.wood(x, "part 00000000;".repeat(5) + "part 11111111");
        Due.wrongWood(x, "beat 1; part 00000000", 8);
        Due.wood(x, "boy at 3 sings 5 ear 3;".repeat(5) + "boy at 3 sings 0 ear 3");
        Due.wrongWood(x, "boy at 3 sings 0 ear 3", 0);
        Due.is("six parts", x.count(0), 6);
        Due.is("six boys", x.count(1), 6);
        Due.is("fourteen lines", Due.wood(x, "beat 1;".repeat(13) + "beat 2"), 3);
        Due.wrongWood(x, "beat 1;".repeat(14) + "beat 2", 98);
        Due.wrongWood(x, "beat 1;".repeat(14), 98);
        Due.wrongWood(x, "beat 1;".repeat(14) + "  ;", 100);
    }

    private static void twelveTexts() {
        LostRound x = new LostRound();
        for (int n = 1; n <= 12; n++) {
            Due.is("text " + n, Due.wood(x, "loud " + n), n);
        }
        Due.put(x, "loud 13");
        Due.fails("a thirteenth text", UnsupportedOperationException.class, x::wood);
        Due.is("fault() of it", x.fault(), -1);
        Due.is("loud behind it", x.count(5), 12);
        Due.is("feed behind it", x.feed(0, 0, 0, 0, 0), 20);
        x.end(0);
        Due.wrongWood(x, "loud 16", 5);
        Due.put(x, "loud 13");
        Due.fails("one more", UnsupportedOperationException.class, x::wood);
        Due.is("fault() is none again", x.fault(), -1);
        Due.is("texts", x.count(2), 12);
    }

    private static void nothingStaysOfAWrongText() {
        LostRound x = Due.told("part 11111111;boy at 0 sings 0 ear 1");
        x.loud(5);
        Due.wrongWood(x, "part 22222222;boy at 1 sings 1 ear 2;trees 9;ferns 8 3;fire 0;loud 1;stray 2;beat 3;night 4;song", 92);
        int[] due = {1, 1, 1, -1, 27, 5, 50, 0, 0, 0, 0, 0, 1};
        for (int what = 0; what < due.length; what++) {
            Due.is("count(" + what + ") behind a wrong text", x.count(what), due[what]);
        }
        Due.is("trees behind it", x.dense(), 0);
        Due.law(x, "far 3");
        Due.wrongLaw(x, "far 2;far 1;fir 3", 12);
        Due.is("lines behind a wrong law", x.count(3), 1);
    }

    private static void rightLaws() {
        LostRound x = new LostRound();
        Due.is("an empty law", Due.law(x, ""), 0);
        Due.is("its lines", x.count(3), 0);
        Due.is("blanks alone", Due.law(x, "   "), 0);
        Due.is("one line", Due.law(x, "far 20"), 1);
        Due.is("three lines", Due.law(x, "near 0;stay if silent;far 3 if ferny or x<3"), 3);
        Due.is("no blanks but where words meet", Due.law(x, "stay if(not(x<3)and 3<y)or(ferny)"), 1);
        Due.is("six deep", Due.law(x, "stay if (not (not (not silent)))"), 1);
        Due.is("six deep, twice", Due.law(x, "stay if ((((((silent)))))) and not not not not not not ferny"), 1);
        Due.is("all words", Due.law(x, "far 1 if boy+part+ear+x+y+away+bad+beat+999<0"), 1);
        Due.is("twelve lines", Due.law(x, "stay;".repeat(11) + "stay"), 12);
        Due.is("lines", x.count(3), 12);
        Due.is("fault()", x.fault(), -1);
    }

    private static void wrongLaws() {
        LostRound x = new LostRound();
        Due.wrongLaw(x, ";", 0);
        Due.wrongLaw(x, "part 00000000", 0);
        Due.wrongLaw(x, "far", 3);
        Due.wrongLaw(x, "far if silent", 4);
        Due.wrongLaw(x, "far 21", 4);
        Due.wrongLaw(x, "near 0020", 5);
        Due.wrongLaw(x, "stay 3", 5);
        Due.wrongLaw(x, "stay silent", 5);
        Due.wrongLaw(x, "stay if", 7);
        Due.wrongLaw(x, "stay if   ", 10);
        Due.wrongLaw(x, "stay if ;", 8);
        Due.wrongLaw(x, "stay ifsilent", 5);
        Due.wrongLaw(x, "stay if loud < 3", 8);
        Due.wrongLaw(x, "stay if x", 9);
        Due.wrongLaw(x, "stay if x = 3", 10);
        Due.wrongLaw(x, "stay if x <", 11);
        Due.wrongLaw(x, "stay if x < 1000", 12);
        Due.wrongLaw(x, "stay if x < 3 < 4", 14);
        Due.wrongLaw(x, "stay if x + < 4", 12);
        Due.wrongLaw(x, "stay if x < 4 +", 15);
        Due.wrongLaw(x, "stay if silent + 3 < 4", 15);
        Due.wrongLaw(x, "stay if silent and", 18);
        Due.wrongLaw(x, "stay if silent and or ferny", 19);
        Due.wrongLaw(x, "stay if (silent", 15);
        Due.wrongLaw(x, "stay if (silent;stay", 15);
        Due.wrongLaw(x, "stay if silent)", 14);
        Due.wrongLaw(x, "stay if ()", 9);
        Due.wrongLaw(x, "stay if (x) < 3", 10);
        Due.wrongLaw(x, "stay if not", 11);
        Due.wrongLaw(x, "stay if ((((((silent))))))and(((((((", 40 - 5);
        Due.wrongLaw(x, "stay if (((((((silent)))))))", 14);
        Due.wrongLaw(x, "stay if (not (not (not (silent", 23);
        Due.wrongLaw(x, "stay if silent x", 15);
        Due.wrongLaw(x, "stay;", 5);
        Due.wrongLaw(x, "stay;".repeat(12) + "stay", 60);
        Due.is("no law of all these", x.count(3), -1);
    }
}
