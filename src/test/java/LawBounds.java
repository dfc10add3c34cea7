/** What stands in the law, and who hears and who stays by it. */
final class LawBounds {
    private LawBounds() {
    }

    static void run() {
        inPlaceOfTheOneBefore();
        twelveLines();
        kindsOfLines();
        numbers();
        andAheadOfOr();
        words();
        atoms();
        partAndCell();
        awaySilentFerny();
        hears();
        stays();
        blanks();
        noLine();
        sixDeep();
        nothingStays();
    }

    private static void inPlaceOfTheOneBefore() {
        Doc.says("THE LAW (a text, in place of the one before): LINE { ; LINE },");
        LostRound x = eightOff();
        Due.is("no law", x.count(3), LostRound.NONE);
        Due.law(x, "far 1;far 1");
        Due.is("lines", x.count(3), 2);
        Due.is("he does not hear by two", x.boy(0, 6), 0);
        Due.law(x, "far 6");
        Due.is("lines of the later one", x.count(3), 1);
        Due.is("nor by six alone, in place of these", x.boy(0, 6), 0);
        Due.law(x, "far 7;far 1");
        Due.is("he hears by eight", x.boy(0, 6), 1);
        Due.law(x, "");
        Due.is("nothing of it is left", x.boy(0, 6), 0);
        Due.wrongLaw(x, "far 7 far 1", 6);
        Due.wrongLaw(x, ";far 7", 0);
        Due.wrongLaw(x, "far 7;;far 1", 6);
    }

    private static void twelveLines() {
        Doc.says("at most 12: far N [ if C ] | near N [ if C ] | stay [ if C ].");
        LostRound x = eightOff();
        Due.is("eleven lines", Due.law(x, "far 0;".repeat(10) + "far 8"), 11);
        Due.is("twelve lines", Due.law(x, "far 0;".repeat(11) + "far 8"), 12);
        Due.is("the twelfth holds", x.boy(0, 6), 1);
        Due.wrongLaw(x, "far 0;".repeat(12) + "near 8", 72);
        Due.wrongLaw(x, "far 0;".repeat(12), 72);
        Due.is("the one before stays", x.count(3), 12);
        Due.is("and holds", x.boy(0, 6), 1);
    }

    private static void kindsOfLines() {
        Doc.says("C: ALL { or ALL }; ALL: ATOM { and ATOM }; "
            + "ATOM: not ATOM | ( C ) | silent | ferny | SUM < SUM | SUM > SUM. "
            + "SUM: PART { + PART }; PART: NUMBER | boy | part | ear | x | y | away | bad | beat.");
        line("far 20");
        line("near 0");
        line("stay");
        line("far 3 if silent", 2);
        line("near 3 if ferny", 2);
        line("stay if not ( silent )", 1);
        line("stay if x < 999 or silent and ferny", 1, 5, 7);
        line("stay if 0 + boy + part > ear + x + y + away + bad + beat + 1 + 1", 1, 9, 11, 13, 15, 17, 19, 21);
    }

    /** A line, and how many of its things ahead are one, too. */
    private static void line(String line, int... whole) {
        Tokens tokens = new Tokens(true, line.split(" "));
        tokens.whole(1);
        tokens.spoilt();
        tokens.cutOff(whole);
    }

    private static void numbers() {
        Doc.says("All numbers are of 1 to 3 digits (N 0 to 20).");
        LostRound x = eightOff();
        for (String number : new String[] {"8", "08", "008"}) {
            Due.law(x, "far " + number);
            Due.is("far " + number, x.boy(0, 6), 1);
            Due.law(x, "far 20;far 8;near 20;near " + number);
            Due.is("near " + number, x.boy(0, 6), 0);
            Due.law(x, "far 20 if " + number + "<9 and " + number + ">7");
            Due.is("if " + number, x.boy(0, 6), 1);
        }
        Due.is("N 0", Due.law(x, "far 0;near 0;far 000"), 3);
        Due.law(x, "far 0;near 0;far 8 if 0<1;near 20 if 1<1;near 0;far 0");
        Due.is("N 0 ahead of a condition", x.boy(0, 6), 1);
        Due.is("N 20", Due.law(x, "far 20;near 20;near 020"), 3);
        Due.wrongLaw(x, "far 21", 4);
        Due.wrongLaw(x, "near 21", 5);
        Due.wrongLaw(x, "far 999", 4);
        Due.wrongLaw(x, "far 0008", 4);
        Due.wrongLaw(x, "near 0000", 5);
        Due.wrongLaw(x, "far 4294967297", 4);
        Due.is("999 in a sum", Due.law(x, "stay if 999 + 999 > 999"), 1);
        Due.wrongLaw(x, "stay if 1000 > 0", 8);
        Due.wrongLaw(x, "stay if 0 < 1000", 12);
        Due.wrongLaw(x, "stay if 0 + 0000 < 1", 12);
        Due.wrongLaw(x, "stay if x < 4294967297", 12);
    }

    /** One eight off, who hears nothing by himself. */
    static LostRound eightOff() {
        return Due.told("part 00000000;boy at 63 sings 0 ear 0;loud 0");
    }

    private static void holds(LostRound x, String condition, boolean due) {
        Due.law(x, "far 8 if " + condition);
        Due.is("hears, if " + condition, x.boy(0, 6), due ? 1 : 0);
        Due.law(x, "far 20;stay if " + condition);
        Due.is("next, if he stays by " + condition, x.boy(0, 7), due ? 63 : 62);
        Due.law(x, "far 20;near 20 if " + condition);
        Due.is("does not hear, if " + condition, x.boy(0, 6), due ? 0 : 1);
    }

    private static void andAheadOfOr() {
        Doc.says("ALL { or ALL }; ALL: ATOM { and ATOM };");
        String[] atoms = {"0<0", "0<1"};
        for (int bits = 0; bits < 16; bits++) {
            LostRound x = eightOff();
            boolean a = (bits & 1) != 0;
            boolean b = (bits & 2) != 0;
            boolean c = (bits & 4) != 0;
            boolean d = (bits & 8) != 0;
            String[] s = {atoms[a ? 1 : 0], atoms[b ? 1 : 0], atoms[c ? 1 : 0], atoms[d ? 1 : 0]};
            holds(x, s[0] + " or " + s[1] + " and " + s[2] + " or " + s[3], a || b && c || d);
            holds(x, s[0] + " and " + s[1] + " or " + s[2] + " and " + s[3], a && b || c && d);
            holds(x, "not " + s[0] + " and not (" + s[1] + " or " + s[2] + ") or not not " + s[3], !a && !(b || c) || d);
            holds(x, "(" + s[0] + " or " + s[1] + ") and (" + s[2] + " or not " + s[3] + ")", (a || b) && (c || !d));
        }
    }

    private static void words() {
        Doc.says("not ATOM | ( C ) | silent | ferny |");
        String[] notes = {"7", "0"};
        for (int bits = 0; bits < 8; bits++) {
            boolean silent = (bits & 1) != 0;
            boolean ferny = (bits & 2) != 0;
            boolean less = (bits & 4) != 0;
            LostRound x = Due.told("part " + notes[silent ? 1 : 0] + "0000000;boy at 36 sings 0 ear 3;loud 0;ferns 36 " + (ferny ? 1 : 0));
            String atom = less ? "0<1" : "0<0";
            stands(x, "silent and ferny", silent && ferny);
            stands(x, "silent or ferny", silent || ferny);
            stands(x, "ferny and not silent", ferny && !silent);
            stands(x, atom + " and silent", less && silent);
            stands(x, atom + " or silent", less || silent);
            stands(x, "ferny and " + atom, ferny && less);
            stands(x, "not ferny or " + atom, !ferny || less);
            stands(x, atom + " or silent and ferny or " + atom + " and not silent", less || silent && ferny);
            stands(x, "not (silent or ferny) and " + atom, !(silent || ferny) && less);
        }
    }

    /** One two off, who hears by three less a fern: he does not, if a condition stands. */
    private static void stands(LostRound x, String condition, boolean due) {
        Due.law(x, "far 0;near 20 if " + condition);
        Due.is("does not hear, if " + condition, x.boy(0, 6), due ? 0 : 1);
    }

    private static void atoms() {
        Doc.says("SUM < SUM | SUM > SUM.");
        LostRound x = eightOff();
        holds(x, "1<1", false);
        holds(x, "1<2", true);
        holds(x, "1>1", false);
        holds(x, "2>1", true);
        holds(x, "1+2+3<6", false);
        holds(x, "1+2+3<7", true);
        holds(x, "6>1+2+3", false);
        holds(x, "7>1+2+3", true);
        holds(x, "999+999>999+998", true);
        holds(x, "999+999>999+999", false);
        holds(x, "x+x<15 and x+x>13", true);
    }

    private static void partAndCell() {
        Doc.says("Of a BOY in a BEAT: part: the number of his PART; x, y: of his CELL; away: NEAR of it;");
        LostRound x = Due.told("part 00000000;part 00000000;boy at 27 sings 0 ear 0;boy at 62 sings 1 ear 13;loud 0;beat 7;fire 0");
        Due.law(x, "far 20");
        Due.is("he is 13 off, and hears", x.boy(1, 6), 1);
        only(x, "boy", 1);
        only(x, "part", 1);
        only(x, "ear", 13);
        only(x, "x", 6);
        only(x, "y", 7);
        only(x, "away", 13);
        only(x, "bad", 0);
        only(x, "beat", 7);
        x.fire(62);
        x.send(1, 0);
        only(x, "x", 0);
        only(x, "y", 0);
        only(x, "away", 13);
        x.part(1, 0);
        only(x, "part", 0);
        x.sing(1);
        only(x, "beat", 0);
    }

    /** A word is a number: no less, no more. */
    private static void only(LostRound x, String word, int number) {
        Due.law(x, "near 20 if " + word + "<" + number + " or " + word + ">" + number);
        Due.is(word + " is " + number, x.boy(1, 6), 1);
        Due.law(x, "near 20 if " + word + "<" + (number + 1) + " and " + word + "+1>" + number);
        Due.is(word + " is no other", x.boy(1, 6), 0);
    }

    private static void awaySilentFerny() {
        Doc.says("silent: his NOTE is 0; ferny: there are FERNS in his CELL.");
        LostRound x = Due.told("part 00000001;boy at 63 sings 0 ear 8;loud 0");
        Due.law(x, "near 1 if silent");
        Due.is("his note is 0", x.boy(0, 6), 0);
        for (int note = 1; note <= 7; note++) {
            x.tune(0, 0, note);
            Due.is("his note is " + note, x.boy(0, 6), 1);
        }
        Due.law(x, "far 9 if ferny");
        Due.is("no ferns", x.boy(0, 6), 1);
        Due.wood(x, "ferns 63 1;ferns 62 1");
        Due.is("one of them: eight and nine less one", x.boy(0, 6), 1);
        Due.law(x, "near 0 if ferny");
        Due.is("one of them alone: eight less one", x.boy(0, 6), 0);
        Due.law(x, "far 1;near 2 if not ferny");
        Due.is("near if not ferny, with ferns", x.boy(0, 6), 1);
        Due.wood(x, "ferns 63 0");
        Due.is("near if not ferny, without", x.boy(0, 6), 0);
    }

    private static void hears() {
        Doc.says("HEARS: NEAR of his CELL is at most EAR and LOUD and the sum of N of all far LINES that hold, "
            + "less FERNS there and that of all near LINES.");
        LostRound x = Due.told("part 00000000;boy at 63 sings 0 ear 3;loud 4");
        Due.is("eight off by three and four", x.boy(0, 6), 0);
        x.loud(5);
        Due.is("by three and five", x.boy(0, 6), 1);
        Due.wood(x, "ferns 63 1");
        Due.is("less one fern", x.boy(0, 6), 0);
        Due.law(x, "far 1");
        Due.is("and one by a far line", x.boy(0, 6), 1);
        Due.law(x, "far 1;near 1");
        Due.is("less one by a near line", x.boy(0, 6), 0);
        Due.law(x, "far 1;far 1;near 1");
        Due.is("two far lines alike", x.boy(0, 6), 1);
        Due.law(x, "far 1;far 1;near 1;near 1");
        Due.is("two near lines alike", x.boy(0, 6), 0);
        Due.law(x, "far 1 if 0<0;far 1;near 1 if 0<0");
        Due.is("lines that do not hold", x.boy(0, 6), 1);
        Due.law(x, "near 20;near 20;near 20;near 20;far 20;far 20;far 20;far 20;far 1");
        Due.is("far below 0 on the way", x.boy(0, 6), 1);
        x.send(0, 28);
        Due.law(x, "near 20");
        Due.is("one off by less than none", x.boy(0, 6), 0);
    }

    private static void stays() {
        Doc.says("STAYS: whether some stay LINE holds.");
        LostRound x = Due.told("part 00000000;boy at 24 sings 0 ear 15");
        Due.is("no line", x.boy(0, 7), 25);
        Due.law(x, "stay if 0<0");
        Due.is("one that does not hold", x.boy(0, 7), 25);
        Due.law(x, "stay if 0<0;stay if 0<1;stay if 0<0");
        Due.is("one of three", x.boy(0, 7), 24);
        Due.law(x, "stay;stay");
        Due.is("two of two", x.boy(0, 7), 24);
    }

    private static void blanks() {
        Doc.says("Words are as long as a to z go on; between all there may be blanks (32), also ahead and behind.");
        LostRound x = new LostRound();
        Due.is("blanks between all", Due.law(x, "   stay   if   (   x   +   1   <   2   )   ;   far   3   "), 2);
        Due.is("none but between words", Due.law(x, "stay if(x+1<2);far3if not silent"), 2);
        Due.wrongLaw(x, "stayif silent", 0);
        Due.wrongLaw(x, "sta y", 0);
        Due.wrongLaw(x, "st", 0);
        Due.wrongLaw(x, "stays", 0);
        Due.wrongLaw(x, "staya", 0);
        Due.wrongLaw(x, "stayz", 0);
        Due.wrongLaw(x, "zstay", 0);
        Due.wrongLaw(x, "stay ifx<2", 5);
        Due.wrongLaw(x, "stay if x<2 andy<2", 12);
        Due.wrongLaw(x, "far 2 0", 6);
        for (int sign : new int[] {0, 9, 10, 13, 31, 33, 47, 58, 64, 65, 90, 96, 123, 127, 160, 255}) {
            noBlank((char) sign);
        }
        Due.is("blanks of a text of the wood", Due.wood(x, "   beat   1   ;   loud   2   "), 1);
        Due.is("none in one", Due.wood(x, "beat2;loud3;part01234567;ferns5 6;boy at7sings0ear8"), 2);
        Due.wrongWood(x, "partx", 0);
        Due.wrongWood(x, "ferns56", 7);
    }

    private static void noBlank(char sign) {
        LostRound x = new LostRound();
        Due.wrongLaw(x, sign + "stay", 0);
        Due.wrongLaw(x, "stay" + sign, 4);
        Due.wrongLaw(x, "stay" + sign + "if silent", 4);
        Due.wrongLaw(x, "far 1" + sign, 5);
        Due.wrongWood(x, "beat 1" + sign, 6);
        Due.wrongWood(x, "beat" + sign + "1", 4);
    }

    private static void noLine() {
        Doc.says("A text that is empty, or blanks alone, has no LINE.");
        LostRound x = new LostRound();
        for (String text : new String[] {"", " ", " ".repeat(400)}) {
            Due.law(x, "stay");
            Due.is("a law of " + text.length() + " blanks", Due.law(x, text), 0);
            Due.is("its lines", x.count(3), 0);
            Due.is("its fault", x.fault(), LostRound.NONE);
            Due.is("texts of the wood before", x.count(2) + 1, Due.wood(x, text));
            Due.is("its fault", x.fault(), LostRound.NONE);
        }
    }

    private static void sixDeep() {
        Doc.says("( and not within one another at most 6 deep.");
        LostRound x = eightOff();
        String atom = "0<1";
        holds(x, "((((((" + atom + "))))))", true);
        holds(x, "not not not not not not " + atom, true);
        holds(x, "not (not (not (" + atom + ")))", false);
        holds(x, "(not (not (not " + atom + ")))", false);
        Due.wrongLaw(x, "stay if (((((((0<1)))))))", 14);
        Due.wrongLaw(x, "stay if not not not not not not not 0<1", 32);
        Due.wrongLaw(x, "stay if not (not (not (not 0<1)))", 23);
        Due.wrongLaw(x, "stay if (not (not (not (0<1))))", 23);
        // Behind one another they may be as many as there are, and none is left deep by those ahead.
        holds(x, "not not not not not not 0<1 and ((((((0<1)))))) and not (not (not (0<0)))", true);
        holds(x, "(((((0<1) and (0<1)) and (not 0<0)) or (0<0)) and not 0<0)", true);
        Due.wrongLaw(x, "stay if ((((((0<1)))))) and (((((((0<1)))))))", 34);
        Due.wrongLaw(x, "stay if (((((not not 0<1)))))", 17);
        holds(x, "((((((0<1 and 0<1) or 0<0) and 0<1) or 0<0) and 0<1) or 0<0)", true);
        // As much as can wait for its right side: an or, an and, and a bracket six times, and once more the two.
        String open = "0<0 or 0<1 and (".repeat(6);
        String close = ")".repeat(6);
        LostRound y = eightOff();
        holds(y, open + "0<0 or 0<1 and 0<1" + close, true);
        holds(y, open + "0<0 or 0<1 and 0<0" + close, false);
        holds(y, open + "0<1 or 0<1 and 0<0" + close, true);
    }

    private static void nothingStays() {
        Doc.says("Of a wrong text nothing stays.");
        LostRound x = Due.told("part 01234567;boy at 1 sings 0 ear 2;trees 3;ferns 4 5;loud 6;stray 7;beat 1;night 8");
        Due.law(x, "stay;far 1");
        String lines = "part 76543210;boy at 9 sings 1 ear 3;trees 10;ferns 4 6;ferns 11 1;fire 1;loud 1;stray 1;beat 2;night 1";
        int[] due = {1, 1, 1, 2, 27, 6, 7, 1, 8, 5, 0, 0, 0};
        for (String behind : new String[] {";", ";x", " x", ";beat 8", ";boy at 64", ";trees 1"}) {
            Due.put(x, lines + behind);
            Due.fails("wood of all" + behind, Due.ARGUMENT, x::wood);
            for (int what = 0; what < due.length; what++) {
                Due.is("count(" + what + ") behind it", x.count(what), due[what]);
            }
            Due.is("dense() behind it", x.dense(), 1);
            Due.is("boy 0 behind it", x.boy(0, 0) + x.boy(0, 3), 1);
        }
        Due.wrongLaw(x, "far 2;far 3;near 4;near", 23);
        Due.is("lines of the law", x.count(3), 2);
        Due.is("by which he stays", x.boy(0, 7), 1);
        Due.is("the wood is told as if there had been none", Due.wood(x, "part 76543210;boy at 9 sings 1 ear 3"), 2);
        Due.is("the part behind the first one", x.note(1, 0), 7);
    }
}
