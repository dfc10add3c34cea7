/** The first wrong byte of a text, by each of what can be wrong. */
final class WrongBounds {
    private WrongBounds() {
    }

    static void run() {
        firstThing();
        moreDigits();
        outOfBounds();
        tellsNone();
        figures();
        words();
        seventhDeep();
        tooMany();
        moreMustCome();
        faultOfTheLatest();
    }

    private static void firstThing() {
        Doc.says("The first wrong byte: the begin of the first thing that cannot stand there (");
        LostRound x = new LostRound();
        Due.wrongWood(x, "?", 0);
        Due.wrongWood(x, "    ?", 4);
        Due.wrongWood(x, "beat 1 ? ?", 7);
        Due.wrongWood(x, "beat 9;beat 8", 5);
        Due.wrongWood(x, "beat 7;beat 8;beat 9", 12);
        Due.wrongWood(x, "ferns 64 10", 6);
        Due.wrongWood(x, "trees 27;boy", 6);
        Due.wrongLaw(x, "far ? if", 4);
        Due.wrongLaw(x, "stay if ? or (", 8);
        Due.wrongLaw(x, "stay if x < ) > 3", 12);
        Due.wrongLaw(x, "near 20 if silent ferny", 18);
        Due.wrongLaw(x, "stay if ))", 8);
    }

    private static void moreDigits() {
        Doc.says("a number of more digits,");
        LostRound x = new LostRound();
        Due.is("three digits", Due.wood(x, "beat 001;night 999;fire 063"), 1);
        Due.wrongWood(x, "beat 0001", 5);
        Due.wrongWood(x, "night 1000", 6);
        Due.wrongWood(x, "night 0999", 6);
        Due.wrongWood(x, "fire 0063", 5);
        Due.wrongWood(x, "beat   00000000000000000000000000000001;", 7);
        Due.is("three digits in a law", Due.law(x, "far 020;stay if 999 > 000"), 2);
        Due.wrongLaw(x, "far 0020", 4);
        Due.wrongLaw(x, "stay if 0999 > 000", 8);
        Due.wrongLaw(x, "stay if 999 > 0000", 14);
        Due.wrongLaw(x, "stay if 999 + 0000 > 1", 14);
    }

    private static void outOfBounds() {
        Doc.says("or out of its bounds,");
        LostRound x = Due.told("part 00000000");
        String[] lines = {"boy at 63|64 sings 0 ear 0", "boy at 62 sings 0 ear 15|16", "trees 61|64", "ferns 63|64 0", "ferns 63 9|10",
            "fire 60|64", "loud 15|16", "stray 100|101", "beat 7|8", "night 999|1000"};
        int texts = 1;
        for (String line : lines) {
            int bar = line.indexOf('|');
            int begin = line.lastIndexOf(' ', bar) + 1;
            int end = (line + " ").indexOf(' ', bar);
            Due.wrongWood(x, line.substring(0, begin) + line.substring(bar + 1), begin);
            texts++;
            Due.is("in its bounds: " + line, Due.wood(x, line.substring(0, bar) + line.substring(end)), texts);
        }
        Due.is("N at 20", Due.law(x, "far 20;near 20"), 2);
        Due.wrongLaw(x, "far 20;near 21", 12);
        Due.wrongLaw(x, "far 21;near 20", 4);
    }

    private static void tellsNone() {
        Doc.says("or that tells none that can be;");
        LostRound x = new LostRound();
        Due.wrongWood(x, "boy at 1 sings 0", 15);
        Due.wood(x, "part 00000000;part 11111111;trees 3;boy at 4 sings 1 ear 0");
        Due.wrongWood(x, "boy at 1 sings 2 ear 0", 15);
        Due.wrongWood(x, "boy at 3 sings 1 ear 0", 7);
        Due.wrongWood(x, "fire 3", 5);
        Due.wrongWood(x, "trees 4", 6);
        Due.wrongWood(x, "trees 27", 6);
        Due.wrongWood(x, "fire 4;trees 4", 13);
    }

    private static void figures() {
        Doc.says("figures of another number, or others than there may be;");
        LostRound x = new LostRound();
        Due.wrongWood(x, "part  7", 6);
        Due.wrongWood(x, "part 0123456", 5);
        Due.wrongWood(x, "part 012345670", 5);
        Due.wrongWood(x, "part 01234568", 5);
        Due.wrongWood(x, "part 81234567", 5);
        Due.wrongWood(x, "part 01239567", 5);
        Due.wrongWood(x, "part 0123 4567", 5);
        Due.wrongWood(x, "part 01234567;part 7654321", 19);
        Due.is("eight from 0 to 7", Due.wood(x, "part 01234567"), 1);
    }

    private static void words() {
        Doc.says("a word that is none;");
        LostRound x = Due.told("part 00000000");
        for (String word : new String[] {"p", "par", "partt", "part0x", "far", "stay", "if", "at", "a", "z"}) {
            Due.wrongWood(x, word, word.equals("part0x") ? 4 : 0);
        }
        Due.wrongWood(x, "boy in 4", 4);
        Due.wrongWood(x, "boy at 4 sing 0", 9);
        Due.wrongWood(x, "boy at 4 sings 0 ears 0", 17);
        Due.wrongWood(x, "beat x", 5);
        LostRound y = new LostRound();
        for (String word : new String[] {"part", "beat", "f", "fa", "fars", "nea", "nearer", "sta", "stayed", "if", "not", "silent"}) {
            Due.wrongLaw(y, word, 0);
        }
        for (String word : new String[] {"loud", "night", "stray", "z", "xx", "yy", "boys", "bo", "silen", "silently", "ferns", "nott", "if", "or", "and"}) {
            Due.wrongLaw(y, "stay if " + word, 8);
        }
        Due.wrongLaw(y, "stay if silent nor ferny", 15);
        Due.wrongLaw(y, "stay when silent", 5);
        Due.wrongLaw(y, "stay if x < loud", 12);
        Due.wrongLaw(y, "stay if x + silent < 1", 12);
    }

    private static void seventhDeep() {
        Doc.says("the ( or not that is a 7th one deep;");
        LostRound x = new LostRound();
        // Each row of six brackets and nots, and a seventh of either kind.
        for (int bits = 0; bits < 64; bits += 7) {
            StringBuilder open = new StringBuilder("stay if ");
            for (int i = 0; i < 6; i++) {
                open.append((bits >> i & 1) == 0 ? "( " : "not ");
            }
            String close = " )".repeat(6 - Integer.bitCount(bits));
            Due.is("six deep: " + open, Due.law(x, open + "silent" + close), 1);
            Due.wrongLaw(x, open + "( silent )" + close, open.length());
            Due.wrongLaw(x, open + "not silent" + close, open.length());
        }
    }

    private static void tooMany() {
        Doc.says("of a LINE, a PART, a BOY too many, the first word),");
        LostRound x = Due.told("part 00000000;".repeat(5) + "part 00000000", "boy at 1 sings 0 ear 0;".repeat(5) + "boy at 1 sings 5 ear 0");
        Due.wrongWood(x, "part 00000000", 0);
        Due.wrongWood(x, "  part x", 2);
        Due.wrongWood(x, "beat 1; part", 8);
        Due.wrongWood(x, "boy at 1 sings 0 ear 0", 0);
        Due.wrongWood(x, "beat 1;  boy", 9);
        String fourteen = "beat 1;".repeat(14);
        Due.wrongWood(x, fourteen + "beat 1", 98);
        Due.wrongWood(x, fourteen + "  x", 100);
        Due.wrongWood(x, fourteen + "?", 98);
        LostRound y = new LostRound();
        Due.wrongWood(y, "part 00000000;".repeat(6) + "part 00000000", 84);
        Due.wrongWood(y, "part 00000000;" + "boy at 1 sings 0 ear 0;".repeat(6) + "boy at 1 sings 0 ear 0", 14 + 6 * 23);
        Due.wrongLaw(y, "stay;".repeat(12) + "stay", 60);
        Due.wrongLaw(y, "stay;".repeat(12) + "   stay", 63);
        Due.wrongLaw(y, "stay;".repeat(12) + "x", 60);
        Due.wrongLaw(y, "stay;".repeat(11) + "stay if silent;near 1", 70);
    }

    private static void moreMustCome() {
        Doc.says("or the text's length, if more must come.");
        LostRound x = Due.told("part 00000000");
        for (String text : new String[] {"part", "boy", "boy at", "boy at 1", "boy at 1 sings", "boy at 1 sings 0", "boy at 1 sings 0 ear",
            "trees", "ferns", "ferns 1", "fire", "loud", "stray", "beat", "night", "beat 1;", "beat 1 ;  "}) {
            Due.wrongWood(x, text, text.length());
        }
        Due.wrongWood(x, "beat 1;".repeat(14), 98);
        Due.wrongWood(x, "part ", 5);
        LostRound y = new LostRound();
        for (String text : new String[] {"far", "near", "far 1 if", "stay if", "stay if not", "stay if (", "stay if x", "stay if x <", "stay if x +",
            "stay if x < y +", "stay if (silent", "stay if (silent or", "stay if silent and", "stay;", "stay if silent;", "stay  if  "}) {
            Due.wrongLaw(y, text, text.length());
        }
        Due.wrongLaw(y, "stay;".repeat(12), 60);
        // A text as long as the TAPE.
        LostRound z = new LostRound();
        Due.wrongLaw(z, "stay if" + " ".repeat(393), 400);
        Due.wrongLaw(z, " ".repeat(399) + "?", 399);
        Due.wrongWood(z, " ".repeat(396) + "beat", 400);
        Due.is("a law of 400 bytes", Due.law(z, " ".repeat(396) + "stay"), 1);
    }

    private static void faultOfTheLatest() {
        Doc.promises(6, "The first wrong byte of the latest text that was read; NONE without one, and ahead of any.");
        LostRound x = new LostRound();
        Due.is("ahead of any", x.fault(), LostRound.NONE);
        Due.wrongWood(x, "beat 8", 5);
        Due.wrongLaw(x, "far 1;", 6);
        Due.wood(x, "beat 1");
        Due.is("behind a right one", x.fault(), LostRound.NONE);
        Due.wrongLaw(x, "?", 0);
        Due.law(x, "");
        Due.is("behind an empty law", x.fault(), LostRound.NONE);
        Due.wrongLaw(x, "stay ?", 5);
        Due.put(x, 1, 2, 3);
        Due.fails("sounds of three bytes", Due.ARGUMENT, () -> x.sounds(false));
        Due.fails("listen", Due.ARGUMENT, x::listen);
        Due.is("rows are no text", x.fault(), 5);
    }
}
