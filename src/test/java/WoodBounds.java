/** What stands in the texts of the wood. */
final class WoodBounds {
    private WoodBounds() {
    }

    static void run() {
        twelveTexts();
        fourteenLines();
        kindsOfLines();
        figures();
        boys();
        trees();
        ferns();
        fire();
        nights();
        digits();
    }

    private static void twelveTexts() {
        Doc.says("THE WOOD is told in texts (at most 12, one behind another):");
        LostRound x = new LostRound();
        for (int n = 1; n <= 12; n++) {
            Due.is("text " + n, Due.wood(x, "ferns " + n + " 1"), n);
            Due.is("texts", x.count(2), n);
        }
        Due.is("all of them hold", x.count(9), 12);
        Due.put(x, "ferns 13 1");
        Due.fails("text 13", Due.UNSUPPORTED, x::wood);
        Due.is("texts still", x.count(2), 12);
        Due.is("ferns still", x.count(9), 12);
        Due.put(x, "");
        Due.fails("text 13, empty", Due.UNSUPPORTED, x::wood);
        Due.is("a law is none of them", Due.law(x, "stay"), 1);
        LostRound y = new LostRound();
        Due.wrongWood(y, "x", 0);
        Due.is("a wrong text is none of them", Due.wood(y, ""), 1);
    }

    private static void fourteenLines() {
        Doc.says("LINE { ; LINE }, at most 14:");
        LostRound x = new LostRound();
        Due.is("one line", Due.wood(x, "beat 1"), 1);
        StringBuilder text = new StringBuilder("ferns 1 1");
        for (int cell = 2; cell <= 14; cell++) {
            text.append(";ferns ").append(cell).append(" 1");
        }
        Due.is("fourteen lines", Due.wood(x, text.toString()), 2);
        Due.is("all of them hold", x.count(9), 14);
        Due.wrongWood(x, text + ";ferns 15 1", text.length() + 1);
        Due.wrongWood(x, text + " ; ferns 15 1", text.length() + 3);
        Due.is("nothing of fifteen", x.cell(15, 1), 0);
        Due.wrongWood(x, "; beat 1", 0);
        Due.wrongWood(x, "beat 1 beat 2", 7);
        Due.wrongWood(x, "beat 1,beat 2", 6);
    }

    private static void kindsOfLines() {
        Doc.says("part F | boy at N sings N ear N | trees N | ferns N N | fire N | loud N | stray N | beat N | night N.");
        String[][] lines = {{"part", "01234567"}, {"trees", "5"}, {"ferns", "5", "6"}, {"fire", "5"}, {"loud", "5"}, {"stray", "5"},
            {"beat", "5"}, {"night", "5"}, {"part", "76543210", ";", "boy", "at", "63", "sings", "0", "ear", "15"},
            {"fire", "63", ";", "trees", "0", ";", "ferns", "0", "9", ";", "loud", "15"}};
        for (String[] line : lines) {
            Tokens tokens = new Tokens(false, line);
            tokens.whole(1);
            tokens.spoilt();
            tokens.cutOff(ahead(line));
        }
        LostRound x = Due.told("part 76543210", "boy at 63 sings 0 ear 15", "trees 5;ferns 6 7;fire 8;loud 9;stray 10;beat 4;night 11");
        int[] due = {1, 1, 3, -1, 8, 9, 10, 4, 11, 7, 0};
        for (int what = 0; what < due.length; what++) {
            Due.is("count(" + what + ") told", x.count(what), due[what]);
        }
        Due.is("trees told", x.cell(5, 0), 1);
        Due.is("ferns told", x.cell(6, 1), 7);
    }

    /** Where a text of several lines is whole: ahead of each semicolon. */
    private static int[] ahead(String[] line) {
        return java.util.stream.IntStream.range(0, line.length).filter(i -> line[i].equals(";")).toArray();
    }

    private static void figures() {
        Doc.says("(F: eight figures 0 to 7;");
        LostRound x = Due.told("part 00000000;part 77777777");
        Due.is("notes", x.note(0, 0) + x.note(0, 7) + x.note(1, 0) + x.note(1, 7), 14);
        for (String figures : new String[] {"0", "0000000", "000000000", "00000008", "80000000", "00009000", "0000000x"}) {
            Due.wrongWood(x, "part " + figures, 5);
        }
        Due.wrongWood(x, "part 0000 0000", 5);
        Due.wrongWood(x, "part 00000000 0", 14);
        Due.wrongWood(x, "part -0000000", 5);
        Due.is("parts still", x.count(0), 2);
    }

    private static void boys() {
        Doc.says("boy: a CELL without TREES, a PART that there is by then;");
        LostRound x = Due.told("trees 5");
        Due.wrongWood(x, "boy at 4 sings 0 ear 0", 15);
        Due.wrongWood(x, "boy at 4 sings 0 ear 0;part 00000000", 15);
        Due.is("a part just ahead of him", Due.wood(x, "part 00000000;boy at 4 sings 0 ear 0"), 2);
        Due.is("a part of an earlier text", Due.wood(x, "boy at 0 sings 0 ear 0;boy at 63 sings 0 ear 0"), 3);
        Due.wrongWood(x, "boy at 4 sings 1 ear 0", 15);
        Due.wrongWood(x, "boy at 4 sings 1 ear 0;part 00000000", 15);
        Due.wrongWood(x, "boy at 64 sings 0 ear 0", 7);
        Due.wrongWood(x, "boy at 5 sings 0 ear 0", 7);
        Due.wrongWood(x, "trees 6;boy at 6 sings 0 ear 0", 15);
        Due.wrongWood(x, "boy at 4 sings 0 ear 16", 21);
        Due.wrongWood(x, "boy 4 sings 0 ear 0", 4);
        Due.wrongWood(x, "boy sings 0 ear 0", 4);
        Due.wrongWood(x, "boy at sings 0 ear 0", 7);
        Due.wrongWood(x, "boy at 4 0 ear 0", 9);
        Due.wrongWood(x, "boy at 4 ear 0", 9);
        Due.wrongWood(x, "boy at 4 sings ear 0", 15);
        Due.wrongWood(x, "boy at 4 sings 0 0", 17);
        Due.wrongWood(x, "boy at 4 sings 0 ear;beat 1", 20);
        Due.is("in the fire, and where one is", Due.wood(x, "boy at 27 sings 0 ear 15;boy at 63 sings 0 ear 15"), 4);
        Due.is("who is in", x.count(10), 0b01000);
        Due.is("boys", x.count(1), 5);
    }

    private static void trees() {
        Doc.says("trees: a CELL without a BOY who is not IN, and not THE FIRE, else it is wrong at it;");
        LostRound x = Due.told("part 00000000;boy at 9 sings 0 ear 0;boy at 27 sings 0 ear 0");
        Due.is("trees 0 and 63", Due.wood(x, "trees 0;trees 63"), 2);
        Due.wrongWood(x, "trees 9", 6);
        Due.wrongWood(x, "trees 27", 6);
        Due.wrongWood(x, "trees 64", 6);
        Due.wrongWood(x, "boy at 10 sings 0 ear 0;trees 10", 30);
        Due.wrongWood(x, "fire 10;trees 10", 14);
        Due.is("where the fire was, and one who is in with it", Due.wood(x, "fire 10;trees 27"), 3);
        x.call(0);
        Due.is("where he was ahead of being called", Due.wood(x, "trees 9"), 4);
        Due.is("trees told twice", Due.wood(x, "trees 9"), 5);
        Due.is("dense()", x.dense(), 4);
        Due.is("where boys who are in were told", Due.wood(x, "boy at 10 sings 0 ear 0;fire 11;trees 10"), 6);
    }

    private static void ferns() {
        Doc.says("ferns: a CELL and how many;");
        LostRound x = Due.told("part 00000000;boy at 9 sings 0 ear 0;trees 5");
        Due.is("where there are trees, a boy, the fire", Due.wood(x, "ferns 5 1;ferns 9 2;ferns 27 3;ferns 0 9;ferns 63 0"), 2);
        Due.is("ferns", x.count(9), 15);
        Due.is("another number in place of the one before", Due.wood(x, "ferns 0 4;ferns 0 5"), 3);
        Due.is("ferns then", x.count(9), 11);
        Due.wrongWood(x, "ferns 64 0", 6);
        Due.wrongWood(x, "ferns 63 10", 9);
    }

    private static void fire() {
        Doc.says("fire: a CELL without TREES, else it is wrong at it (BOYS in it are IN);");
        LostRound x = Due.told("part 00000000;boy at 9 sings 0 ear 0;boy at 9 sings 0 ear 0;boy at 10 sings 0 ear 0;trees 5");
        Due.wrongWood(x, "fire 5", 5);
        Due.wrongWood(x, "fire 64", 5);
        Due.wrongWood(x, "trees 6;fire 6", 13);
        Due.is("the fire stays", x.count(4), 27);
        Due.wood(x, "fire 9");
        Due.is("both boys in it are in", x.count(10), 0b011);
        Due.wood(x, "fire 9");
        Due.is("where it is", x.count(4), 9);
        Due.wood(x, "fire 0;fire 63");
        Due.is("they go with it", x.boy(0, 0) + x.boy(1, 0), 126);
        Due.is("one on its way is in, too", Due.wood(x, "fire 10;fire 9"), 5);
        Due.is("all are in", x.count(10), 0b111);
        Due.is("no rows of it", x.count(11), 0);
    }

    private static void nights() {
        Doc.says("night: 0 to 999.)");
        LostRound x = Due.told("night 999");
        Due.is("night 999", x.count(8), 999);
        Due.wrongWood(x, "night 1000", 6);
        Due.wood(x, "night 0");
        Due.is("night 0", x.count(8), 0);
        Due.wrongWood(x, "night 9999", 6);
    }

    private static void digits() {
        Doc.says("Numbers are of 1 to 3 digits.");
        LostRound x = new LostRound();
        for (String number : new String[] {"7", "07", "007"}) {
            Due.wood(x, "beat 0;loud 0;stray 0;night 0");
            Due.wood(x, "beat " + number + ";loud " + number + ";stray " + number + ";night " + number + ";ferns " + number + " " + number);
            Due.is("beat " + number, x.count(7), 7);
            Due.is("loud " + number, x.count(5), 7);
            Due.is("stray " + number, x.count(6), 7);
            Due.is("night " + number, x.count(8), 7);
            Due.is("ferns " + number, x.cell(7, 1), 7);
        }
        for (String line : new String[] {"beat ", "loud ", "stray ", "night ", "ferns ", "ferns 7 ", "trees ", "fire "}) {
            Due.wrongWood(x, line + "0007", line.length());
            Due.wrongWood(x, line + "00000000000007", line.length());
            // One that goes round as an int.
            Due.wrongWood(x, line + "4294967297", line.length());
        }
    }
}
