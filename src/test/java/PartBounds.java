/** Parts told apart, shifted, silent, and a note changed for the better. */
final class PartBounds {
    private PartBounds() {
    }

    static void run() {
        code();
        shifted();
        silence();
        hush();
        quiet();
        mends();
        mendsBounds();
    }

    private static void code() {
        Doc.says("CODE: of sets of BEATS the fewest by which no two PARTS are alike in all NOTES of these BEATS: of several the least as bits; none.");
        LostRound x = new LostRound();
        Due.is("without parts", x.code(), 0);
        Due.wood(x, "part 00000000");
        Due.is("of one part", x.code(), 0);
        Due.wood(x, "part 00000001");
        Due.is("by beat 7 alone", x.code(), 0b10000000);
        Due.wood(x, "part 00000010");
        Due.is("by beats 6 and 7", x.code(), 0b11000000);
        Due.wood(x, "part 00000100;part 00001000;part 00010000");
        Due.is("by five beats", x.code(), 0b11111000);
        x.tune(5, 3, 0);
        Due.is("two alike: none", x.code(), LostRound.NONE);
        x.tune(5, 0, 7);
        Due.is("by beat 0 among five", x.code(), 0b11110001);
        for (int part = 0; part < 6; part++) {
            x.tune(part, 6, part);
        }
        Due.is("by one beat: the least set is not the fewest", x.code(), 0b01000000);
        for (int part = 0; part < 6; part++) {
            x.tune(part, 4, part + 1);
        }
        Due.is("of two beats the least", x.code(), 0b00010000);
        Due.is("of all beats the least", Due.told("part 00000000;part 77777777").code(), 1);
        Due.is("two alike of three: none", Due.told("part 01234567;part 76543210;part 01234567").code(), LostRound.NONE);
        Due.is("the last two alike: none", Due.told("part 01234567;part 76543210;part 76543210").code(), LostRound.NONE);
        Due.is("the last two by beat 7", Due.told("part 01234567;part 76543211;part 76543212").code(), 0b10000000);
    }

    private static void shifted() {
        Doc.says("SHIFTED of two PARTS: the least K 1 to 7 by which the second one is the first one begun K BEATS later "
            + "(NOTE of BEAT b of the second one is that of BEAT b and K, modulo 8, of the first one); none.");
        String first = "12345670";
        for (int k = 1; k <= 7; k++) {
            LostRound x = Due.told("part " + first + ";part " + first.substring(k) + first.substring(0, k));
            Due.is("by " + k, x.shifted(0, 1), k);
            Due.is("the other way round, by 8 less " + k, x.shifted(1, 0), 8 - k);
            for (int beat = 0; beat < 8; beat++) {
                int note = x.note(1, beat);
                x.tune(1, beat, (note + 1) % 8);
                Due.is("by " + k + " but for beat " + beat, x.shifted(0, 1), LostRound.NONE);
                x.tune(1, beat, note);
            }
        }
        LostRound x = Due.told("part 12345670;part 12345670;part 11111111;part 11111111;part 12341234;part 12341234");
        Due.is("alike: by no K of 1 to 7", x.shifted(0, 1), LostRound.NONE);
        Due.is("one note: the least", x.shifted(2, 3), 1);
        Due.is("twice the same: by 4", x.shifted(4, 5), 4);
        Due.is("of others: none", x.shifted(0, 2), LostRound.NONE);
    }

    private static void silence() {
        Doc.says("SILENCE of a PART: how many 0;");
        LostRound x = Due.told("part 00000000;part 12345671;part 01111111;part 11111110");
        int[] due = {8, 0, 1, 1};
        for (int part = 0; part < 4; part++) {
            Due.is("silence(" + part + ")", x.silence(part), due[part]);
        }
    }

    private static void hush() {
        Doc.says("HUSH of a PART: the most 0 one behind another, from BEAT 7 on to 0, too (8, if all are).");
        String[] parts = {"00000000", "12345671", "01111111", "11111110", "01111110", "00111000", "00010000", "10000000", "00000001",
            "01010101", "00110010", "10011001", "00000100", "00100100", "07000070"};
        int[] due = {8, 0, 1, 1, 2, 5, 7, 7, 7, 1, 3, 2, 7, 4, 4};
        for (int i = 0; i < parts.length; i++) {
            LostRound x = Due.told("part " + parts[i] + ";part 77777777;part " + parts[i] + ";part 00000000");
            Due.is("hush of " + parts[i], x.hush(0), due[i]);
            Due.is("hush of " + parts[i] + ", amid others", x.hush(2), due[i]);
        }
    }

    private static void quiet() {
        Doc.says("QUIET: the PART of the most SILENCE (of several the least; none).");
        LostRound x = new LostRound();
        Due.is("without parts", x.quiet(), LostRound.NONE);
        Due.wood(x, "part 11111111;part 22222222");
        Due.is("without a silence, of several the least", x.quiet(), 0);
        Due.wood(x, "part 00000000;part 10000000;part 00000000;part 10000000");
        Due.is("of two of eight the least", x.quiet(), 2);
        x.tune(2, 0, 1);
        Due.is("of eight and seven", x.quiet(), 4);
        x.tune(4, 7, 1);
        Due.is("of four of seven the least", x.quiet(), 2);
    }

    private static void mends() {
        Doc.says("MENDS of a BOY: the change of one NOTE of his PART by which SOON of him is the least, and less than now "
            + "(or some, if none is now): 8 times the BEAT and the NOTE: of several the least; none.");
        LostRound x = Due.told("part 77777777;part 00000000;part 07777777;boy at 28 sings 0 ear 15;boy at 28 sings 1 ear 15"
            + ";boy at 27 sings 0 ear 15;boy at 0 sings 0 ear 0;boy at 29 sings 2 ear 15");
        Due.is("none now: some", x.mends(0), 0);
        Due.is("by 1 now: none", x.mends(1), LostRound.NONE);
        Due.is("in: none", x.mends(2), LostRound.NONE);
        Due.is("one who does not hear: none", x.mends(3), LostRound.NONE);
        Due.is("by 9 now: by 2", x.mends(4), 8);
        Due.is("nothing is changed", x.note(0, 0) + x.note(2, 1), 14);
        Due.is("no act", x.count(12), 0);
        Due.law(x, "stay if silent");
        Due.is("a side", x.mends(0), 4);
        Due.is("none now, by 9 with a side twice", x.mends(4), 4);
    }

    private static void mendsBounds() {
        Doc.says("8 times the BEAT and the NOTE: of several the least; none.");
        LostRound x = Due.told("part 77777777;boy at 28 sings 0 ear 15;beat 7");
        Due.is("a silence of the last beat, which is now", x.mends(0), 56);
        Due.law(x, "stay if silent");
        Due.is("a side of the last beat", x.mends(0), 60);
        // A silence in beat 7 leads into ferns where he is deaf; he comes round them if he stays in that beat.
        LostRound y = Due.told("part 14437770;boy at 29 sings 0 ear 4;ferns 28 9;beat 7");
        Due.is("none now", y.soon(0), LostRound.NONE);
        Due.is("the least stay of the last beat", y.mends(0), 61);
        y.tune(0, 7, 5);
        Due.is("by 5 then", y.soon(0), 5);
        // Thirteen off, led in beat 4 alone, and silent there by no note: by 100 from beat 1, by 101 from beat 0.
        LostRound z = Due.told("part 77777777;fire 0;boy at 62 sings 0 ear 15;beat 1");
        Due.law(z, "stay if beat < 4 or beat > 4");
        Due.is("by 100", z.mends(0), 32);
        Due.wood(z, "beat 0");
        Due.is("by 101: none", z.mends(0), LostRound.NONE);
        // By 100 now: a second silence brings him in sooner.
        Due.is("by 100 now", WayBounds.byAHundred(1).mends(0), 8);
        Due.is("none now, as it is by 101", WayBounds.byAHundred(0).mends(0), 0);
    }
}
