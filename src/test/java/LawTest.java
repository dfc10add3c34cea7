/** What the law says (promise 5), by whether a boy hears, stays or goes (promises 9 and 52). */
final class LawTest {
    public static void main(String[] args) {
        atoms();
        joined();
        numbers();
        stays();
        ofOthers();
        Due.close("LawTest");
    }

    /** A boy four off who hears three: he hears by a line "far 1" just if its condition holds. */
    private static LostRound deafByOne() {
        return Due.told("part 70000000;part 01111111;boy at 0 sings 0 ear 0;boy at 59 sings 1 ear 3;loud 0");
    }

    private static void holds(LostRound x, String condition, boolean due) {
        Due.law(x, "far 1 if " + condition);
        Due.is("holds " + condition, x.boy(1, 6), due ? 1 : 0);
    }

    private static void atoms() {
        LostRound x = deafByOne();
        holds(x, "0<1", true);
        holds(x, "1<1", false);
        holds(x, "1>1", false);
        holds(x, "2>1", true);
        holds(x, "boy>0 and boy<2", true);
        holds(x, "part>0 and part<2", true);
        holds(x, "ear>2 and ear<4", true);
        holds(x, "x>2 and x<4", true);
        holds(x, "y>6 and y<8", true);
        holds(x, "away>3 and away<5", true);
        holds(x, "bad<1", true);
        holds(x, "beat<1", true);
        holds(x, "ferny", false);
        holds(x, "silent", true);
        x.tune(1, 0, 5);
        Due.is("silent by another note", x.boy(1, 6), 0);
        Due.wood(x, "beat 3");
        holds(x, "beat>2 and beat<4", true);
        Due.wood(x, "ferns 59 1;loud 1");
        holds(x, "ferny", true);
        holds(x, "not ferny", false);
    }

    private static void joined() {
        LostRound x = deafByOne();
        holds(x, "silent or ferny and ferny", true);
        holds(x, "ferny and ferny or silent", true);
        holds(x, "(silent or silent) and ferny", false);
        holds(x, "ferny and (silent or silent)", false);
        holds(x, "not ferny and silent", true);
        holds(x, "not silent and ferny", false);
        holds(x, "not (silent and ferny)", true);
        holds(x, "not silent or silent", true);
        holds(x, "not (silent or silent)", false);
        holds(x, "not not silent", true);
        holds(x, "not not not silent", false);
        holds(x, "not x<3 and not x>3", true);
        holds(x, "ferny or ferny or silent", true);
        holds(x, "silent and silent and ferny", false);
        holds(x, "ferny or silent and (ferny or (not ferny and x>2))", true);
        Due.wrongLaw(x, "far 1 if ferny and", 18);
        holds(x, "silent", true);
        Due.wrongLaw(x, "far 1 if not (ferny", 19);
        holds(x, "silent", true);
        holds(x, "(silent and (silent and (silent and (silent and (silent and (silent and silent))))))", true);
        String deep = "ferny or silent and (".repeat(6);
        holds(x, deep + "silent or ferny and ferny" + ")".repeat(6), true);
        holds(x, deep + "ferny or ferny and silent" + ")".repeat(6), false);
    }

    private static void numbers() {
        LostRound x = deafByOne();
        holds(x, "1+2<4", true);
        holds(x, "1+2<3", false);
        holds(x, "x+y>9", true);
        holds(x, "x+y>10", false);
        holds(x, "x+y+1+1<ear+10", true);
        holds(x, "12<x+y+ear", true);
        holds(x, "999>998", true);
        hears(x, "far 3;near 2", 1);
        hears(x, "far 3;near 3", 0);
        hears(x, "near 20;far 20;far 1", 1);
        hears(x, "far 1 if ferny;far 1", 1);
        hears(x, "far 1;near 1 if silent", 0);
        hears(x, "far 0", 0);
        hears(x, "", 0);
        Due.wood(x, "ferns 59 2");
        hears(x, "far 3", 1);
        hears(x, "far 2", 0);
    }

    private static void hears(LostRound x, String law, int due) {
        Due.law(x, law);
        Due.is("hears by " + law, x.boy(1, 6), due);
    }

    private static void stays() {
        LostRound x = Due.told("part 00000000;boy at 24 sings 0 ear 15;stray 100");
        Due.is("next without a law", x.boy(0, 7), 25);
        Due.law(x, "stay");
        Due.is("next by stay", x.boy(0, 7), 24);
        Due.is("he hears, who stays", x.boy(0, 6), 1);
        Due.law(x, "stay if beat<2;stay if beat>5");
        Due.is("beats 0 and 1 he stays", x.ahead(0, 2), 24);
        Due.is("then he goes", x.ahead(0, 4), 26);
        Due.law(x, "near 20;near 20;stay");
        Due.is("he does not hear", x.boy(0, 6), 0);
        x.sing(8);
        Due.is("who stays does not stray", x.boy(0, 4), 0);
        Due.is("nor draws", x.seed(1), 1);
    }

    private static void ofOthers() {
        LostRound x = Due.told("part 00000000;boy at 24 sings 0 ear 15;boy at 30 sings 0 ear 15");
        Due.law(x, "stay if boy<1");
        Due.is("one stays", x.boy(0, 7), 24);
        Due.is("the other goes", x.boy(1, 7), 29);
        Due.law(x, "stay if away<3");
        Due.is("asked each time", x.ahead(0, 9), 25);
        LostRound y = Due.told("part 00000000;boy at 36 sings 0 ear 0;boy at 0 sings 0 ear 0;loud 0;stray 100");
        Due.law(y, "far 20 if bad > 1");
        Due.is("bad 0", y.hearing(), 0);
        y.sing(1);
        Due.is("bad 1", y.hearing(), 0);
        y.sing(1);
        Due.is("bad 2", y.hearing(), 3);
        Due.is("lost(0, 0) has bad 0", y.lost(0, 0), 0);
        Due.law(y, "far 20 if bad < 1");
        Due.is("lost(0, 0) hears by that", y.lost(0, 0), 63);
        // As long and as dense as a law can be.
        Due.is("a law of 400 bytes", Due.law(y, "stay if1<0" + "or1<0".repeat(77) + "or0<1"), 1);
        y.send(1, 26);
        Due.is("it holds by its last words", y.boy(1, 7), 26);
    }
}
