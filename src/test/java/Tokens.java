import java.util.List;

/** A right text as a row of things, for what comes of it cut off behind each, or with another one in its place. */
final class Tokens {
    private static final List<String> NOWHERE = List.of("?", "zz", "1000", "0000", "=", "\u00ff");

    private final String[] things;
    private final boolean law;

    Tokens(boolean law, String... things) {
        this.things = things;
        this.law = law;
    }

    private String upTo(int many) {
        return String.join(" ", List.of(things).subList(0, many));
    }

    private void wrong(LostRound x, String text, int at) {
        if (law) {
            Due.wrongLaw(x, text, at);
        } else {
            Due.wrongWood(x, text, at);
        }
    }

    /** Cut off behind a thing more must come, but where the text is a whole one. */
    void cutOff(int... whole) {
        for (int many = 1; many < things.length; many++) {
            LostRound x = new LostRound();
            int length = many;
            if (java.util.Arrays.stream(whole).noneMatch(w -> w == length)) {
                wrong(x, upTo(many), upTo(many).length());
                wrong(x, upTo(many) + "   ", upTo(many).length() + 3);
            }
        }
    }

    /** What cannot stand anywhere is wrong in place of each thing, and behind the last one. */
    void spoilt() {
        for (int i = 0; i <= things.length; i++) {
            LostRound x = new LostRound();
            String ahead = upTo(i) + (i == 0 ? "" : " ");
            String behind = i + 1 < things.length ? " " + String.join(" ", List.of(things).subList(i + 1, things.length)) : "";
            for (String other : NOWHERE) {
                wrong(x, ahead + other + behind, ahead.length());
            }
        }
    }

    /** A whole text, also without blanks where no two words or numbers meet, and with many. */
    void whole(int lines) {
        StringBuilder dense = new StringBuilder();
        StringBuilder wide = new StringBuilder("  ");
        for (String thing : things) {
            int last = dense.length() == 0 ? 0 : kind(dense.charAt(dense.length() - 1));
            boolean meet = last != 0 && last == kind(thing.charAt(0));
            dense.append(meet ? " " : "").append(thing);
            wide.append(thing).append("   ");
        }
        for (String text : List.of(upTo(things.length), dense.toString(), wide.toString())) {
            LostRound x = new LostRound();
            Due.is("'" + text + "'", law ? Due.law(x, text) : Due.wood(x, text), lines);
            Due.is("fault of '" + text + "'", x.fault(), LostRound.NONE);
        }
    }

    private static int kind(char sign) {
        return sign >= 'a' && sign <= 'z' ? 1 : sign >= '0' && sign <= '9' ? 2 : 0;
    }
}
