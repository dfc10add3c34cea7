/** The state of an object as far as it tells it, as a text; the object is used up by it. */
final class Whole {
    private final LostRound x;
    private final StringBuilder text = new StringBuilder();

    private Whole(LostRound x) {
        this.x = x;
    }

    /** All but fault(), which a text that is refused changes. */
    static String of(LostRound x) {
        Whole whole = new Whole(x);
        whole.cells();
        whole.state();
        whole.log();
        whole.answers();
        whole.actsUndone();
        whole.tape();
        whole.image();
        return whole.text.toString();
    }

    private void cells() {
        text.append("cells");
        for (int cell = 0; cell < 64; cell++) {
            text.append(x.cell(cell, 0));
        }
        text.append(" ferns ").append(x.cell(24, 1)).append(x.cell(2, 1)).append(x.ferny());
        text.append('\n');
    }

    private void state() {
        text.append("counts");
        for (int what = 0; what <= 12; what++) {
            text.append(' ').append(x.count(what));
        }
        text.append(" dense ").append(x.dense()).append(" notes ");
        for (int part = 0; part < x.count(0); part++) {
            for (int beat = 0; beat < 8; beat++) {
                text.append(x.note(part, beat));
            }
        }
        for (int boy = 0; boy < x.count(1); boy++) {
            text.append(" boy");
            for (int what = 0; what <= 4; what++) {
                text.append(' ').append(x.boy(boy, what));
            }
        }
        int seed = x.seed(0);
        x.seed(seed);
        text.append(" seed ").append(seed).append('\n');
    }

    private void log() {
        text.append("log");
        for (int ago = 0; ago < x.count(11); ago++) {
            for (int what = 0; what < 5; what++) {
                text.append(' ').append(x.log(ago, what));
            }
            text.append(';');
        }
        text.append('\n');
    }

    private void answers() {
        text.append("answers ").append(x.hearing()).append(' ').append(x.all()).append(' ').append(x.should()).append(' ').append(x.code())
            .append(' ').append(x.sooner()).append(' ').append(x.loudest()).append(' ').append(x.splits()).append(' ').append(x.clearings());
        for (int boy = 0; boy < x.count(1); boy++) {
            text.append(' ').append(x.ahead(boy, 9)).append(' ').append(x.calls(boy)).append(' ').append(x.mends(boy));
        }
        text.append('\n');
    }

    private void actsUndone() {
        while (x.undo()) {
            text.append("undone: ");
            state();
        }
    }

    private void tape() {
        int length = x.feed(0, 0, 0, 0, 0) - 20;
        x.end(Math.max(length, 0));
        text.append("tape ").append(length);
        try {
            text.append(" law ").append(x.law());
        } catch (IllegalArgumentException e) {
            text.append(" wrong at ").append(x.fault());
        }
        text.append(" hearing ").append(x.hearing()).append('\n');
    }

    private void image() {
        text.append("image ").append(x.back()).append(' ');
        state();
        text.append(x.hearing());
    }
}
