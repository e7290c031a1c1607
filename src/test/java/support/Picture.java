/** All that calls can tell of an object, told once: the object is of no use behind it. */
final class Picture {
    private final OpenGates x;
    private final StringBuilder told = new StringBuilder();

    private Picture(OpenGates x) {
        this.x = x;
    }

    /** All but the tape, what it was read as, what was refused. */
    static String ofLand(OpenGates x) {
        Picture p = new Picture(x);
        p.counts();
        p.forts();
        p.paper();
        p.deeds();
        p.settings();
        p.images();
        return p.told.toString();
    }

    /** The tape, and what texts and rows left. */
    static String ofTape(OpenGates x) {
        StringBuilder told = new StringBuilder();
        told.append(x.count(7)).append(' ').append(x.fault()).append(' ').append(x.stopped()).append(' ');
        told.append(x.brooms()).append(' ').append(x.orders()).append(' ').append(x.fault());
        return told.toString();
    }

    private void tell(String call, long answer) {
        told.append(call).append('=').append(answer).append(' ');
    }

    private void counts() {
        for (int what = 0; what <= 20; what++) {
            if (what < 7 || what > 12) {
                tell("count" + what, x.count(what));
            }
        }
    }

    private void forts() {
        for (int fort = 0; fort < 6; fort++) {
            for (int what = 0; what < 5; what++) {
                tell("of", x.of(fort, what));
            }
            tell("drawn", x.drawn(fort, 0) + 100 * x.drawn(fort, 1) + 1000 * x.drawn(fort, 2));
            tell("fame", x.drawn(fort, 3));
            tell("asks", x.asks(fort, 9, 2));
            tell("pays", x.asks(fort, 1, 0));
            tell("bars", x.asks(fort, 1, 1));
            tell("bluff", x.bluff(fort, 9, 1));
            tell("scout", x.scout(fort, 1));
            tell("holds", x.holds(fort, 3));
            tell("retreat", x.retreat(0, fort, OpenGates.NONE));
        }
    }

    private void paper() {
        tell("career", x.career(1, 0));
        tell("siege", x.career(1, 1));
        tell("enough", x.enough(1));
        tell("fits", x.fits(OpenGates.NONE));
        tell("first", x.fits(0));
        tell("next", x.next(0));
        tell("left", x.next(1));
    }

    private void deeds() {
        for (int i = 0; i < 17; i++) {
            tell("undo", x.undo());
            tell("men", x.of(0, 0));
            tell("shown", x.of(0, 2));
            tell("day", x.count(14));
        }
    }

    private void settings() {
        for (int i = 0; i < 6; i++) {
            tell("full", x.sign(i, 0, 0));
            tell("empty", x.sign(i, 1, 0));
            tell("price", x.sign(i, 2, 0));
            tell("needs", x.needs(i, 0));
            for (int other = 0; other < i; other++) {
                tell("road", x.road(i, other, 0));
            }
        }
    }

    private void images() {
        for (int k = 0; k < 2; k++) {
            tell("back", x.back(k));
            tell("forts", x.count(0));
            tell("men", x.of(0, 0));
            tell("laws", x.count(5));
        }
    }
}
