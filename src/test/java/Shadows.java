/** Looks at SHADOWS and LINES of DIALS: at all that is told of one, or whether all is refused. */
final class Shadows {
    private final Check check;

    Shadows(Check check) {
        this.check = check;
    }

    void at(GnomonYard yard, int dial, int day, int tick, int x, int y) {
        String told = "shadow(" + dial + ", " + day + ", " + tick + ", ";
        check.due(x, told + "false)", () -> yard.shadow(dial, day, tick, false));
        check.due(y, told + "true)", () -> yard.shadow(dial, day, tick, true));
    }

    void none(GnomonYard yard, int dial, int day, int tick) {
        String told = "(" + dial + ", " + day + ", " + tick;
        check.notNow("shadow" + told + ", false)", () -> yard.shadow(dial, day, tick, false));
        check.notNow("shadow" + told + ", true)", () -> yard.shadow(dial, day, tick, true));
        check.notNow("blur" + told + ")", () -> yard.blur(dial, day, tick));
        check.due(GnomonYard.NONE, "tells" + told + ")", () -> yard.tells(dial, day, tick));
    }

    /** The LINE of an hour of DIAL 0 has these ends; without ends it is not there. */
    void line(GnomonYard yard, int hour, int... ends) {
        check.due(ends.length == 0 ? 0 : 1, "line(0, " + hour + ", 0)",
                () -> yard.line(0, hour, 0));
        for (int what = 1; what <= 4; what++) {
            int asked = what;
            String told = "line(0, " + hour + ", " + what + ")";
            if (ends.length == 0) {
                check.notNow(told, () -> yard.line(0, hour, asked));
            } else {
                check.due(ends[what - 1], told, () -> yard.line(0, hour, asked));
            }
        }
    }
}
