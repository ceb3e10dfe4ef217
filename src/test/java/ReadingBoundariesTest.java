/** A test of its own for each sentence of promises 15 to 18 that names a boundary case. */
public final class ReadingBoundariesTest {
    private static final Check CHECK = new Check("ReadingBoundariesTest");

    public static void main(String[] args) {
        readRanges();
        readings();
        tellings();
        worsts();
        bestRanges();
        bestTilts();
        bestErrors();
        CHECK.end();
    }

    /** A plate that lies, with the least rod, where on day 90 it is dark from 343 to 17 alone. */
    private static GnomonYard northern() {
        return Yards.withDial(66, 0, 0, 1);
    }

    /** A wall that faces north: it has no SHADOW on day 270. */
    private static GnomonYard dark() {
        GnomonYard yard = Yards.withDial(66, 90, 180, 500);
        yard.place(0, 0);
        return yard;
    }

    private static void read(GnomonYard yard, int x, int y, int day, int want) {
        CHECK.due(want, "read(0, " + x + ", " + y + ", " + day + ")",
                () -> yard.read(0, x, y, day));
    }

    private static void readRanges() {
        CHECK.sentence("read, there is no such DIAL", () -> {
            GnomonYard yard = Yards.withDial(0, 0, 0, 1);
            yard.dial(0, 0, 0, 100);
            CHECK.numbers(1, 135, dial -> yard.read(dial, 100, 5, 0));
            CHECK.numbers(9, 177, dial -> Yards.full().read(dial, 0, 0, 270));
        });
        CHECK.sentence("read, x: -9999 to 9999", () -> {
            GnomonYard yard = northern();
            CHECK.range(-9999, 342, 9999, 18, x -> yard.read(0, x, -9999, 90));
        });
        CHECK.sentence("read, y: -9999 to 9999", () -> {
            GnomonYard yard = northern();
            CHECK.range(-9999, 18, 9999, 81, y -> yard.read(0, 9999, y, 90));
        });
        CHECK.sentence("read, day: 0 to 359", () -> {
            GnomonYard yard = Yards.withDial(45, 0, 0, 100);
            CHECK.range(0, 135, 359, 135, day -> yard.read(0, 141, 100, day));
        });
    }

    private static void readings() {
        CHECK.sentence("the least distance: how far the x .. and the y are apart, together", () -> {
            // By the greater of both it would be 252, as the crow flies 262.
            read(Yards.withDial(51, 40, 20, 100), -251, 85, 90, 264);
        });
        CHECK.sentence("of several the first: SHADOWS at the same point", () -> {
            GnomonYard yard = Yards.withDial(0, 0, 0, 1);
            read(yard, 0, 0, 0, 136);
            read(yard, -1, 0, 0, 181);
        });
        CHECK.sentence("of several the first: SHADOWS as far from the point", () -> {
            // The SHADOWS of noon and of the tick behind it are at 0, 0 and -2, 0.
            GnomonYard yard = Yards.withDial(0, 0, 0, 100);
            read(yard, 0, 0, 0, 180);
            read(yard, -1, 0, 0, 180);
            read(yard, -2, 0, 0, 181);
        });
        CHECK.sentence("the tick in which ..: the first and the last one with a SHADOW", () -> {
            GnomonYard yard = northern();
            read(yard, 225, -758, 90, 18);
            read(yard, -226, -758, 90, 342);
        });
        CHECK.sentence("NONE if there is none in any tick", () -> {
            GnomonYard yard = dark();
            read(yard, 0, 0, 270, -1);
            read(yard, 9999, -9999, 270, -1);
            yard.stand(0, 1, 0, 0);
            read(yard, 0, 0, 270, -1);
        });
        CHECK.sentence("at its own PLACE, as it was made", () -> {
            GnomonYard yard = northern();
            yard.place(0, 0);
            yard.stand(0, 1, 90, 180);
            read(yard, 225, -758, 90, 18);
            read(yard, -226, -758, 90, 342);
        });
    }

    private static void tells(GnomonYard yard, int day, int tick, int want) {
        CHECK.due(want, "tells(0, " + day + ", " + tick + ")", () -> yard.tells(0, day, tick));
    }

    private static void tellings() {
        CHECK.sentence("tells, there is no such DIAL", () -> {
            GnomonYard yard = Yards.withDial(0, 0, 0, 1);
            yard.dial(0, 0, 0, 100);
            CHECK.numbers(1, 150, dial -> yard.tells(dial, 0, 150));
            CHECK.numbers(9, 150, dial -> Yards.full().tells(dial, 270, 150));
        });
        CHECK.sentence("tells, day: 0 to 359", () -> {
            GnomonYard yard = Yards.withDial(45, 0, 0, 100);
            CHECK.range(0, 135, 359, 135, day -> yard.tells(0, day, 135));
        });
        CHECK.sentence("tells, tick: 0 to 359", () -> {
            GnomonYard yard = northern();
            CHECK.range(0, -1, 359, -1, tick -> yard.tells(0, 90, tick));
            tells(yard, 90, 17, -1);
            tells(yard, 90, 18, 18);
            tells(yard, 90, 342, 342);
            tells(yard, 90, 343, -1);
        });
        CHECK.sentence("the point of its SHADOW, as it stands: at another PLACE", () -> {
            GnomonYard yard = northern();
            yard.place(0, 0);
            yard.stand(0, 1, 0, 0);
            tells(yard, 90, 18, -1);
            tells(yard, 90, 91, 30);
            worst(yard, 90, 61, 91);
        });
        CHECK.sentence("NONE without a SHADOW", () -> {
            // It could be READ, but there is no SHADOW of the DIAL as it stands.
            GnomonYard yard = Yards.withDial(45, 0, 0, 100);
            yard.stand(0, 0, 90, 180);
            tells(yard, 0, 180, -1);
            read(yard, 0, 0, 0, 180);
        });
        CHECK.sentence("NONE .. if it is READ as NONE", () -> {
            GnomonYard yard = dark();
            yard.stand(0, 1, 0, 0);
            CHECK.due(0, "there is a SHADOW", () -> yard.shadow(0, 270, 180, false));
            tells(yard, 270, 180, -1);
        });
    }

    private static void worst(GnomonYard yard, int day, int error, int tick) {
        CHECK.due(error, "worst(0, " + day + ", 0)", () -> yard.worst(0, day, 0));
        CHECK.due(tick, "worst(0, " + day + ", 1)", () -> yard.worst(0, day, 1));
    }

    private static void worsts() {
        CHECK.sentence("worst, there is no such DIAL", () -> {
            GnomonYard yard = Yards.withDial(45, 0, 0, 100);
            yard.dial(0, 0, 0, 1);
            CHECK.numbers(1, 35, dial -> yard.worst(dial, 0, 0));
            CHECK.numbers(9, 76, dial -> Yards.full().worst(dial, 270, 1));
        });
        CHECK.sentence("worst, day: 0 to 359", () -> {
            GnomonYard yard = Yards.withDial(0, 0, 0, 1);
            CHECK.range(0, 44, 359, 44, day -> yard.worst(0, day, 0));
            CHECK.range(0, 180, 359, 180, day -> yard.worst(0, day, 1));
        });
        CHECK.sentence("worst, what: 0 or 1", () -> {
            GnomonYard yard = Yards.withDial(0, 0, 0, 1);
            CHECK.range(0, 44, 1, 180, what -> yard.worst(0, 0, what));
        });
        CHECK.sentence("ERROR .. is how far that is from the tick, by their numbers", () -> {
            // Across midnight 342 would be but 36 from 18.
            GnomonYard yard = Yards.withDial(66, 44, 173, 100);
            yard.stand(0, 0, 72, -169);
            tells(yard, 90, 18, 342);
            worst(yard, 90, 324, 18);
        });
        CHECK.sentence("the greatest ERROR in any tick: 0 is one, too", () -> {
            worst(Yards.withDial(51, 40, 20, 100), 90, 0, 99);
        });
        CHECK.sentence("none, if it TELLS nothing: NONE if there is no ERROR in any tick", () -> {
            GnomonYard yard = dark();
            worst(yard, 270, -1, -1);
            yard.stand(0, 1, 0, 0);
            worst(yard, 270, -1, -1);
        });
        CHECK.sentence("1 the first tick in which it is so", () -> {
            // In the tick 225 the ERROR is 44 again.
            GnomonYard yard = Yards.withDial(0, 0, 0, 1);
            tells(yard, 0, 180, 136);
            tells(yard, 0, 225, 181);
            worst(yard, 0, 44, 180);
        });
    }

    private static void bestRanges() {
        CHECK.sentence("best, there is no such DIAL", () -> {
            GnomonYard yard = Yards.withDial(0, 90, 0, 100);
            yard.dial(0, 0, 0, 100);
            CHECK.numbers(1, 0, dial -> yard.best(dial, 0, 0));
            CHECK.numbers(9, 27, dial -> Yards.full().best(dial, 1, 180));
        });
        CHECK.sentence("best, there is no such PLACE", () -> {
            GnomonYard yard = Yards.withDial(60, 59, 146, 50);
            yard.place(-60, 0);
            CHECK.numbers(1, 3, place -> yard.best(0, place, 0));
            CHECK.numbers(7, 40, place -> Yards.full().best(9, place, 20));
        });
        CHECK.sentence("best, facing: -180 to 180", () -> {
            GnomonYard yard = Yards.withDial(66, 49, -180, 100);
            yard.place(60, 0);
            CHECK.range(-180, 52, 180, 52, facing -> yard.best(0, 1, facing));
        });
    }

    /** A DIAL that is made at a latitude has this BEST TILT at another one, with a facing. */
    private static void best(int want, int latitude, int facing, int... made) {
        GnomonYard yard = Yards.withDial(made[0], made[1], made[2], made[3]);
        yard.place(latitude, 0);
        CHECK.due(want, "the best tilt at " + latitude, () -> yard.best(0, 1, facing));
    }

    private static void bestTilts() {
        CHECK.sentence("BEST TILT, one of 0 to 90: 0", () -> best(0, -60, -174, 55, 59, 146, 50));
        CHECK.sentence("BEST TILT, one of 0 to 90: 90", () -> best(90, -50, -135, 45, 66, -180, 500));
        CHECK.sentence("of several the lowest", () -> {
            // With 17 and with 1 the ERRORS are as many.
            best(14, 45, -45, -51, 23, -180, 50);
            best(0, 20, -65, -51, 12, 180, 2);
        });
        CHECK.sentence("if it was set so: it is not", () -> {
            GnomonYard yard = Yards.withDial(45, 0, 0, 100);
            yard.place(0, 0);
            yard.best(0, 1, 90);
            CHECK.due(100, "its shadow", () -> yard.shadow(0, 0, 180, true));
            CHECK.due(0, "where it stands", () -> yard.stand(0, 0, 0, 0));
        });
        CHECK.sentence("BEST TILT of a DIAL as it was made, wherever it stands", () -> {
            GnomonYard yard = Yards.withDial(66, 49, -180, 100);
            yard.place(60, 0);
            yard.stand(0, 1, 0, 90);
            CHECK.due(52, "the best tilt at 60", () -> yard.best(0, 1, 180));
        });
    }

    /** Each of these would have another BEST TILT, if the part that is told were left out. */
    private static void bestErrors() {
        CHECK.sentence("the ticks 0, 15, 30 ..: 30", () -> best(1, 66, 14, 30, 28, 28, 1));
        CHECK.sentence(".. and so on to 345: 330", () -> best(5, 66, 3, 30, 66, 161, 2));
        CHECK.sentence("of the days 0, ..", () -> best(2, -10, 45, 10, 40, 180, 2));
        CHECK.sentence("of the days .. 90 ..", () -> best(9, -2, -45, 20, 4, 180, 2));
        CHECK.sentence("of the days .. and 270", () -> best(32, -5, -180, 28, 54, 57, 50));
        CHECK.sentence("the ERRORS .. by their numbers", () -> {
            best(2, -51, 45, -30, 90, -133, 500);
        });
        CHECK.sentence("and 180 for each in which it TELLS nothing: not less, not more", () -> {
            best(36, -66, 159, 40, 90, 14, 10);
            best(65, 51, 45, 51, 24, -146, 2);
        });
        CHECK.sentence("in which it TELLS nothing: nor if it is READ as NONE", () -> {
            best(52, 60, 180, 66, 49, -180, 100);
        });
        CHECK.sentence("though the sun SHINES there: where it is set", () -> {
            best(8, 37, -90, -48, 81, -70, 100);
            best(4, -12, -90, -33, 48, 82, 100);
        });
    }
}
