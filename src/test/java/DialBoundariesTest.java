/** A test of its own for each sentence of promises 10 to 14 that names a boundary case. */
public final class DialBoundariesTest {
    private static final Check CHECK = new Check("DialBoundariesTest");
    private static final Shadows SHADOWS = new Shadows(CHECK);

    public static void main(String[] args) {
        dials();
        stands();
        shadows();
        shadowsThere();
        shadowsFar();
        blurs();
        lines();
        linesThere();
        CHECK.end();
    }

    private static void dials() {
        CHECK.sentence("dial, there is no such PLACE", () -> {
            GnomonYard yard = Yards.at(0, 51);
            CHECK.numbers(1, 0, place -> yard.dial(place, 0, 0, 1));
            GnomonYard eight = Yards.at(0, 0, 0, 0, 0, 0, 0, 51);
            CHECK.numbers(7, 0, place -> eight.dial(place, 0, 0, 1));
        });
        CHECK.sentence("dial, tilt: 0 to 90", () -> {
            GnomonYard yard = Yards.at(45);
            CHECK.range(0, 0, 90, 1, tilt -> yard.dial(0, tilt, 0, 100));
            SHADOWS.at(yard, 0, 0, 180, 0, 100);
            SHADOWS.at(yard, 1, 0, 180, 0, -100);
        });
        CHECK.sentence("dial, facing: -180 to 180", () -> {
            GnomonYard yard = Yards.at(45);
            CHECK.range(-180, 0, 180, 1, facing -> yard.dial(0, 0, facing, 100));
            SHADOWS.at(yard, 0, 0, 180, 0, -100);
            SHADOWS.at(yard, 1, 0, 180, 0, -100);
        });
        CHECK.sentence("dial, rod: 1 to 500", () -> {
            GnomonYard yard = Yards.at(45);
            CHECK.range(1, 0, 500, 1, rod -> yard.dial(0, 0, 0, rod));
            SHADOWS.at(yard, 0, 0, 180, 0, 1);
            SHADOWS.at(yard, 1, 0, 180, 0, 500);
        });
        CHECK.sentence("DIALS are numbered from 0, at most 10", () -> {
            GnomonYard yard = Yards.at(45);
            for (int i = 0; i < 10; i++) {
                // The same one again is another DIAL.
                CHECK.due(i, "DIAL " + i, () -> yard.dial(0, 0, 0, 100));
            }
            SHADOWS.at(yard, 9, 0, 180, 0, 100);
        });
        CHECK.sentence("dial, IllegalStateException if there are 10", () -> {
            GnomonYard yard = Yards.full();
            CHECK.notNow("an eleventh DIAL", () -> yard.dial(0, 0, 0, 1));
            CHECK.notNow("an eleventh DIAL again", () -> yard.dial(7, 90, 180, 500));
            CHECK.notThere("the eleventh DIAL", () -> yard.lies(10));
        });
    }

    private static void stands() {
        CHECK.sentence("stand, there is no such DIAL", () -> {
            GnomonYard yard = Yards.withDial(51, 0, 0, 1);
            yard.place(0, 0);
            yard.dial(1, 0, 0, 1);
            CHECK.numbers(1, 1, dial -> yard.stand(dial, 0, 0, 0));
            CHECK.numbers(9, 1, dial -> Yards.full().stand(dial, 0, 0, 0));
        });
        CHECK.sentence("stand, there is no such PLACE", () -> {
            GnomonYard yard = Yards.withDial(51, 0, 0, 1);
            yard.place(0, 0);
            CHECK.numbers(1, 0, place -> yard.stand(0, place, 0, 0));
            CHECK.numbers(7, 1, place -> Yards.full().stand(9, place, 0, 0));
        });
        CHECK.sentence("stand, tilt: 0 to 90", () -> {
            GnomonYard yard = Yards.withDial(45, 30, 0, 100);
            CHECK.range(0, 0, 90, 0, tilt -> yard.stand(0, 0, tilt, 0));
            SHADOWS.at(yard, 0, 0, 180, 0, -100);
            yard.stand(0, 0, 0, 0);
            SHADOWS.at(yard, 0, 0, 180, 0, 100);
        });
        CHECK.sentence("stand, facing: -180 to 180", () -> {
            GnomonYard yard = Yards.withDial(45, 0, 0, 100);
            CHECK.range(-180, 0, 180, 0, facing -> yard.stand(0, 0, 0, facing));
            SHADOWS.at(yard, 0, 0, 180, 0, -100);
            yard.stand(0, 0, 0, -180);
            SHADOWS.at(yard, 0, 0, 180, 0, -100);
        });
        CHECK.sentence("It stands there at first, as it was made", () -> {
            GnomonYard yard = Yards.at(0, 45);
            yard.dial(1, 90, 0, 100);
            SHADOWS.at(yard, 0, 0, 180, 0, -100);
            CHECK.due(1, "the PLACE where it stood at first", () -> yard.stand(0, 0, 0, 0));
        });
        CHECK.sentence("Returns the PLACE where it stood: once it is set, that one", () -> {
            GnomonYard yard = Yards.at(0, 45);
            yard.dial(1, 90, 0, 100);
            yard.dial(1, 90, 0, 100);
            CHECK.due(1, "set elsewhere", () -> yard.stand(0, 0, 0, 0));
            CHECK.due(0, "set where it stands", () -> yard.stand(0, 0, 10, 0));
            CHECK.due(0, "set back", () -> yard.stand(0, 1, 90, 0));
            CHECK.due(1, "set once more", () -> yard.stand(0, 1, 90, 0));
            CHECK.due(1, "the other DIAL, never set", () -> yard.stand(1, 0, 0, 0));
        });
    }

    private static void shadows() {
        CHECK.sentence("shadow, there is no such DIAL", () -> {
            GnomonYard yard = Yards.withDial(0, 0, 0, 1);
            yard.dial(0, 0, 180, 1);
            CHECK.numbers(1, 0, dial -> yard.shadow(dial, 0, 180, false));
            CHECK.numbers(1, 0, dial -> yard.shadow(dial, 0, 180, true));
            CHECK.numbers(9, -106, dial -> Yards.full().shadow(dial, 270, 180, true));
        });
        CHECK.sentence("shadow, day: 0 to 359", () -> {
            GnomonYard yard = Yards.withDial(45, 0, 0, 100);
            CHECK.range(0, 141, 359, 141, day -> yard.shadow(0, day, 135, false));
            CHECK.range(0, 100, 359, 100, day -> yard.shadow(0, day, 135, true));
        });
        CHECK.sentence("shadow, tick: 0 to 359", () -> {
            GnomonYard yard = Yards.withDial(45, 0, 0, 100);
            for (int beyond : new int[] {-1, 360, Integer.MIN_VALUE, Integer.MAX_VALUE}) {
                CHECK.outOfRange("x in tick " + beyond, () -> yard.shadow(0, 0, beyond, false));
                CHECK.outOfRange("y in tick " + beyond, () -> yard.shadow(0, 0, beyond, true));
            }
            // The first and the last tick are dark, but in their range.
            SHADOWS.none(yard, 0, 0, 0);
            SHADOWS.none(yard, 0, 0, 359);
        });
        CHECK.sentence("0 less r times A, by N (the sign goes ahead of the rounding)", () -> {
            GnomonYard yard = Yards.withDial(0, 0, 0, 1);
            SHADOWS.at(yard, 0, 0, 179, 0, 0);
            SHADOWS.at(yard, 0, 0, 180, 0, 0);
            SHADOWS.at(yard, 0, 0, 181, -1, 0);
            SHADOWS.at(yard, 0, 90, 180, 0, -1);
            SHADOWS.at(yard, 0, 270, 180, 0, 0);
        });
        CHECK.sentence("A quotient is rounded DOWN: no further, if it is whole", () -> {
            GnomonYard yard = Yards.withDial(45, 0, 0, 100);
            SHADOWS.at(yard, 0, 0, 180, 0, 100);
            yard.stand(0, 0, 0, 180);
            SHADOWS.at(yard, 0, 0, 180, 0, -100);
        });
    }

    private static void shadowsThere() {
        CHECK.sentence("There is a SHADOW, if the sun SHINES and ..: not at night", () -> {
            // Walls to the north and to the east have N above 0 there: UP is below 0, and just 0.
            SHADOWS.none(Yards.withDial(51, 90, 180, 100), 0, 90, 0);
            SHADOWS.none(Yards.withDial(0, 90, -90, 1), 0, 0, 90);
            SHADOWS.at(Yards.withDial(0, 90, -90, 1), 0, 0, 91, 0, -1);
        });
        CHECK.sentence(".. and N is above 0: not with N 0", () -> {
            // A wall to the south at the equator has the sun just along it on day 0.
            GnomonYard yard = Yards.withDial(0, 90, 0, 1);
            SHADOWS.none(yard, 0, 0, 100);
            SHADOWS.none(yard, 0, 0, 180);
            SHADOWS.none(yard, 0, 0, 260);
        });
        CHECK.sentence(".. and N is above 0: not with N below 0", () -> {
            SHADOWS.none(Yards.withDial(45, 90, 180, 1), 0, 0, 180);
            SHADOWS.none(Yards.withDial(0, 90, 90, 1), 0, 0, 179);
            SHADOWS.at(Yards.withDial(0, 90, 90, 1), 0, 0, 181, 0, -59);
        });
        CHECK.sentence("shadow, IllegalStateException if there is none: as it stands", () -> {
            GnomonYard yard = Yards.withDial(45, 0, 0, 100);
            yard.stand(0, 0, 90, 180);
            SHADOWS.none(yard, 0, 0, 180);
            yard.stand(0, 0, 0, 180);
            SHADOWS.at(yard, 0, 0, 180, 0, -100);
        });
    }

    /** A plate that lies has this shadow, or none. */
    private static void lying(int latitude, int rod, int day, int tick, int... xy) {
        GnomonYard yard = Yards.withDial(latitude, 0, 0, rod);
        if (xy.length == 0) {
            SHADOWS.none(yard, 0, day, tick);
        } else {
            SHADOWS.at(yard, 0, day, tick, xy[0], xy[1]);
        }
    }

    private static void shadowsFar() {
        CHECK.sentence("none, if one of both is below -9999: x", () -> {
            lying(30, 147, 0, 269, -9999, 85);
            lying(1, 170, 0, 269);
        });
        CHECK.sentence("none, if one of both is above 9999: x", () -> {
            lying(25, 154, 0, 91, 9999, 71);
            lying(1, 170, 0, 91);
        });
        CHECK.sentence("none, if one of both is below -9999: y", () -> {
            lying(-65, 118, 90, 160, 3330, -9999);
            lying(-64, 390, 90, 165);
        });
        CHECK.sentence("none, if one of both is above 9999: y", () -> {
            lying(64, 390, 270, 165, 2471, 9999);
            lying(65, 339, 270, 176);
        });
    }

    private static void blurs() {
        CHECK.sentence("blur, there is no such DIAL", () -> {
            GnomonYard yard = Yards.withDial(0, 0, 0, 1);
            yard.dial(0, 0, 180, 500);
            CHECK.numbers(1, 500f / 107f, dial -> yard.blur(dial, 0, 180));
            CHECK.numbers(9, 213f / 107f, dial -> Yards.full().blur(dial, 270, 180));
        });
        CHECK.sentence("blur, day: 0 to 359", () -> {
            GnomonYard yard = Yards.withDial(45, 0, 0, 100);
            CHECK.range(0, 341f / 107f, 359, 341f / 107f, day -> yard.blur(0, day, 135));
        });
        CHECK.sentence("blur, tick: 0 to 359", () -> {
            GnomonYard yard = Yards.withDial(45, 0, 0, 100);
            for (int beyond : new int[] {-1, 360, Integer.MIN_VALUE, Integer.MAX_VALUE}) {
                CHECK.outOfRange("blur in tick " + beyond, () -> yard.blur(0, 0, beyond));
            }
            CHECK.notNow("blur in tick 0", () -> yard.blur(0, 0, 0));
            CHECK.notNow("blur in tick 359", () -> yard.blur(0, 0, 359));
        });
        CHECK.sentence("how far its x is from 0, and how far its y is, and the rod", () -> {
            GnomonYard yard = Yards.withDial(0, 0, 0, 1);
            CHECK.due(1f / 107f, "of 0, 0", () -> yard.blur(0, 0, 180));
            CHECK.due(2f / 107f, "of -1, 0", () -> yard.blur(0, 0, 181));
            CHECK.due(2f / 107f, "of 0, -1", () -> yard.blur(0, 90, 180));
            CHECK.due(3f / 107f, "of -1, -1", () -> yard.blur(0, 90, 181));
            GnomonYard far = Yards.withDial(30, 0, 0, 147);
            CHECK.due(10231f / 107f, "of -9999, 85", () -> far.blur(0, 0, 269));
        });
        CHECK.sentence("blur, IllegalStateException if there is none: as it stands", () -> {
            GnomonYard yard = Yards.withDial(45, 0, 0, 100);
            yard.stand(0, 0, 90, 180);
            CHECK.notNow("blur on the back of a wall", () -> yard.blur(0, 0, 180));
            yard.stand(0, 0, 0, 180);
            CHECK.due(200f / 107f, "blur of a plate that lies", () -> yard.blur(0, 0, 180));
        });
    }

    private static void lines() {
        CHECK.sentence("line, there is no such DIAL", () -> {
            GnomonYard yard = Yards.at(0, 51);
            yard.dial(0, 0, 0, 1);
            yard.dial(1, 40, 20, 100);
            CHECK.numbers(1, 1, dial -> yard.line(dial, 12, 0));
            CHECK.numbers(1, 65, dial -> yard.line(dial, 12, 4));
            CHECK.numbers(9, -87, dial -> Yards.full().line(dial, 13, 4));
        });
        CHECK.sentence("line, hour: 1 to 23", () -> {
            GnomonYard yard = Yards.withDial(51, 40, 20, 100);
            CHECK.range(1, 0, 23, 0, hour -> yard.line(0, hour, 0));
            for (int what = 1; what <= 4; what++) {
                int asked = what;
                CHECK.outOfRange("hour 0, " + what, () -> yard.line(0, 0, asked));
                CHECK.outOfRange("hour 24, " + what, () -> yard.line(0, 24, asked));
            }
        });
        CHECK.sentence("line, what: 0 to 4", () -> {
            GnomonYard yard = Yards.withDial(51, 40, 20, 100);
            CHECK.range(0, 1, 4, 65, what -> yard.line(0, 12, what));
            CHECK.due(16, "the x of its beginning", () -> yard.line(0, 12, 1));
            CHECK.due(-25, "the y of its beginning", () -> yard.line(0, 12, 2));
            CHECK.due(41, "the x of its end", () -> yard.line(0, 12, 3));
        });
        CHECK.sentence("line .. as it was made", () -> {
            GnomonYard yard = Yards.withDial(51, 40, 20, 100);
            yard.place(0, 0);
            yard.stand(0, 1, 90, 180);
            SHADOWS.line(yard, 12, 16, -25, 41, 65);
        });
        CHECK.sentence("line .. not as it was cut", () -> {
            GnomonYard yard = Yards.withDial(51, 40, 20, 100);
            yard.cut(0, 12, 50);
            yard.cut(0, 9, -50);
            SHADOWS.line(yard, 12, 16, -25, 41, 65);
            SHADOWS.line(yard, 9, 125, -80, 223, 77);
        });
    }

    private static void linesThere() {
        CHECK.sentence("It is there, if both SHADOWS are: not without the first", () -> {
            GnomonYard yard = Yards.withDial(0, 45, 0, 1);
            SHADOWS.at(yard, 0, 270, 105, 1, 0);
            SHADOWS.none(yard, 0, 90, 105);
            SHADOWS.line(yard, 7);
        });
        CHECK.sentence("It is there, if both SHADOWS are: not without the second", () -> {
            GnomonYard yard = Yards.withDial(0, 45, 180, 1);
            SHADOWS.at(yard, 0, 90, 105, -2, 0);
            SHADOWS.none(yard, 0, 270, 105);
            SHADOWS.line(yard, 7);
        });
        CHECK.sentence("It is there, if both SHADOWS are: not without both", () -> {
            GnomonYard yard = Yards.withDial(0, 45, 0, 1);
            SHADOWS.line(yard, 1);
            SHADOWS.line(yard, 23);
        });
        CHECK.sentence("It is there, if both SHADOWS are: the first and the last hours", () -> {
            GnomonYard yard = Yards.withDial(-31, 0, -180, 1);
            SHADOWS.line(yard, 6);
            SHADOWS.line(yard, 7, -268, 137, -3, -1);
            SHADOWS.line(yard, 17, 267, 137, 2, -1);
            SHADOWS.line(yard, 18);
        });
        CHECK.sentence("It is there, if both SHADOWS are: even in the same point", () -> {
            GnomonYard yard = Yards.withDial(45, 90, 90, 1);
            SHADOWS.line(yard, 16, 0, -1, 0, -1);
        });
        CHECK.sentence("line, IllegalStateException if it is not there, and what is above 0", () -> {
            GnomonYard yard = Yards.withDial(51, 40, 20, 100);
            CHECK.due(0, "what 0", () -> yard.line(0, 8, 0));
            CHECK.notNow("what 1", () -> yard.line(0, 8, 1));
            CHECK.notNow("what 4", () -> yard.line(0, 8, 4));
        });
    }
}
