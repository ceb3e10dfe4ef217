/** A test of its own for each sentence of promises 2 to 4 that names a boundary case. */
public final class SkyBoundariesTest {
    private static final Check CHECK = new Check("SkyBoundariesTest");

    public static void main(String[] args) {
        angles();
        days();
        suns();
        CHECK.end();
    }

    // Angles.

    private static void sine(GnomonYard yard, int angle, int want) {
        CHECK.due(want, "sine(" + angle + ")", () -> yard.sine(angle));
    }

    private static void angles() {
        CHECK.sentence("angle: -100000 to 100000", () -> {
            GnomonYard yard = new GnomonYard();
            CHECK.range(-100000, 984, 100000, -984, yard::sine);
        });
        CHECK.sentence("The ARC of an angle from 0 to 180", () -> {
            GnomonYard yard = new GnomonYard();
            sine(yard, 0, 0);
            sine(yard, 1, 17);
            sine(yard, 89, 999);
            sine(yard, 90, 1000);
            sine(yard, 91, 999);
            sine(yard, 179, 17);
            sine(yard, 180, 0);
        });
        CHECK.sentence("the remainder of it by 360, which is not below 0", () -> {
            GnomonYard yard = new GnomonYard();
            sine(yard, 360, 0);
            sine(yard, 361, 17);
            sine(yard, 450, 1000);
            sine(yard, 720, 0);
            sine(yard, -1, -17);
            sine(yard, -90, -1000);
            sine(yard, -270, 1000);
            sine(yard, -359, 17);
            sine(yard, -360, 0);
            sine(yard, -361, -17);
        });
        CHECK.sentence("the ARC of that, if it is at most 180", () -> {
            GnomonYard yard = new GnomonYard();
            sine(yard, 180, 0);
            sine(yard, -180, 0);
            sine(yard, 540, 0);
            sine(yard, -181, 17);
        });
        CHECK.sentence("otherwise 0 less the ARC of that less 180", SkyBoundariesTest::backOfTheCircle);
        CHECK.sentence("The COSINE of an angle is the SINE of 90 less it", () -> {
            // At the equator on day 0 UP is a million times the COSINE of the TURN, -180 to 179.
            GnomonYard yard = new GnomonYard();
            CHECK.due(-1000000000, "of -180", () -> yard.sun(0, 0, 0, 0));
            CHECK.due(-17000000, "of -91", () -> yard.sun(0, 0, 89, 0));
            CHECK.due(0, "of -90", () -> yard.sun(0, 0, 90, 0));
            CHECK.due(1000000000, "of 0", () -> yard.sun(0, 0, 180, 0));
            CHECK.due(0, "of 90", () -> yard.sun(0, 0, 270, 0));
            CHECK.due(-17000000, "of 91", () -> yard.sun(0, 0, 271, 0));
            CHECK.due(-999000000, "of 179", () -> yard.sun(0, 0, 359, 0));
        });
    }

    /** The ARC is rounded before it is taken from 0: -17, where rounding at last would be -18. */
    private static void backOfTheCircle() {
        GnomonYard yard = new GnomonYard();
        sine(yard, 181, -17);
        sine(yard, 182, -35);
        sine(yard, 269, -999);
        sine(yard, 270, -1000);
        sine(yard, 271, -999);
        sine(yard, 359, -17);
    }

    // Days.

    private static void day(GnomonYard yard, int day, int what, int want) {
        CHECK.due(want, "day(" + day + ", " + what + ")", () -> yard.day(day, what));
    }

    private static void days() {
        CHECK.sentence("day, day: 0 to 359", () -> {
            GnomonYard yard = new GnomonYard();
            CHECK.range(0, 0, 359, 0, day -> yard.day(day, 0));
            CHECK.range(0, -8, 359, -9, day -> yard.day(day, 1));
        });
        CHECK.sentence("day, what: 0 or 1", () -> {
            GnomonYard yard = new GnomonYard();
            CHECK.range(0, 23, 1, -2, what -> yard.day(90, what));
        });
        CHECK.sentence("a quotient that is cut (-1 by 2 is 0): the SLANT", () -> {
            GnomonYard yard = new GnomonYard();
            day(yard, 1, 0, 0);
            day(yard, 2, 0, 0);
            day(yard, 3, 0, 1);
            day(yard, 177, 0, 1);
            day(yard, 179, 0, 0);
            day(yard, 180, 0, 0);
            day(yard, 181, 0, 0);
            day(yard, 182, 0, 0);
            day(yard, 183, 0, -1);
            day(yard, 269, 0, -22);
            day(yard, 270, 0, -23);
            day(yard, 271, 0, -22);
            day(yard, 359, 0, 0);
        });
        CHECK.sentence("A quotient is rounded DOWN, also below 0 (-1 by 2 is -1): LATE", () -> {
            // By 1000 these are -342, -80, 180, 86, -126, 160 and -66.
            GnomonYard yard = new GnomonYard();
            day(yard, 24, 1, -1);
            day(yard, 25, 1, -1);
            day(yard, 26, 1, 0);
            day(yard, 83, 1, 0);
            day(yard, 84, 1, -1);
            day(yard, 159, 1, 0);
            day(yard, 273, 1, -1);
        });
        CHECK.sentence("LATE: twice the day, the sum of the day and 80, beyond 360", () -> {
            GnomonYard yard = new GnomonYard();
            day(yard, 180, 1, 7);
            day(yard, 181, 1, 8);
            day(yard, 279, 1, -3);
            day(yard, 280, 1, -4);
            day(yard, 281, 1, -4);
        });
    }

    // The sun.

    private static void suns() {
        CHECK.sentence("sun, latitude: -66 to 66", () -> {
            GnomonYard yard = new GnomonYard();
            CHECK.range(-66, -406593000, 66, -406593000, p -> yard.sun(p, 0, 359, 0));
            CHECK.range(-66, 911088000, 66, -911088000, p -> yard.sun(p, 0, 359, 1));
            CHECK.range(-66, 17000000, 66, 17000000, p -> yard.sun(p, 0, 359, 2));
        });
        CHECK.sentence("sun, day: 0 to 359", () -> {
            GnomonYard yard = new GnomonYard();
            CHECK.range(0, 407000000, 359, 407000000, day -> yard.sun(66, day, 180, 0));
            CHECK.range(0, 912000000, 359, 912000000, day -> yard.sun(66, day, 180, 1));
            CHECK.range(0, 17000000, 359, 17000000, day -> yard.sun(66, day, 359, 2));
        });
        CHECK.sentence("sun, tick: 0 to 359", () -> {
            GnomonYard yard = new GnomonYard();
            CHECK.range(0, -17441000, 359, -17066967, tick -> yard.sun(66, 90, tick, 0));
            CHECK.range(0, -997265000, 359, -996426872, tick -> yard.sun(66, 90, tick, 1));
            CHECK.range(0, 0, 359, 15623000, tick -> yard.sun(66, 90, tick, 2));
        });
        CHECK.sentence("sun, what: 0 to 2", () -> {
            GnomonYard yard = new GnomonYard();
            CHECK.range(0, -17066967, 2, 15623000, what -> yard.sun(66, 90, 359, what));
            CHECK.due(-996426872, "what 1", () -> yard.sun(66, 90, 359, 1));
        });
        CHECK.sentence("the tick 180 is noon", () -> {
            GnomonYard yard = new GnomonYard();
            CHECK.due(-17000000, "WEST ahead of noon", () -> yard.sun(0, 0, 179, 2));
            CHECK.due(0, "WEST at noon", () -> yard.sun(0, 0, 180, 2));
            CHECK.due(17000000, "WEST behind noon", () -> yard.sun(0, 0, 181, 2));
        });
    }
}
