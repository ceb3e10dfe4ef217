/** Promises 2 to 4: angles, days, the sun; SkyBoundariesTest has their ends. */
public final class AnglesTest {
    private static final Check CHECK = new Check("AnglesTest");
    private static final GnomonYard YARD = new GnomonYard();

    public static void main(String[] args) {
        sines();
        days();
        suns();
        CHECK.end();
    }

    private static void sine(int angle, int want) {
        CHECK.due(want, "sine(" + angle + ")", () -> YARD.sine(angle));
    }

    private static void sines() {
        sine(0, 0);
        sine(1, 17);
        sine(30, 500);
        sine(45, 705);
        sine(60, 864);
        sine(89, 999);
        sine(90, 1000);
        sine(135, 705);
        sine(179, 17);
        sine(180, 0);
        sine(181, -17);
        sine(270, -1000);
        sine(359, -17);
        sine(360, 0);
        sine(450, 1000);
        sine(-1, -17);
        sine(-90, -1000);
        sine(-180, 0);
        sine(-360, 0);
        sine(99999, -987);
        sine(100000, -984);
        sine(-100000, 984);
    }

    private static void day(int day, int slant, int late) {
        CHECK.due(slant, "day(" + day + ", 0)", () -> YARD.day(day, 0));
        CHECK.due(late, "day(" + day + ", 1)", () -> YARD.day(day, 1));
    }

    private static void days() {
        day(0, 0, -8);
        day(45, 16, 3);
        day(90, 23, -2);
        // Cut, not rounded down: 23 times -34 by 1000 is 0.
        CHECK.due(0, "day(182, 0)", () -> YARD.day(182, 0));
        CHECK.due(-1, "day(183, 0)", () -> YARD.day(183, 0));
        CHECK.due(0, "day(359, 0)", () -> YARD.day(359, 0));
        CHECK.due(-11, "day(210, 0)", () -> YARD.day(210, 0));
        CHECK.due(-23, "day(270, 0)", () -> YARD.day(270, 0));
        CHECK.due(16, "day(220, 1)", () -> YARD.day(220, 1));
        CHECK.due(-5, "day(140, 1)", () -> YARD.day(140, 1));
        CHECK.due(1, "day(34, 1)", () -> YARD.day(34, 1));
        CHECK.due(-7, "day(124, 1)", () -> YARD.day(124, 1));
        CHECK.due(16, "day(209, 1)", () -> YARD.day(209, 1));
        CHECK.due(-12, "day(300, 1)", () -> YARD.day(300, 1));
        CHECK.due(-9, "day(359, 1)", () -> YARD.day(359, 1));
    }

    private static void sun(int latitude, int day, int tick, long... wants) {
        for (int i = 0; i < wants.length; i++) {
            int what = i;
            CHECK.due(wants[i], "sun(" + latitude + ", " + day + ", " + tick + ", " + i + ")",
                    () -> YARD.sun(latitude, day, tick, what));
        }
    }

    private static void suns() {
        sun(0, 0, 180, 1000000000, 0, 0);
        sun(0, 0, 90, 0, 0, -1000000000);
        sun(0, 0, 91, 17000000, 0, -999000000);
        sun(30, 30, 100, 244327200, -80050500, -965304000);
        sun(-45, 200, 259, 220992120, -47562120, 973152000);
        sun(66, 90, 0, -17441000, -997265000, 0);
        sun(-66, 270, 359, -17066967, 996426872, 15623000);
    }
}
