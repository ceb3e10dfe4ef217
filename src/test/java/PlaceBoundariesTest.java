/** A test of its own for each sentence of promises 1 and 5 to 9 that names a boundary case. */
public final class PlaceBoundariesTest {
    private static final Check CHECK = new Check("PlaceBoundariesTest");

    public static void main(String[] args) {
        newObject();
        places();
        light();
        hours();
        clocks();
        summers();
        CHECK.end();
    }

    private static void newObject() {
        CHECK.sentence("NONE = -1", () -> CHECK.due(-1, "NONE", () -> GnomonYard.NONE));
        CHECK.sentence("Begins without PLACES", () -> {
            GnomonYard yard = new GnomonYard();
            CHECK.notThere("light(0, ..)", () -> yard.light(0, 0, 0));
            CHECK.notThere("lightAnew(0, ..)", () -> yard.lightAnew(0, 0));
            CHECK.notThere("hour(0, ..)", () -> yard.hour(0, 0, 0, 3));
            CHECK.notThere("dial(0, ..)", () -> yard.dial(0, 0, 0, 1));
            CHECK.due(0, "the first PLACE", () -> yard.place(0, 0));
        });
        CHECK.sentence("Begins without DIALS", () -> {
            GnomonYard yard = Yards.at(0);
            CHECK.notThere("stand(0, ..)", () -> yard.stand(0, 0, 0, 0));
            CHECK.notThere("shadow(0, ..)", () -> yard.shadow(0, 0, 180, true));
            CHECK.notThere("best(0, ..)", () -> yard.best(0, 0, 0));
            CHECK.notThere("lies(0)", () -> yard.lies(0));
            CHECK.due(0, "cost()", yard::cost);
            CHECK.due(0, "the first DIAL", () -> yard.dial(0, 0, 0, 1));
        });
        CHECK.sentence("Begins without FINDS", () -> {
            GnomonYard yard = new GnomonYard();
            CHECK.due(133, "fits", () -> yard.fits(0, 0, 1, 0));
            CHECK.due(0, "forget()", yard::forget);
            CHECK.due(1, "the first FIND", () -> yard.find(0, 0, 0, 0));
        });
        CHECK.sentence("without SUMMER; at first there is none", () -> {
            GnomonYard yard = Yards.at(0);
            GnomonYard days = new GnomonYard();
            for (int day = 0; day < 360; day++) {
                int d = day;
                CHECK.due(720 + days.day(d, 1), "at noon of day " + d, () -> yard.hour(0, d, 180, 3));
            }
        });
        CHECK.sentence("A new object begins so beside another one, too", () -> {
            GnomonYard other = Yards.full();
            other.summer(0, 359);
            other.cut(0, 12, 50);
            GnomonYard yard = new GnomonYard();
            CHECK.notThere("hour(0, ..)", () -> yard.hour(0, 0, 180, 3));
            CHECK.notThere("lies(0)", () -> yard.lies(0));
            CHECK.due(0, "cost()", yard::cost);
            CHECK.due(0, "forget()", yard::forget);
            CHECK.due(0, "the first PLACE", () -> yard.place(0, 0));
            CHECK.due(712, "its clock", () -> yard.hour(0, 0, 180, 3));
            CHECK.due(6, "the FINDS of the other one", other::forget);
        });
        CHECK.sentence("An object is used for at most 512 calls", PlaceBoundariesTest::lastCall);
    }

    private static void lastCall() {
        GnomonYard yard = Yards.full();
        // 24 calls have made it full.
        for (int i = 24; i < 507; i++) {
            yard.worst(9, 90, 0);
        }
        CHECK.due(9, "the 508th call", () -> yard.fits(10, -45, 3, 0));
        CHECK.due(6, "the 509th call", yard::forget);
        CHECK.due(395, "the 510th call", () -> yard.cut(0, 12, -50));
        CHECK.due(50, "the 511th call", () -> yard.lies(0));
        CHECK.due(150, "the 512th call", () -> yard.tells(0, 90, 150));
    }

    private static void places() {
        CHECK.sentence("place, latitude: -66 to 66", () -> {
            GnomonYard yard = new GnomonYard();
            CHECK.range(-66, 0, 66, 1, latitude -> yard.place(latitude, 0));
        });
        CHECK.sentence("place, meridian: -720 to 720", () -> {
            GnomonYard yard = new GnomonYard();
            CHECK.range(-720, 0, 720, 1, meridian -> yard.place(0, meridian));
        });
        CHECK.sentence("PLACES are numbered from 0, at most 8", () -> {
            GnomonYard yard = new GnomonYard();
            for (int i = 0; i < 8; i++) {
                // The same one again is another PLACE.
                CHECK.due(i, "PLACE " + i, () -> yard.place(51, 0));
            }
        });
        CHECK.sentence("place, IllegalStateException if there are 8", () -> {
            GnomonYard yard = Yards.full();
            CHECK.notNow("a ninth PLACE", () -> yard.place(0, 0));
            CHECK.notNow("a ninth PLACE again", () -> yard.place(-66, 720));
            CHECK.notThere("the ninth PLACE", () -> yard.light(8, 0, 0));
            CHECK.due(91, "the RISE at the last PLACE", () -> yard.light(7, 0, 0));
        });
    }

    // Light.

    private static void light() {
        CHECK.sentence("light, there is no such PLACE", () -> {
            GnomonYard yard = Yards.at(0, 66);
            CHECK.numbers(1, 18, place -> yard.light(place, 90, 0));
            CHECK.numbers(1, 343, place -> yard.light(place, 90, 1));
            CHECK.numbers(1, 325, place -> yard.light(place, 90, 2));
            CHECK.numbers(7, 91, place -> Yards.full().light(place, 0, 0));
        });
        CHECK.sentence("light, day: 0 to 359", () -> {
            GnomonYard yard = Yards.at(51);
            CHECK.range(0, 91, 359, 91, day -> yard.light(0, day, 0));
            CHECK.range(0, 270, 359, 270, day -> yard.light(0, day, 1));
            CHECK.range(0, 179, 359, 179, day -> yard.light(0, day, 2));
        });
        CHECK.sentence("light, what: 0 to 2", () -> {
            GnomonYard yard = Yards.at(66);
            CHECK.range(0, 163, 2, 35, what -> yard.light(0, 270, what));
            CHECK.due(198, "what 1", () -> yard.light(0, 270, 1));
        });
        CHECK.sentence("lightAnew, there is no such PLACE", () -> {
            GnomonYard yard = Yards.at(0, 66);
            CHECK.numbers(1, 325, place -> yard.lightAnew(place, 90));
            CHECK.numbers(7, 179, place -> Yards.full().lightAnew(place, 0));
        });
        CHECK.sentence("lightAnew, day: 0 to 359", () -> {
            GnomonYard yard = Yards.at(51);
            CHECK.range(0, 179, 359, 179, day -> yard.lightAnew(0, day));
        });
        CHECK.sentence("The sun SHINES, if UP is above 0", () -> {
            GnomonYard yard = Yards.at(-20);
            CHECK.due(0, "UP in the tick 90", () -> yard.sun(-20, 0, 90, 0));
            CHECK.due(91, "the RISE", () -> yard.light(0, 0, 0));
            CHECK.due(0, "UP in the tick 270", () -> yard.sun(-20, 0, 270, 0));
            CHECK.due(270, "the SET", () -> yard.light(0, 0, 1));
            CHECK.due(179, "how many ticks", () -> yard.light(0, 0, 2));
            CHECK.due(179, "found anew", () -> yard.lightAnew(0, 0));
        });
        CHECK.sentence("The RISE is the first tick in which it SHINES, the SET 1 more than the last"
                + " one; both are NONE, if it never does", PlaceBoundariesTest::lightEverywhere);
    }

    /** From -66 to 66 there is no day without light, nor one without night: NONE never comes. */
    private static void lightEverywhere() {
        for (int latitude = -66; latitude <= 66; latitude++) {
            for (int day = 0; day < 360; day += 60) {
                GnomonYard yard = Yards.at(latitude);
                for (int i = 0; i < 60; i++) {
                    lightOf(yard, latitude, day + i);
                }
            }
        }
    }

    private static void lightOf(GnomonYard yard, int latitude, int day) {
        int rise = yard.light(0, day, 0);
        int set = yard.light(0, day, 1);
        String at = " at " + latitude + " on day " + day;
        if (rise <= 0 || set <= rise || set >= 360) {
            CHECK.holds(false, "RISE " + rise + " and SET " + set + at);
            return;
        }
        CHECK.holds(yard.sun(latitude, day, rise - 1, 0) <= 0, "it SHINES ahead of the RISE" + at);
        CHECK.holds(yard.sun(latitude, day, rise, 0) > 0, "it does not SHINE at the RISE" + at);
        CHECK.holds(yard.sun(latitude, day, set - 1, 0) > 0, "it does not SHINE ahead of the SET" + at);
        CHECK.holds(yard.sun(latitude, day, set, 0) <= 0, "it SHINES at the SET" + at);
        CHECK.due(set - rise, "light 2" + at, () -> yard.light(0, day, 2));
        CHECK.due(set - rise, "lightAnew" + at, () -> yard.lightAnew(0, day));
    }

    // Hours: at 66 on day 90 the RISE is 18, the SET 343.

    private static void hour(GnomonYard yard, int tick, int what, int want) {
        CHECK.due(want, "hour(0, 90, " + tick + ", " + what + ")",
                () -> yard.hour(0, 90, tick, what));
    }

    private static void hours() {
        CHECK.sentence("hour, there is no such PLACE", () -> {
            GnomonYard yard = Yards.at(0, 66);
            CHECK.numbers(1, 0, place -> yard.hour(place, 90, 18, 0));
            CHECK.numbers(1, 324, place -> yard.hour(place, 90, 342, 1));
            CHECK.numbers(1, 359, place -> yard.hour(place, 90, 342, 2));
            CHECK.numbers(1, 718, place -> yard.hour(place, 90, 180, 3));
            CHECK.numbers(7, 712, place -> Yards.full().hour(place, 0, 180, 3));
        });
        CHECK.sentence("hour, day: 0 to 359", () -> {
            GnomonYard yard = Yards.at(51);
            CHECK.range(0, 5, 359, 5, day -> yard.hour(0, day, 180, 0));
            CHECK.range(0, 89, 359, 89, day -> yard.hour(0, day, 180, 1));
            CHECK.range(0, 270, 359, 270, day -> yard.hour(0, day, 180, 2));
            CHECK.range(0, 712, 359, 711, day -> yard.hour(0, day, 180, 3));
        });
        CHECK.sentence("hour, tick: 0 to 359", () -> {
            GnomonYard yard = Yards.at(66);
            CHECK.range(0, -1, 359, -1, tick -> yard.hour(0, 90, tick, 0));
            CHECK.range(0, -1, 359, -1, tick -> yard.hour(0, 90, tick, 1));
            CHECK.range(0, 17, 359, 16, tick -> yard.hour(0, 90, tick, 2));
            CHECK.range(0, 1438, 359, 1434, tick -> yard.hour(0, 90, tick, 3));
        });
        CHECK.sentence("hour, what: 0 to 3", () -> {
            GnomonYard yard = Yards.at(66);
            CHECK.range(0, 5, 3, 718, what -> yard.hour(0, 90, 180, what));
        });
        CHECK.sentence("The UNEQUAL hour: 12 times (the tick less the RISE), by ..", () -> {
            GnomonYard yard = Yards.at(66);
            hour(yard, 18, 0, 0);
            hour(yard, 45, 0, 0);
            hour(yard, 46, 0, 1);
            hour(yard, 315, 0, 10);
            hour(yard, 316, 0, 11);
            hour(yard, 342, 0, 11);
        });
        CHECK.sentence("The first is NONE, if the sun does not SHINE in the tick", () -> {
            GnomonYard yard = Yards.at(66);
            hour(yard, 17, 0, -1);
            hour(yard, 343, 0, -1);
            hour(yard, 0, 0, -1);
            hour(yard, 359, 0, -1);
        });
        CHECK.sentence("FROM RISE is the tick less the RISE", () -> {
            GnomonYard yard = Yards.at(66);
            hour(yard, 18, 1, 0);
            hour(yard, 19, 1, 1);
            hour(yard, 342, 1, 324);
        });
        CHECK.sentence("The second is NONE, if the sun does not SHINE in the tick", () -> {
            GnomonYard yard = Yards.at(66);
            hour(yard, 17, 1, -1);
            hour(yard, 343, 1, -1);
            hour(yard, 0, 1, -1);
            hour(yard, 359, 1, -1);
        });
        CHECK.sentence("FROM SET: the remainder by 360, by day, too", () -> {
            GnomonYard yard = Yards.at(66);
            hour(yard, 343, 2, 0);
            hour(yard, 344, 2, 1);
            hour(yard, 359, 2, 16);
            hour(yard, 0, 2, 17);
            hour(yard, 17, 2, 34);
            hour(yard, 18, 2, 35);
            hour(yard, 341, 2, 358);
            hour(yard, 342, 2, 359);
        });
    }

    // Clocks.

    private static void clock(GnomonYard yard, int day, int tick, int want) {
        CHECK.due(want, "hour(0, " + day + ", " + tick + ", 3)", () -> yard.hour(0, day, tick, 3));
    }

    private static GnomonYard atMeridian(int meridian) {
        GnomonYard yard = new GnomonYard();
        yard.place(0, meridian);
        return yard;
    }

    private static void clocks() {
        CHECK.sentence("a clock shows the remainder by 1440", () -> {
            GnomonYard yard = Yards.at(0);
            clock(yard, 180, 358, 1439);
            clock(yard, 181, 358, 0);
            clock(yard, 181, 359, 4);
            clock(yard, 220, 359, 12);
        });
        CHECK.sentence("the remainder by 1440, which is not below 0", () -> {
            GnomonYard yard = Yards.at(0);
            clock(yard, 0, 2, 0);
            clock(yard, 0, 1, 1436);
            clock(yard, 0, 0, 1432);
            clock(yard, 359, 0, 1431);
        });
        CHECK.sentence("a clock, less the meridian", () -> {
            clock(atMeridian(-720), 220, 359, 732);
            clock(atMeridian(-720), 0, 0, 712);
            clock(atMeridian(720), 359, 0, 711);
            clock(atMeridian(720), 0, 182, 0);
            clock(atMeridian(720), 0, 181, 1436);
            // By 1440 the ends are the same, the ones next to them are not.
            clock(atMeridian(-719), 0, 0, 711);
            clock(atMeridian(719), 0, 0, 713);
        });
        CHECK.sentence("a clock, and 60 more in SUMMER, by 1440", () -> {
            GnomonYard east = atMeridian(-720);
            east.summer(220, 220);
            clock(east, 220, 359, 792);
            GnomonYard yard = Yards.at(0);
            yard.summer(0, 181);
            clock(yard, 181, 343, 0);
            clock(yard, 181, 342, 1436);
            clock(yard, 0, 0, 52);
        });
    }

    // SUMMER: at noon a clock shows 764 or more in it, and 736 or less out of it.

    private static void summerOn(GnomonYard yard, boolean isSummer, int... days) {
        for (int day : days) {
            CHECK.holds(yard.hour(0, day, 180, 3) > 750 == isSummer,
                    "day " + day + " should " + (isSummer ? "" : "not ") + "be in SUMMER");
        }
    }

    private static GnomonYard summer(int from, int to) {
        GnomonYard yard = Yards.at(0);
        yard.summer(from, to);
        return yard;
    }

    private static void summers() {
        CHECK.sentence("summer, from: 0 to 359", () -> {
            GnomonYard yard = Yards.at(0);
            CHECK.range(0, 0, 359, 0, from -> Yards.summer(yard, from, 359));
        });
        CHECK.sentence("summer, from: 0 to 359, for none at all, too", () -> {
            GnomonYard yard = Yards.at(0);
            CHECK.range(0, 0, 359, 0, from -> Yards.summer(yard, from, GnomonYard.NONE));
        });
        CHECK.sentence("summer, to: from to 359", () -> {
            GnomonYard yard = Yards.at(0);
            CHECK.range(100, 0, 359, 0, to -> Yards.summer(yard, 100, to));
            CHECK.range(359, 0, 359, 0, to -> Yards.summer(yard, 359, to));
            CHECK.outOfRange("summer(1, 0)", () -> Yards.summer(yard, 1, 0));
            CHECK.outOfRange("summer(359, 0)", () -> Yards.summer(yard, 359, 0));
        });
        CHECK.sentence("summer, to: .. or NONE, for none at all", () -> {
            GnomonYard yard = summer(0, 359);
            yard.summer(0, GnomonYard.NONE);
            summerOn(yard, false, 0, 1, 180, 359);
            yard.summer(0, 359);
            yard.summer(359, GnomonYard.NONE);
            summerOn(yard, false, 0, 1, 180, 359);
            CHECK.outOfRange("summer(0, -2)", () -> Yards.summer(yard, 0, -2));
        });
        CHECK.sentence("SUMMER is from a day to another one, both with it", () -> {
            GnomonYard yard = summer(45, 90);
            summerOn(yard, true, 45, 46, 89, 90);
            summerOn(yard, false, 0, 44, 91, 359);
        });
        CHECK.sentence("SUMMER of a single day, and of the whole year", () -> {
            summerOn(summer(0, 0), true, 0);
            summerOn(summer(0, 0), false, 1, 359);
            summerOn(summer(359, 359), true, 359);
            summerOn(summer(359, 359), false, 0, 358);
            summerOn(summer(0, 359), true, 0, 1, 358, 359);
        });
        CHECK.sentence("SUMMER .. as told: the last one told", () -> {
            GnomonYard yard = summer(45, 90);
            yard.summer(200, 210);
            summerOn(yard, true, 200, 210);
            summerOn(yard, false, 45, 90);
        });
    }
}
