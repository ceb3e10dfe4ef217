/** Promises 5 to 9: places, light, hours, summer; PlaceBoundariesTest has their ends. */
public final class PlacesTest {
    private static final Check CHECK = new Check("PlacesTest");

    public static void main(String[] args) {
        places();
        light();
        hours();
        summer();
        CHECK.end();
    }

    private static void places() {
        GnomonYard yard = new GnomonYard();
        int[][] right = {{66, 720}, {-66, -720}, {0, 0}, {0, 0}, {1, 1}, {2, 2}, {3, 3}, {4, 4}};
        for (int i = 0; i < right.length; i++) {
            int[] r = right[i];
            CHECK.due(i, "place(" + r[0] + ", " + r[1] + ")", () -> yard.place(r[0], r[1]));
        }
        CHECK.due(708, "the eighth PLACE's clock", () -> yard.hour(7, 0, 180, 3));
    }

    private static void lightOf(GnomonYard yard, int place, int day, int rise, int set, int ticks) {
        String told = "(" + place + ", " + day;
        CHECK.due(rise, "light" + told + ", 0)", () -> yard.light(place, day, 0));
        CHECK.due(set, "light" + told + ", 1)", () -> yard.light(place, day, 1));
        CHECK.due(ticks, "light" + told + ", 2)", () -> yard.light(place, day, 2));
        CHECK.due(ticks, "lightAnew" + told + ")", () -> yard.lightAnew(place, day));
    }

    private static void light() {
        GnomonYard yard = new GnomonYard();
        int[] latitudes = {66, -66, 0, 30, 51};
        for (int latitude : latitudes) {
            yard.place(latitude, 0);
        }
        lightOf(yard, 0, 90, 18, 343, 325);
        lightOf(yard, 0, 270, 163, 198, 35);
        lightOf(yard, 1, 90, 163, 198, 35);
        lightOf(yard, 1, 270, 18, 343, 325);
        lightOf(yard, 2, 0, 91, 270, 179);
        lightOf(yard, 3, 30, 84, 277, 193);
        lightOf(yard, 4, 200, 99, 262, 163);
    }

    private static void hoursOf(GnomonYard yard, int place, int day, int tick, int... wants) {
        for (int i = 0; i < wants.length; i++) {
            int what = i;
            CHECK.due(wants[i], "hour(" + place + ", " + day + ", " + tick + ", " + i + ")",
                    () -> yard.hour(place, day, tick, what));
        }
    }

    private static void hours() {
        GnomonYard yard = new GnomonYard();
        yard.place(0, 0);
        yard.place(66, -720);
        yard.place(66, 720);
        yard.place(51, -7);
        hoursOf(yard, 0, 0, 90, -1, -1, 180, 352);
        hoursOf(yard, 0, 0, 91, 0, 0, 181, 356);
        hoursOf(yard, 0, 0, 180, 5, 89, 270, 712);
        hoursOf(yard, 0, 0, 269, 11, 178, 359, 1068);
        hoursOf(yard, 0, 0, 270, -1, -1, 0, 1072);
        hoursOf(yard, 1, 270, 163, 0, 0, 325, 1373);
        hoursOf(yard, 1, 270, 197, 11, 34, 359, 69);
        hoursOf(yard, 2, 90, 0, -1, -1, 17, 718);
        hoursOf(yard, 2, 90, 342, 11, 324, 359, 646);
        hoursOf(yard, 2, 90, 343, -1, -1, 0, 650);
        hoursOf(yard, 3, 133, 200, 7, 130, 269, 801);
        yard.place(-66, 0);
        hoursOf(yard, 4, 0, 255, 10);
    }

    /** On day 90 it is 2 minutes early, on day 45 3 minutes late, on day 0 8 and on 359 9 early. */
    private static void summer() {
        GnomonYard yard = new GnomonYard();
        yard.place(51, 0);
        CHECK.due(0, "summer(45, 90)", () -> Yards.summer(yard, 45, 90));
        CHECK.due(783, "the first day of SUMMER", () -> yard.hour(0, 45, 180, 3));
        CHECK.due(778, "the last day of SUMMER", () -> yard.hour(0, 90, 180, 3));
        CHECK.due(720 + yard.day(44, 1), "the day ahead of it", () -> yard.hour(0, 44, 180, 3));
        CHECK.due(720 + yard.day(91, 1), "the day behind it", () -> yard.hour(0, 91, 180, 3));
        CHECK.due(58, "past midnight", () -> yard.hour(0, 90, 0, 3));
        CHECK.due(0, "summer(90, 90)", () -> Yards.summer(yard, 90, 90));
        CHECK.due(723, "no longer SUMMER", () -> yard.hour(0, 45, 180, 3));
        CHECK.due(778, "a SUMMER of one day", () -> yard.hour(0, 90, 180, 3));
        CHECK.due(0, "summer(359, NONE)", () -> Yards.summer(yard, 359, GnomonYard.NONE));
        CHECK.due(718, "no SUMMER on day 90", () -> yard.hour(0, 90, 180, 3));
        CHECK.due(711, "no SUMMER on day 359", () -> yard.hour(0, 359, 180, 3));
        CHECK.due(0, "summer(0, 359)", () -> Yards.summer(yard, 0, 359));
        CHECK.due(772, "SUMMER on day 0", () -> yard.hour(0, 0, 180, 3));
        CHECK.due(771, "SUMMER on day 359", () -> yard.hour(0, 359, 180, 3));
    }
}
