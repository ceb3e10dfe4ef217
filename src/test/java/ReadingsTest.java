/**
 * Promises 15 to 18: points read, what dials tell, the worst of a day, the best tilt;
 * ReadingBoundariesTest has their ends.
 */
public final class ReadingsTest {
    private static final Check CHECK = new Check("ReadingsTest");

    public static void main(String[] args) {
        readings();
        tellings();
        worsts();
        bests();
        CHECK.end();
    }

    /** DIAL 0 leans; DIAL 1 is a wall that faces north, DIAL 2 one with the least rod. */
    private static GnomonYard yard() {
        GnomonYard yard = new GnomonYard();
        yard.place(51, 0);
        yard.place(-20, 300);
        yard.place(66, 0);
        yard.place(60, 0);
        yard.place(0, 0);
        yard.dial(0, 40, 20, 100);
        yard.dial(2, 90, 180, 500);
        yard.dial(4, 0, 0, 1);
        return yard;
    }

    private static void read(GnomonYard yard, int dial, int x, int y, int day, int want) {
        CHECK.due(want, "read(" + dial + ", " + x + ", " + y + ", " + day + ")",
                () -> yard.read(dial, x, y, day));
    }

    private static void readings() {
        GnomonYard yard = yard();
        for (int standing = 0; standing < 2; standing++) {
            read(yard, 0, 0, 0, 0, 195);
            read(yard, 0, 76, -51, 90, 150);
            read(yard, 0, 9999, 9999, 90, 99);
            read(yard, 0, -9999, -9999, 90, 287);
            read(yard, 0, -18, 79, 270, 210);
            read(yard, 0, 500, 0, 0, 115);
            read(yard, 0, 43, 20, 180, 172);
            yard.stand(0, 1, 10, 100);
        }
        // Rounded down, the shadows from tick 136 to 180 are all at 0, 0: the first one is told.
        read(yard, 2, 0, 0, 0, 136);
        read(yard, 2, -1, 0, 0, 181);
        read(yard, 2, -2, 3, 0, 226);
        read(yard, 2, 1, 0, 0, 117);
        read(yard, 1, 0, 0, 270, GnomonYard.NONE);
        CHECK.due(0, "a shadow where none was made for", () -> {
            yard.stand(1, 4, 0, 0);
            return yard.shadow(1, 270, 180, false);
        });
        CHECK.due(GnomonYard.NONE, "told, but not read", () -> yard.tells(1, 270, 180));
    }

    private static void tells(GnomonYard yard, int dial, int day, int tick, int want) {
        CHECK.due(want, "tells(" + dial + ", " + day + ", " + tick + ")",
                () -> yard.tells(dial, day, tick));
    }

    private static void tellings() {
        GnomonYard yard = yard();
        tells(yard, 0, 90, 150, 150);
        tells(yard, 0, 270, 195, 195);
        tells(yard, 0, 0, 0, GnomonYard.NONE);
        yard.stand(0, 1, 10, 100);
        tells(yard, 0, 0, 100, GnomonYard.NONE);
        tells(yard, 0, 0, 180, 215);
        tells(yard, 0, 90, 150, 247);
        tells(yard, 0, 270, 200, 194);
        tells(yard, 0, 270, 300, GnomonYard.NONE);
    }

    private static void worst(GnomonYard yard, int dial, int day, int error, int tick) {
        String told = "worst(" + dial + ", " + day + ", ";
        CHECK.due(error, told + "0)", () -> yard.worst(dial, day, 0));
        CHECK.due(tick, told + "1)", () -> yard.worst(dial, day, 1));
    }

    private static void worsts() {
        GnomonYard yard = yard();
        worst(yard, 0, 0, 0, 104);
        worst(yard, 0, 90, 0, 99);
        worst(yard, 0, 270, 0, 122);
        worst(yard, 0, 135, 0, 100);
        yard.stand(0, 1, 10, 100);
        worst(yard, 0, 0, 168, 101);
        worst(yard, 0, 90, 178, 109);
        worst(yard, 0, 270, 152, 278);
        worst(yard, 0, 135, 177, 107);
        worst(yard, 1, 270, GnomonYard.NONE, GnomonYard.NONE);
        yard.stand(1, 4, 0, 0);
        worst(yard, 1, 270, GnomonYard.NONE, GnomonYard.NONE);
    }

    private static void best(GnomonYard yard, int dial, int place, int facing, int want) {
        CHECK.due(want, "best(" + dial + ", " + place + ", " + facing + ")",
                () -> yard.best(dial, place, facing));
    }

    private static void bests() {
        GnomonYard yard = yard();
        best(yard, 0, 0, 20, 0);
        best(yard, 0, 0, -60, 8);
        best(yard, 0, 1, 100, 6);
        best(yard, 0, 2, 0, 1);
        best(yard, 1, 3, 0, 85);
        yard.place(40, 0);
        best(yard, 0, 5, 20, 4);
        yard.place(-51, 0);
        // Of 2 tilts and of 4 with the least errors the lowest.
        best(yard, 0, 6, 180, 47);
        best(yard, 2, 4, 0, 1);
        yard.stand(0, 2, 90, -90);
        best(yard, 0, 5, 20, 4);
        yard.stand(0, 0, 40, 20);
        // What silence counts decides here: 179 would make the first one 90, 181 the second one 65.
        GnomonYard silent = new GnomonYard();
        silent.place(-60, 0);
        silent.place(-33, 0);
        silent.dial(0, 59, -1, 50);
        best(silent, 0, 1, -162, 86);
        silent.place(41, 0);
        silent.place(-22, 0);
        silent.dial(2, 77, 122, 1);
        best(silent, 1, 3, -176, 75);
        // A wall to the south at the equator is best as it was made.
        yard.dial(4, 90, 0, 100);
        best(yard, 3, 4, 0, 90);
        CHECK.due(0, "best moves no DIAL", () -> yard.stand(0, 0, 40, 20));
        tells(yard, 0, 90, 150, 150);
    }
}
