/**
 * Promises 10 to 14: dials, where they stand, shadows, blurs, lines; DialBoundariesTest has their
 * ends.
 */
public final class DialsTest {
    private static final Check CHECK = new Check("DialsTest");
    private static final Shadows SHADOWS = new Shadows(CHECK);

    public static void main(String[] args) {
        dials();
        stands();
        shadows();
        blurs();
        lines();
        CHECK.end();
    }

    private static void dials() {
        GnomonYard yard = new GnomonYard();
        yard.place(45, 0);
        int[][] right = {{0, -180, 1}, {90, 180, 500}, {0, 0, 100}};
        for (int i = 0; i < 10; i++) {
            int[] r = right[i % 3];
            CHECK.due(i, "dial(0, " + r[0] + ", " + r[1] + ", " + r[2] + ")",
                    () -> yard.dial(0, r[0], r[1], r[2]));
        }
        CHECK.due(100, "the ninth DIAL's shadow", () -> yard.shadow(8, 0, 180, true));
    }

    private static void stands() {
        GnomonYard yard = new GnomonYard();
        yard.place(45, 0);
        yard.place(0, 0);
        yard.dial(0, 0, 0, 100);
        CHECK.due(0, "stand returns its own PLACE", () -> yard.stand(0, 1, 0, 0));
        CHECK.due(0, "a shadow at the equator", () -> yard.shadow(0, 0, 180, true));
        CHECK.due(1, "stand returns PLACE 1", () -> yard.stand(0, 0, 0, 180));
        CHECK.due(-100, "a shadow of a turned plate", () -> yard.shadow(0, 0, 180, true));
        CHECK.due(0, "stand returns PLACE 0", () -> yard.stand(0, 0, 90, 0));
        CHECK.due(-100, "a shadow on a wall", () -> yard.shadow(0, 0, 180, true));
    }

    private static void shadows() {
        GnomonYard yard = new GnomonYard();
        yard.place(51, 0);
        yard.place(-34, 0);
        yard.place(66, 0);
        yard.place(0, 0);
        yard.dial(0, 90, 45, 200);
        yard.dial(0, 60, -90, 33);
        yard.dial(1, 30, 180, 10);
        yard.dial(2, 90, 0, 500);
        yard.dial(3, 90, 0, 100);
        SHADOWS.at(yard, 0, 0, 180, 200, -230);
        SHADOWS.at(yard, 0, 90, 250, -201, -165);
        SHADOWS.at(yard, 0, 33, 222, -42, -162);
        SHADOWS.at(yard, 1, 0, 180, -82, -58);
        SHADOWS.at(yard, 1, 90, 100, 4, 3);
        SHADOWS.at(yard, 2, 90, 250, 30, 14);
        SHADOWS.at(yard, 2, 270, 190, 1, -4);
        SHADOWS.at(yard, 3, 90, 250, -3362, -1890);
        SHADOWS.at(yard, 3, 270, 190, -82, -6);
        // Behind the plate, below the horizon, and just along the plate, where N is 0.
        SHADOWS.none(yard, 0, 90, 100);
        SHADOWS.none(yard, 1, 90, 250);
        SHADOWS.none(yard, 3, 270, 162);
        SHADOWS.none(yard, 4, 0, 180);
    }

    private static void blurs() {
        GnomonYard yard = new GnomonYard();
        yard.place(51, 0);
        yard.place(45, 0);
        yard.dial(0, 90, 45, 200);
        yard.dial(1, 0, 0, 100);
        CHECK.due(630f / 107f, "blur(0, 0, 180)", () -> yard.blur(0, 0, 180));
        CHECK.due(566f / 107f, "blur(0, 90, 250)", () -> yard.blur(0, 90, 250));
        CHECK.due(200f / 107f, "blur(1, 0, 180)", () -> yard.blur(1, 0, 180));
        yard.stand(1, 0, 90, 45);
        CHECK.due(315f / 107f, "blur as it stands", () -> yard.blur(1, 0, 180));
    }

    private static void lines() {
        GnomonYard yard = new GnomonYard();
        yard.place(51, 0);
        yard.place(0, 0);
        yard.dial(0, 40, 20, 100);
        for (int standing = 0; standing < 2; standing++) {
            SHADOWS.line(yard, 1);
            SHADOWS.line(yard, 8);
            SHADOWS.line(yard, 9, 125, -80, 223, 77);
            SHADOWS.line(yard, 12, 16, -25, 41, 65);
            SHADOWS.line(yard, 15, -63, -13, -53, 95);
            SHADOWS.line(yard, 16);
            SHADOWS.line(yard, 23);
            yard.stand(0, 1, 0, 0);
        }
        yard.cut(0, 12, 50);
        SHADOWS.line(yard, 12, 16, -25, 41, 65);
    }
}
