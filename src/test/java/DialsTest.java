/** Promises 10 to 14: dials, where they stand, shadows, blurs, lines. */
public final class DialsTest {
    private static final Check CHECK = new Check("DialsTest");

    public static void main(String[] args) {
        dials();
        stands();
        shadows();
        edgesOfShadows();
        blurs();
        lines();
        CHECK.end();
    }

    private static void dials() {
        GnomonYard yard = new GnomonYard();
        CHECK.notThere("dial without a PLACE", () -> yard.dial(0, 91, 0, 1));
        yard.place(45, 0);
        int[][] wrong = {{-1, 0, 1}, {91, 0, 1}, {0, -181, 1}, {0, 181, 1}, {0, 0, 0}, {0, 0, 501}};
        for (int[] w : wrong) {
            CHECK.outOfRange("dial(0, " + w[0] + ", " + w[1] + ", " + w[2] + ")",
                    () -> yard.dial(0, w[0], w[1], w[2]));
        }
        CHECK.notThere("dial at no PLACE", () -> yard.dial(1, 0, 0, 1));
        CHECK.notThere("dial at no PLACE, out of range", () -> yard.dial(-1, 91, 0, 1));
        int[][] right = {{0, -180, 1}, {90, 180, 500}, {0, 0, 100}};
        for (int i = 0; i < 10; i++) {
            int[] r = right[i % 3];
            CHECK.due(i, "dial(0, " + r[0] + ", " + r[1] + ", " + r[2] + ")",
                    () -> yard.dial(0, r[0], r[1], r[2]));
        }
        CHECK.notNow("an eleventh DIAL", () -> yard.dial(0, 0, 0, 1));
        CHECK.outOfRange("an eleventh DIAL out of range", () -> yard.dial(0, 0, 0, 0));
        CHECK.notThere("an eleventh DIAL at no PLACE", () -> yard.dial(1, 0, 0, 1));
        CHECK.due(100, "the ninth DIAL's shadow", () -> yard.shadow(8, 0, 180, true));
        CHECK.notThere("the eleventh DIAL", () -> yard.lies(10));
    }

    private static void stands() {
        GnomonYard yard = new GnomonYard();
        yard.place(45, 0);
        yard.place(0, 0);
        yard.dial(0, 0, 0, 100);
        CHECK.due(0, "stand returns its own PLACE", () -> yard.stand(0, 1, 0, 0));
        CHECK.due(0, "a shadow at the equator", () -> yard.shadow(0, 0, 180, true));
        CHECK.due(1, "stand returns PLACE 1", () -> yard.stand(0, 0, 0, 180));
        CHECK.due(-100, "a shadow of a turned plate", () -> yard.shadow(0, 0, 180, true));
        CHECK.due(0, "stand returns PLACE 0", () -> yard.stand(0, 0, 90, 0));
        CHECK.due(-100, "a shadow on a wall", () -> yard.shadow(0, 0, 180, true));
        int[][] wrong = {{-1, 0}, {91, 0}, {0, -181}, {0, 181}};
        for (int[] w : wrong) {
            CHECK.outOfRange("stand(0, 1, " + w[0] + ", " + w[1] + ")",
                    () -> yard.stand(0, 1, w[0], w[1]));
        }
        CHECK.notThere("stand of no DIAL", () -> yard.stand(1, 0, 91, 0));
        CHECK.notThere("stand at no PLACE", () -> yard.stand(0, 2, 0, 0));
        CHECK.notThere("stand at no PLACE, out of range", () -> yard.stand(0, -1, 91, 0));
        CHECK.due(0, "stand after refusals", () -> yard.stand(0, 1, 0, 0));
    }

    private static void shadowOf(GnomonYard yard, int dial, int day, int tick, int x, int y) {
        String told = "shadow(" + dial + ", " + day + ", " + tick + ", ";
        CHECK.due(x, told + "false)", () -> yard.shadow(dial, day, tick, false));
        CHECK.due(y, told + "true)", () -> yard.shadow(dial, day, tick, true));
    }

    private static void noShadow(GnomonYard yard, int dial, int day, int tick) {
        String told = "(" + dial + ", " + day + ", " + tick;
        CHECK.notNow("shadow" + told + ", false)", () -> yard.shadow(dial, day, tick, false));
        CHECK.notNow("shadow" + told + ", true)", () -> yard.shadow(dial, day, tick, true));
        CHECK.notNow("blur" + told + ")", () -> yard.blur(dial, day, tick));
    }

    private static void shadows() {
        GnomonYard yard = new GnomonYard();
        yard.place(51, 0);
        yard.place(-34, 0);
        yard.place(66, 0);
        yard.place(0, 0);
        yard.dial(0, 90, 45, 200);
        yard.dial(0, 60, -90, 33);
        yard.dial(1, 30, 180, 10);
        yard.dial(2, 90, 0, 500);
        yard.dial(3, 90, 0, 100);
        shadowOf(yard, 0, 0, 180, 200, -230);
        shadowOf(yard, 0, 90, 250, -201, -165);
        shadowOf(yard, 0, 33, 222, -42, -162);
        shadowOf(yard, 1, 0, 180, -82, -58);
        shadowOf(yard, 1, 90, 100, 4, 3);
        shadowOf(yard, 2, 90, 250, 30, 14);
        shadowOf(yard, 2, 270, 190, 1, -4);
        shadowOf(yard, 3, 90, 250, -3362, -1890);
        shadowOf(yard, 3, 270, 190, -82, -6);
        // Behind the plate, below the horizon, and just along the plate, where N is 0.
        noShadow(yard, 0, 90, 100);
        noShadow(yard, 1, 90, 250);
        noShadow(yard, 3, 270, 162);
        noShadow(yard, 4, 0, 180);
        CHECK.notThere("shadow of no DIAL", () -> yard.shadow(5, 360, 0, true));
        CHECK.notThere("shadow of DIAL -1", () -> yard.shadow(-1, 0, 0, true));
        int[][] wrong = {{-1, 0}, {360, 0}, {0, -1}, {0, 360}};
        for (int[] w : wrong) {
            CHECK.outOfRange("shadow(0, " + w[0] + ", " + w[1] + ", true)",
                    () -> yard.shadow(0, w[0], w[1], true));
        }
    }

    /** A plate that lies at a latitude with a rod, on a day in a tick, has this shadow or none. */
    private static void edge(int latitude, int rod, int day, int tick, int... xy) {
        GnomonYard yard = new GnomonYard();
        yard.place(latitude, 0);
        yard.dial(0, 0, 0, rod);
        if (xy.length == 0) {
            noShadow(yard, 0, day, tick);
        } else {
            shadowOf(yard, 0, day, tick, xy[0], xy[1]);
        }
    }

    private static void edgesOfShadows() {
        edge(-48, 234, 0, 268, -9999, -260);
        edge(-51, 220, 0, 92, 9999, -272);
        edge(-51, 220, 0, 268);
        edge(-45, 247, 0, 92);
        edge(-64, 75, 270, 31, 5391, 9999);
        edge(-60, 34, 90, 222, -7831, -9999);
        edge(60, 165, 270, 140);
        edge(64, 75, 90, 31);
    }

    private static void blurs() {
        GnomonYard yard = new GnomonYard();
        yard.place(51, 0);
        yard.place(45, 0);
        yard.dial(0, 90, 45, 200);
        yard.dial(1, 0, 0, 100);
        CHECK.due(630f / 107f, "blur(0, 0, 180)", () -> yard.blur(0, 0, 180));
        CHECK.due(566f / 107f, "blur(0, 90, 250)", () -> yard.blur(0, 90, 250));
        CHECK.due(200f / 107f, "blur(1, 0, 180)", () -> yard.blur(1, 0, 180));
        yard.stand(1, 0, 90, 45);
        CHECK.due(315f / 107f, "blur as it stands", () -> yard.blur(1, 0, 180));
        CHECK.notThere("blur of no DIAL", () -> yard.blur(2, -1, 0));
        CHECK.notThere("blur of DIAL -1", () -> yard.blur(-1, 0, 0));
        int[][] wrong = {{-1, 0}, {360, 0}, {0, -1}, {0, 360}};
        for (int[] w : wrong) {
            CHECK.outOfRange("blur(0, " + w[0] + ", " + w[1] + ")", () -> yard.blur(0, w[0], w[1]));
        }
    }

    private static void lineOf(GnomonYard yard, int hour, int... wants) {
        for (int what = 1; what <= 4; what++) {
            int asked = what;
            String told = "line(0, " + hour + ", " + what + ")";
            if (wants.length == 0) {
                CHECK.notNow(told, () -> yard.line(0, hour, asked));
            } else {
                CHECK.due(wants[what - 1], told, () -> yard.line(0, hour, asked));
            }
        }
        CHECK.due(wants.length == 0 ? 0 : 1, "line(0, " + hour + ", 0)",
                () -> yard.line(0, hour, 0));
    }

    /** In the southern winter this plate has no shadow at noon, in the summer it has. */
    private static void lineWithoutBeginning() {
        GnomonYard yard = new GnomonYard();
        yard.place(-51, 0);
        yard.dial(0, 40, 0, 100);
        shadowOf(yard, 0, 270, 180, 0, -247);
        noShadow(yard, 0, 90, 180);
        lineOf(yard, 12);
    }

    private static void lines() {
        GnomonYard yard = new GnomonYard();
        yard.place(51, 0);
        yard.place(0, 0);
        yard.dial(0, 40, 20, 100);
        for (int standing = 0; standing < 2; standing++) {
            lineOf(yard, 1);
            lineOf(yard, 8);
            lineOf(yard, 9, 125, -80, 223, 77);
            lineOf(yard, 12, 16, -25, 41, 65);
            lineOf(yard, 15, -63, -13, -53, 95);
            lineOf(yard, 16);
            lineOf(yard, 23);
            yard.stand(0, 1, 0, 0);
        }
        lineWithoutBeginning();
        yard.cut(0, 12, 50);
        lineOf(yard, 12, 16, -25, 41, 65);
        CHECK.notThere("line of no DIAL", () -> yard.line(1, 0, 0));
        CHECK.notThere("line of DIAL -1", () -> yard.line(-1, 12, 0));
        int[][] wrong = {{0, 0}, {24, 0}, {-1, 0}, {12, -1}, {12, 5}, {1, 5}};
        for (int[] w : wrong) {
            CHECK.outOfRange("line(0, " + w[0] + ", " + w[1] + ")", () -> yard.line(0, w[0], w[1]));
        }
    }
}
