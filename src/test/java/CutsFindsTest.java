/**
 * Promises 19 to 24: cuts, lies, costs, finds, and the latitudes that fit; CutFindBoundariesTest
 * has their ends.
 */
public final class CutsFindsTest {
    private static final Check CHECK = new Check("CutsFindsTest");

    public static void main(String[] args) {
        cuts();
        finds();
        fittings();
        CHECK.end();
    }

    private static GnomonYard yard() {
        GnomonYard yard = new GnomonYard();
        yard.place(51, 0);
        yard.place(0, 0);
        yard.dial(0, 40, 20, 100);
        yard.dial(0, 40, 20, 100);
        return yard;
    }

    private static void cut(GnomonYard yard, int dial, int hour, int slip, int want) {
        CHECK.due(want, "cut(" + dial + ", " + hour + ", " + slip + ")",
                () -> yard.cut(dial, hour, slip));
    }

    /** The lines of 9, 12 and 15 have ends that are 98 + 157, 25 + 90 and 10 + 108 apart. */
    private static void cuts() {
        GnomonYard yard = yard();
        CHECK.due(0, "lies(0) without cuts", () -> yard.lies(0));
        cut(yard, 0, 12, 0, 395);
        CHECK.due(0, "lies(0) with no slip", () -> yard.lies(0));
        cut(yard, 0, 9, -50, 815);
        CHECK.due(50, "lies(0) with a slip of -50", () -> yard.lies(0));
        cut(yard, 0, 15, 49, 404);
        CHECK.due(50, "lies(0) with a lesser slip", () -> yard.lies(0));
        CHECK.due(0, "lies(1)", () -> yard.lies(1));
        CHECK.due(1614, "cost()", yard::cost);
        yard.stand(1, 1, 0, 0);
        cut(yard, 1, 12, 50, 395);
        CHECK.due(50, "lies(1) with a slip of 50", () -> yard.lies(1));
        CHECK.due(2009, "cost() of both DIALS", yard::cost);
        for (int slip : new int[] {50, 0, -50}) {
            CHECK.notNow("cut of a LINE that was cut", () -> yard.cut(0, 12, slip));
        }
        CHECK.notNow("cut of a LINE that is not there", () -> yard.cut(0, 1, 0));
        CHECK.notNow("cut of a LINE without end", () -> yard.cut(1, 8, 50));
        CHECK.due(2009, "cost() after refusals", yard::cost);
        cut(yard, 1, 9, 1, 815);
    }

    private static void finds() {
        GnomonYard yard = new GnomonYard();
        for (int round = 0; round < 2; round++) {
            for (int i = 1; i <= 6; i++) {
                int sign = i % 2 == 0 ? 1 : -1;
                CHECK.due(i, "FIND " + i, () -> yard.find(359, 359, sign * 9999, -sign * 9999));
            }
            CHECK.due(0, "fits with FINDS at night", () -> yard.fits(0, 0, 1, 0));
            CHECK.due(6, "forget", yard::forget);
            CHECK.due(0, "forget again", yard::forget);
            CHECK.due(133, "fits after forget", () -> yard.fits(0, 0, 1, 0));
        }
    }

    private static void fits(GnomonYard yard, int tilt, int facing, int rod, int... wants) {
        for (int i = 0; i < wants.length; i++) {
            int what = i;
            CHECK.due(wants[i], "fits(" + tilt + ", " + facing + ", " + rod + ", " + i + ")",
                    () -> yard.fits(tilt, facing, rod, what));
        }
        if (wants.length == 1) {
            CHECK.notNow("the lowest of none", () -> yard.fits(tilt, facing, rod, 1));
            CHECK.notNow("the greatest of none", () -> yard.fits(tilt, facing, rod, 2));
        }
    }

    private static void fittings() {
        GnomonYard yard = new GnomonYard();
        fits(yard, 90, 180, 500, 133, -66, 66);
        yard.find(90, 180, 16, -25);
        fits(yard, 40, 20, 100, 1, 51, 51);
        yard.find(270, 180, 41, 65);
        fits(yard, 40, 20, 100, 1, 51, 51);
        yard.find(270, 180, 41, 66);
        fits(yard, 40, 20, 100, 0);
        yard.forget();
        yard.find(200, 150, 1, -1);
        fits(yard, 10, -45, 2, 16, -43, -28);
        yard.find(90, 200, 1, -5);
        fits(yard, 10, -45, 2, 5, -34, -30);
        yard.forget();
        yard.find(270, 180, 0, -1);
        fits(yard, 0, 0, 1, 43, -66, -24);
        yard.forget();
        yard.find(90, 180, 0, 0);
        fits(yard, 0, 0, 1, 44, 23, 66);
        fits(yard, 90, 0, 500, 0);
    }
}
