/** A test of its own for each sentence of promises 19 to 24 that names a boundary case. */
public final class CutFindBoundariesTest {
    private static final Check CHECK = new Check("CutFindBoundariesTest");

    public static void main(String[] args) {
        cutRanges();
        cuts();
        lies();
        costs();
        finds();
        fitRanges();
        fittings();
        CHECK.end();
    }

    /**
     * Two DIALS that are alike: their LINES of 9, 12 and 15 have ends that are 98 + 157, 25 + 90 and
     * 10 + 108 apart, those of 1 and 8 are not there.
     */
    private static GnomonYard twins() {
        GnomonYard yard = Yards.withDial(51, 40, 20, 100);
        yard.dial(0, 40, 20, 100);
        return yard;
    }

    private static void cut(GnomonYard yard, int dial, int hour, int slip, int want) {
        CHECK.due(want, "cut(" + dial + ", " + hour + ", " + slip + ")",
                () -> yard.cut(dial, hour, slip));
    }

    private static void notCut(GnomonYard yard, int dial, int hour, int slip) {
        CHECK.notNow("cut(" + dial + ", " + hour + ", " + slip + ")",
                () -> yard.cut(dial, hour, slip));
    }

    private static void cutRanges() {
        CHECK.sentence("cut, there is no such DIAL", () -> {
            GnomonYard yard = twins();
            CHECK.numbers(1, 395, dial -> yard.cut(dial, 12, 0));
            CHECK.numbers(9, 18044, dial -> Yards.full().cut(dial, 15, 0));
        });
        CHECK.sentence("cut, hour: 1 to 23", () -> {
            GnomonYard yard = twins();
            for (int beyond : new int[] {0, 24, -12, Integer.MIN_VALUE, Integer.MAX_VALUE}) {
                CHECK.outOfRange("cut of hour " + beyond, () -> yard.cut(0, beyond, 0));
            }
            // The sun never SHINES in these hours on both days.
            notCut(yard, 0, 1, 0);
            notCut(yard, 0, 23, 0);
        });
        CHECK.sentence("cut, slip: -50 to 50", () -> {
            GnomonYard yard = twins();
            for (int beyond : new int[] {-51, 51, Integer.MIN_VALUE, Integer.MAX_VALUE}) {
                CHECK.outOfRange("cut with slip " + beyond, () -> yard.cut(0, 12, beyond));
            }
            cut(yard, 0, 12, -50, 395);
            cut(yard, 1, 12, 50, 395);
        });
    }

    private static void cuts() {
        CHECK.sentence("A mason cuts the LINE of an hour of a DIAL, if it is there", () -> {
            GnomonYard yard = twins();
            notCut(yard, 0, 1, 0);
            notCut(yard, 0, 8, 50);
            notCut(yard, 0, 8, 50);
            notCut(Yards.withDial(0, 45, 0, 1), 0, 7, 0);
            notCut(Yards.withDial(0, 45, 180, 1), 0, 7, 0);
        });
        CHECK.sentence("A LINE can be cut once", () -> {
            GnomonYard yard = twins();
            cut(yard, 0, 12, 0, 395);
            notCut(yard, 0, 12, 0);
            notCut(yard, 0, 12, 50);
            notCut(yard, 0, 12, -50);
            cut(yard, 0, 9, 0, 815);
            notCut(yard, 0, 9, 0);
        });
        CHECK.sentence("A LINE can be cut once: also after its DIAL was set", () -> {
            GnomonYard yard = twins();
            cut(yard, 0, 12, 0, 395);
            yard.stand(0, 0, 90, 180);
            notCut(yard, 0, 12, 0);
            cut(yard, 0, 15, 0, 404);
        });
        CHECK.sentence("the LINE of an hour of a DIAL: another DIAL has its own", () -> {
            GnomonYard yard = twins();
            cut(yard, 0, 12, 0, 395);
            cut(yard, 1, 12, 0, 395);
            notCut(yard, 1, 12, 0);
        });
        CHECK.sentence("3 cents for each millimetre by which its ends are apart, and 50", () -> {
            cut(Yards.withDial(45, 90, 90, 1), 0, 16, 50, 50);
            cut(Yards.withDial(45, 90, -90, 1), 0, 8, -50, 50);
            cut(twins(), 0, 12, 50, 395);
        });
    }

    private static void lies(GnomonYard yard, int dial, int want) {
        CHECK.due(want, "lies(" + dial + ")", () -> yard.lies(dial));
    }

    private static void lies() {
        CHECK.sentence("lies, there is no such DIAL", () -> {
            GnomonYard yard = twins();
            yard.cut(1, 12, 7);
            CHECK.numbers(1, 7, yard::lies);
            CHECK.numbers(9, 0, dial -> Yards.full().lies(dial));
        });
        CHECK.sentence("0 without any", () -> {
            GnomonYard yard = twins();
            lies(yard, 0, 0);
            yard.cut(0, 12, 0);
            lies(yard, 0, 0);
            yard.cut(1, 12, 50);
            lies(yard, 0, 0);
            lies(yard, 1, 50);
        });
        CHECK.sentence("the greatest slip without sign", () -> {
            GnomonYard yard = twins();
            yard.cut(0, 12, -7);
            lies(yard, 0, 7);
            yard.cut(0, 9, 6);
            lies(yard, 0, 7);
            yard.cut(0, 15, 8);
            lies(yard, 0, 8);
            yard.cut(1, 9, -50);
            lies(yard, 1, 50);
            yard.cut(1, 12, 49);
            lies(yard, 1, 50);
            lies(yard, 0, 8);
        });
    }

    private static void costs() {
        CHECK.sentence("what all cuts cost by now: none", () -> {
            CHECK.due(0, "cost() of a new object", new GnomonYard()::cost);
            CHECK.due(0, "cost() without cuts", twins()::cost);
        });
        CHECK.sentence("what all cuts cost by now: of all DIALS", () -> {
            GnomonYard yard = twins();
            yard.cut(0, 12, 50);
            CHECK.due(395, "cost() of one", yard::cost);
            yard.cut(1, 9, -50);
            CHECK.due(1210, "cost() of both", yard::cost);
            yard.stand(0, 0, 0, 0);
            CHECK.due(1210, "cost() of DIALS that were set", yard::cost);
        });
    }

    private static void finds() {
        CHECK.sentence("find, day: 0 to 359", () -> {
            GnomonYard yard = new GnomonYard();
            CHECK.range(0, 1, 359, 2, day -> yard.find(day, 0, 0, 0));
        });
        CHECK.sentence("find, tick: 0 to 359", () -> {
            GnomonYard yard = new GnomonYard();
            CHECK.range(0, 1, 359, 2, tick -> yard.find(0, tick, 0, 0));
        });
        CHECK.sentence("find, x: -9999 to 9999", () -> {
            GnomonYard yard = new GnomonYard();
            CHECK.range(-9999, 1, 9999, 2, x -> yard.find(0, 0, x, 0));
        });
        CHECK.sentence("find, y: -9999 to 9999", () -> {
            GnomonYard yard = new GnomonYard();
            CHECK.range(-9999, 1, 9999, 2, y -> yard.find(0, 0, 0, y));
        });
        CHECK.sentence("FINDS .. at most 6", () -> {
            GnomonYard yard = new GnomonYard();
            for (int i = 1; i <= 6; i++) {
                // The same one again is another FIND.
                CHECK.due(i, "FIND " + i, () -> yard.find(0, 180, 0, 0));
            }
        });
        CHECK.sentence("find, IllegalStateException if there are 6", () -> {
            GnomonYard yard = Yards.full();
            CHECK.notNow("a seventh FIND", () -> yard.find(0, 0, 0, 0));
            CHECK.notNow("a seventh FIND again", () -> yard.find(359, 359, 9999, 9999));
            CHECK.due(6, "forget()", yard::forget);
        });
        CHECK.sentence("Forgets all FINDS; returns how many there were", () -> {
            GnomonYard yard = Yards.full();
            CHECK.due(6, "forget()", yard::forget);
            CHECK.due(0, "forget() again", yard::forget);
            CHECK.due(133, "fits without FINDS", () -> yard.fits(0, 0, 1, 0));
            for (int i = 1; i <= 6; i++) {
                CHECK.due(i, "FIND " + i, () -> yard.find(180, 180, -2, 1));
            }
            CHECK.notNow("a seventh FIND", () -> yard.find(180, 180, -2, 1));
            CHECK.due(9, "fits with FINDS", () -> yard.fits(10, -45, 3, 0));
        });
    }

    private static void fitRanges() {
        CHECK.sentence("fits, tilt: 0 to 90", () -> {
            GnomonYard yard = new GnomonYard();
            yard.find(0, 180, 0, -100);
            CHECK.range(0, -45, 90, 45, tilt -> yard.fits(tilt, 0, 100, 1));
        });
        CHECK.sentence("fits, facing: -180 to 180", () -> {
            GnomonYard yard = new GnomonYard();
            yard.find(0, 180, 0, -100);
            CHECK.range(-180, 45, 180, 45, facing -> yard.fits(0, facing, 100, 1));
        });
        CHECK.sentence("fits, rod: 1 to 500", () -> {
            GnomonYard yard = new GnomonYard();
            yard.find(0, 180, 0, 0);
            CHECK.range(1, 44, 500, 0, rod -> yard.fits(0, 0, rod, 2));
        });
        CHECK.sentence("fits, what: 0 to 2", () -> {
            GnomonYard yard = Yards.full();
            CHECK.range(0, 9, 2, 46, what -> yard.fits(10, -45, 3, what));
            CHECK.due(38, "what 1", () -> yard.fits(10, -45, 3, 1));
        });
    }

    private static void fits(GnomonYard yard, int tilt, int facing, int rod, int... wants) {
        for (int i = 0; i < 3; i++) {
            int what = i;
            String told = "fits(" + tilt + ", " + facing + ", " + rod + ", " + i + ")";
            if (i < wants.length) {
                CHECK.due(wants[i], told, () -> yard.fits(tilt, facing, rod, what));
            } else {
                CHECK.notNow(told, () -> yard.fits(tilt, facing, rod, what));
            }
        }
    }

    /** One FIND, and what then fits a plate that lies. */
    private static void found(int rod, int[] find, int... wants) {
        GnomonYard yard = new GnomonYard();
        yard.find(find[0], find[1], find[2], find[3]);
        fits(yard, 0, 0, rod, wants);
    }

    private static void fittings() {
        CHECK.sentence("Without FINDS each FITS", () -> {
            fits(new GnomonYard(), 0, 0, 1, 133, -66, 66);
            fits(new GnomonYard(), 90, 180, 500, 133, -66, 66);
        });
        CHECK.sentence("A latitude, from -66 to 66", () -> {
            found(500, new int[] {0, 180, 0, -1121}, 1, -66, -66);
            found(500, new int[] {0, 180, 0, 1120}, 1, 66, 66);
            found(1, new int[] {270, 180, 0, -1}, 43, -66, -24);
            found(1, new int[] {90, 180, 0, 0}, 44, 23, 66);
        });
        CHECK.sentence("if for each FIND there is .. a SHADOW at that very point", () -> {
            GnomonYard yard = new GnomonYard();
            yard.find(180, 180, -2, 1);
            fits(yard, 10, -45, 3, 9, 38, 46);
            yard.find(60, 160, 0, 0);
            fits(yard, 10, -45, 3, 3, 38, 40);
            yard.find(180, 180, -2, 2);
            fits(yard, 10, -45, 3, 0);
        });
        CHECK.sentence("for each FIND: the last of 6 counts, and the first", () -> {
            GnomonYard last = Yards.full();
            last.forget();
            for (int i = 1; i <= 5; i++) {
                last.find(180, 180, -2, 1);
            }
            last.find(180, 180, -3, 1);
            fits(last, 10, -45, 3, 0);
            GnomonYard first = new GnomonYard();
            first.find(180, 180, -2, 0);
            for (int i = 1; i <= 5; i++) {
                first.find(180, 180, -2, 1);
            }
            fits(first, 10, -45, 3, 0);
        });
        CHECK.sentence("a SHADOW at that very point: up to 9999 and down to -9999", () -> {
            found(154, new int[] {0, 91, 9999, 71}, 1, 25, 25);
            found(147, new int[] {0, 269, -9999, 85}, 1, 30, 30);
            found(390, new int[] {270, 165, 2471, 9999}, 1, 64, 64);
            found(118, new int[] {90, 160, 3330, -9999}, 1, -65, -65);
        });
        CHECK.sentence("there is a SHADOW: none at night", () -> {
            found(1, new int[] {0, 0, 0, 0}, 0);
            found(1, new int[] {0, 359, 0, 0}, 0);
        });
        CHECK.sentence("fits, IllegalStateException if none does, and what is above 0", () -> {
            GnomonYard yard = Yards.full();
            CHECK.due(0, "how many", () -> yard.fits(0, 0, 1, 0));
            CHECK.notNow("the lowest", () -> yard.fits(0, 0, 1, 1));
            CHECK.notNow("the greatest", () -> yard.fits(0, 0, 1, 2));
        });
    }
}
