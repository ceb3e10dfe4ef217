/** All promises: long runs of mixed calls, right and wrong ones, compared with the Oracle. */
public final class OracleTest {
    private static final int RUNS = 150;
    private static final int CALLS = 512;
    private static final int KINDS = 23;
    private static final Check CHECK = new Check("OracleTest");

    private final GnomonYard yard = new GnomonYard();
    private final Oracle oracle = new Oracle();
    private long seed;

    private OracleTest(long seed) {
        this.seed = seed * 7919 + 17;
    }

    public static void main(String[] args) {
        constants();
        for (int run = 0; run < RUNS; run++) {
            new OracleTest(run).run(run);
        }
        CHECK.end();
    }

    /** Every angle of some turns, and every day. */
    private static void constants() {
        GnomonYard yard = new GnomonYard();
        Oracle oracle = new Oracle();
        for (int angle = -800; angle <= 800; angle++) {
            int a = angle;
            CHECK.due(oracle.sine(a), "sine(" + a + ")", () -> yard.sine(a));
        }
        for (int day = 0; day < 360; day++) {
            int d = day;
            CHECK.due(oracle.day(d, 0), "day(" + d + ", 0)", () -> yard.day(d, 0));
            CHECK.due(oracle.day(d, 1), "day(" + d + ", 1)", () -> yard.day(d, 1));
        }
    }

    /** Numbers that look mixed, but are the same in each run of this test. */
    private int next(int low, int high) {
        seed = seed * 6364136223846793005L + 1442695040888963407L;
        return low + (int) Math.floorMod(seed >>> 33, (long) high - low + 1);
    }

    /** Mostly within the range, often at an end of it, at times just beyond it. */
    private int about(int low, int high) {
        switch (next(0, 24)) {
            case 0:
                return low;
            case 1:
                return high;
            case 2:
                return next(0, 5) == 0 ? low - 1 : low;
            case 3:
                return next(0, 5) == 0 ? high + 1 : high;
            case 4:
                return next(0, 20) == 0 ? Integer.MIN_VALUE : next(low, high);
            case 5:
                return next(0, 20) == 0 ? Integer.MAX_VALUE : next(low, high);
            default:
                return next(low, high);
        }
    }

    private static String told(Check.Call call) {
        try {
            return String.valueOf(call.answer());
        } catch (RuntimeException thrown) {
            return "throws." + thrown.getClass().getSimpleName();
        }
    }

    private void same(String call, Check.Call got, Check.Call want) {
        String isGot = told(got);
        String isDue = told(want);
        CHECK.holds(isGot.equals(isDue), call + " answered " + isGot + ", due is " + isDue);
    }

    private void run(int run) {
        int mostPlaces = next(1, 9);
        int mostDials = next(1, 11);
        for (int call = 0; call < CALLS; call++) {
            int kind = call < mostPlaces ? 3 : call < mostPlaces + mostDials ? 8 : next(0, KINDS - 1);
            int a = next(0, 19) == 0 ? about(0, 9) : next(0, Math.max(0, mostDials - 2));
            int p = next(0, 19) == 0 ? about(0, 7) : next(0, Math.max(0, mostPlaces - 2));
            String name = "run " + run + ", call " + call + ", kind " + kind;
            if (kind < 9) {
                skyCall(name, kind, p);
            } else if (kind < 16) {
                dialCall(name, kind, a, p);
            } else {
                cutCall(name, kind, a, p);
            }
        }
    }

    private void skyCall(String name, int kind, int p) {
        int day = next(0, 3) == 0 ? 90 * next(0, 3) : about(0, 359);
        int tick = about(0, 359);
        switch (kind) {
            case 0 -> {
                int angle = about(-100000, 100000);
                same(name, () -> yard.sine(angle), () -> oracle.sine(angle));
            }
            case 1 -> {
                int what = about(0, 1);
                same(name, () -> yard.day(day, what), () -> oracle.day(day, what));
            }
            case 2 -> {
                int latitude = about(-66, 66);
                int what = about(0, 2);
                same(name, () -> yard.sun(latitude, day, tick, what),
                        () -> oracle.sun(latitude, day, tick, what));
            }
            case 3 -> {
                int latitude = about(-66, 66);
                int meridian = about(-720, 720);
                same(name, () -> yard.place(latitude, meridian),
                        () -> oracle.place(latitude, meridian));
            }
            case 4 -> {
                int what = about(0, 2);
                same(name, () -> yard.light(p, day, what), () -> oracle.light(p, day, what));
            }
            case 5 -> same(name, () -> yard.lightAnew(p, day), () -> oracle.lightAnew(p, day));
            case 6 -> {
                int what = about(0, 3);
                same(name, () -> yard.hour(p, day, tick, what), () -> oracle.hour(p, day, tick, what));
            }
            case 7 -> {
                int to = next(0, 4) == 0 ? GnomonYard.NONE : about(Math.max(0, Math.min(day, 359)), 359);
                same(name, () -> {
                    yard.summer(day, to);
                    return 0;
                }, () -> oracle.summer(day, to));
            }
            default -> {
                int tilt = about(0, 90);
                int facing = about(-180, 180);
                int rod = next(0, 3) == 0 ? next(1, 9) : about(1, 500);
                same(name, () -> yard.dial(p, tilt, facing, rod),
                        () -> oracle.dial(p, tilt, facing, rod));
            }
        }
    }

    private void dialCall(String name, int kind, int a, int p) {
        int day = next(0, 3) == 0 ? 90 * next(0, 3) : about(0, 359);
        int tick = next(0, 2) == 0 ? about(0, 359) : next(120, 240);
        int what = about(0, kind == 12 ? 4 : 1);
        int facing = about(-180, 180);
        switch (kind) {
            case 9 -> {
                int tilt = about(0, 90);
                same(name, () -> yard.stand(a, p, tilt, facing), () -> oracle.stand(a, p, tilt, facing));
            }
            case 10 -> same(name, () -> yard.shadow(a, day, tick, what == 1),
                    () -> oracle.shadow(a, day, tick, what == 1));
            case 11 -> same(name, () -> yard.blur(a, day, tick), () -> oracle.blur(a, day, tick));
            case 12 -> {
                int hour = next(0, 2) == 0 ? about(1, 23) : next(8, 16);
                same(name, () -> yard.line(a, hour, what), () -> oracle.line(a, hour, what));
            }
            case 13 -> {
                int x = next(0, 2) == 0 ? about(-9999, 9999) : next(-300, 300);
                int y = next(0, 2) == 0 ? about(-9999, 9999) : next(-300, 300);
                same(name, () -> yard.read(a, x, y, day), () -> oracle.read(a, x, y, day));
            }
            case 14 -> same(name, () -> yard.tells(a, day, tick), () -> oracle.tells(a, day, tick));
            default -> same(name, () -> yard.worst(a, day, what), () -> oracle.worst(a, day, what));
        }
    }

    private void cutCall(String name, int kind, int a, int p) {
        int tilt = about(0, 90);
        int facing = about(-180, 180);
        int rod = next(1, 3) == 1 ? about(1, 500) : next(1, 5);
        switch (kind) {
            case 16 -> {
                if (next(0, 9) == 0) {
                    same(name, () -> yard.best(a, p, facing), () -> oracle.best(a, p, facing));
                }
            }
            case 17 -> {
                int hour = next(0, 2) == 0 ? about(1, 23) : next(9, 15);
                int slip = about(-50, 50);
                same(name, () -> yard.cut(a, hour, slip), () -> oracle.cut(a, hour, slip));
            }
            case 18 -> same(name, () -> yard.lies(a), () -> oracle.lies(a));
            case 19 -> same(name, yard::cost, oracle::cost);
            case 20 -> findCall(name, tilt, facing, rod);
            case 21 -> {
                same(name, yard::forget, oracle::forget);
                findCall(name, tilt, facing, rod);
            }
            default -> fitsCalls(name, tilt, facing, rod);
        }
    }

    /** A find that a dial really makes, so that some latitudes fit, and what fits then. */
    private void findCall(String name, int tilt, int facing, int rod) {
        int day = about(0, 359);
        int tick = next(0, 4) == 0 ? about(0, 359) : next(150, 210);
        int[] point = shadowOf(next(-60, 60), tilt, facing, rod, day, tick);
        int x = next(0, 9) == 0 ? about(-9999, 9999) : point[0];
        int y = next(0, 9) == 0 ? about(-9999, 9999) : point[1];
        same(name, () -> yard.find(day, tick, x, y), () -> oracle.find(day, tick, x, y));
        fitsCalls(name, tilt, facing, rod);
    }

    private static int[] shadowOf(int p, int tilt, int facing, int rod, int day, int tick) {
        Oracle other = new Oracle();
        try {
            other.place(p, 0);
            other.dial(0, tilt, facing, rod);
            return new int[] {other.shadow(0, day, tick, false), other.shadow(0, day, tick, true)};
        } catch (RuntimeException thrown) {
            return new int[] {0, 0};
        }
    }

    private void fitsCalls(String name, int tilt, int facing, int rod) {
        for (int i = 0; i < 3; i++) {
            int what = next(0, 29) == 0 ? about(0, 2) : i;
            same(name + ", fits " + what, () -> yard.fits(tilt, facing, rod, what),
                    () -> oracle.fits(tilt, facing, rod, what));
        }
    }
}
