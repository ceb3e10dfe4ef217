import java.util.ArrayList;
import java.util.HashMap;
import java.util.HashSet;
import java.util.List;
import java.util.Map;
import java.util.Set;

/**
 * The document's words once more, as they stand there, without a thought for room or speed.
 * OracleTest compares the program's answers with these.
 */
final class Oracle {
    private static final int NONE = -1;

    private record Stand(int place, int tilt, int facing, int rod) {
    }

    private static final class Dial {
        Stand made;
        Stand stands;
        final Map<Integer, Integer> slips = new HashMap<>();
        final Map<Integer, int[][]> madeShadows = new HashMap<>();
    }

    private final List<int[]> places = new ArrayList<>();
    private final List<Dial> dials = new ArrayList<>();
    private final List<int[]> finds = new ArrayList<>();
    private final Set<Integer> summerDays = new HashSet<>();
    private long cost = 0;

    // The terms.

    private static long down(long number, long by) {
        long quotient = number / by;
        return number % by != 0 && (number < 0) != (by < 0) ? quotient - 1 : quotient;
    }

    private static long times(long... factors) {
        long product = 1;
        for (long factor : factors) {
            product = Math.multiplyExact(product, factor);
        }
        return product;
    }

    private static long sin(int angle) {
        int rest = angle % 360;
        rest = rest < 0 ? rest + 360 : rest;
        long half = rest <= 180 ? rest : rest - 180;
        long m = half * (180 - half);
        long arc = down(4000 * m, 40500 - m);
        return rest <= 180 ? arc : 0 - arc;
    }

    private static long cos(int angle) {
        return sin(90 - angle);
    }

    private static int slant(int day) {
        return (int) (23 * sin(day) / 1000);
    }

    private static int late(int day) {
        return (int) down(10 * sin(2 * day) - 8 * sin(day + 80), 1000);
    }

    private static long up(int p, int day, int tick) {
        int e = slant(day);
        return times(sin(p), sin(e), 1000) + times(cos(p), cos(e), cos(tick - 180));
    }

    private static long south(int p, int day, int tick) {
        int e = slant(day);
        return times(sin(p), cos(e), cos(tick - 180)) - times(cos(p), sin(e), 1000);
    }

    private static long west(int day, int tick) {
        return times(cos(slant(day)), sin(tick - 180), 1000);
    }

    private static List<Integer> bright(int p, int day) {
        List<Integer> ticks = new ArrayList<>();
        for (int tick = 0; tick < 360; tick++) {
            if (up(p, day, tick) > 0) {
                ticks.add(tick);
            }
        }
        return ticks;
    }

    private static int rise(int p, int day) {
        List<Integer> ticks = bright(p, day);
        return ticks.isEmpty() ? NONE : ticks.get(0);
    }

    private static int set(int p, int day) {
        List<Integer> ticks = bright(p, day);
        return ticks.isEmpty() ? NONE : ticks.get(ticks.size() - 1) + 1;
    }

    /** The x and y, or null for none. */
    private static int[] cast(int p, int t, int f, int r, int day, int tick) {
        long up = up(p, day, tick);
        long q = Math.addExact(times(south(p, day, tick), cos(f)), times(west(day, tick), sin(f)));
        long n = Math.addExact(times(up, cos(t), 1000), times(q, sin(t)));
        if (up <= 0 || n <= 0) {
            return null;
        }
        long a = times(1000, times(west(day, tick), cos(f)) - times(south(p, day, tick), sin(f)));
        long b = Math.subtractExact(times(up, sin(t), 1000), times(q, cos(t)));
        long x = down(0 - times(r, a), n);
        long y = down(0 - times(r, b), n);
        boolean isFar = x < -9999 || x > 9999 || y < -9999 || y > 9999;
        return isFar ? null : new int[] {(int) x, (int) y};
    }

    private int[] cast(Stand stand, int day, int tick) {
        return cast(places.get(stand.place)[0], stand.tilt, stand.facing, stand.rod, day, tick);
    }

    private int readAs(Dial dial, int x, int y, int day) {
        int[][] shadows = dial.madeShadows.computeIfAbsent(day, d -> {
            int[][] all = new int[360][];
            for (int tick = 0; tick < 360; tick++) {
                all[tick] = cast(dial.made, d, tick);
            }
            return all;
        });
        int found = NONE;
        long least = Long.MAX_VALUE;
        for (int tick = 0; tick < 360; tick++) {
            if (shadows[tick] != null) {
                long far = Math.abs((long) shadows[tick][0] - x) + Math.abs((long) shadows[tick][1] - y);
                if (far < least) {
                    least = far;
                    found = tick;
                }
            }
        }
        return found;
    }

    private int toldBy(Dial dial, Stand stand, int day, int tick) {
        int[] point = cast(stand, day, tick);
        return point == null ? NONE : readAs(dial, point[0], point[1], day);
    }

    private long errorsSet(Dial dial, Stand stand) {
        long errors = 0;
        for (int day : new int[] {0, 90, 270}) {
            for (int tick = 0; tick <= 345; tick += 15) {
                int told = toldBy(dial, stand, day, tick);
                if (told != NONE) {
                    errors += Math.abs(told - tick);
                } else if (up(places.get(stand.place)[0], day, tick) > 0) {
                    errors += 180;
                }
            }
        }
        return errors;
    }

    // What calls refuse.

    private static void in(int number, int low, int high) {
        if (number < low || number > high) {
            throw new IllegalArgumentException();
        }
    }

    private int[] place(int number) {
        if (number < 0 || number >= places.size()) {
            throw new IndexOutOfBoundsException();
        }
        return places.get(number);
    }

    private Dial dial(int number) {
        if (number < 0 || number >= dials.size()) {
            throw new IndexOutOfBoundsException();
        }
        return dials.get(number);
    }

    private static void unless(boolean isSo) {
        if (!isSo) {
            throw new IllegalStateException();
        }
    }

    // The calls.

    int sine(int angle) {
        in(angle, -100000, 100000);
        return (int) sin(angle);
    }

    int day(int day, int what) {
        in(day, 0, 359);
        in(what, 0, 1);
        return what == 0 ? slant(day) : late(day);
    }

    long sun(int latitude, int day, int tick, int what) {
        in(latitude, -66, 66);
        in(day, 0, 359);
        in(tick, 0, 359);
        in(what, 0, 2);
        return new long[] {up(latitude, day, tick), south(latitude, day, tick), west(day, tick)}[what];
    }

    int place(int latitude, int meridian) {
        in(latitude, -66, 66);
        in(meridian, -720, 720);
        unless(places.size() < 8);
        places.add(new int[] {latitude, meridian});
        return places.size() - 1;
    }

    int light(int place, int day, int what) {
        int[] at = place(place);
        in(day, 0, 359);
        in(what, 0, 2);
        return new int[] {rise(at[0], day), set(at[0], day), bright(at[0], day).size()}[what];
    }

    int lightAnew(int place, int day) {
        return light(place, day, 2);
    }

    int hour(int place, int day, int tick, int what) {
        int[] at = place(place);
        in(day, 0, 359);
        in(tick, 0, 359);
        in(what, 0, 3);
        int rise = rise(at[0], day);
        int set = set(at[0], day);
        boolean shines = up(at[0], day, tick) > 0;
        switch (what) {
            case 0:
                return shines ? (int) down(12 * (tick - rise), set - rise) : NONE;
            case 1:
                return shines ? tick - rise : NONE;
            case 2:
                return set == NONE ? NONE : (tick - set + 360) % 360;
            default:
                int minutes = 4 * tick + late(day) - at[1] + (summerDays.contains(day) ? 60 : 0);
                return ((minutes % 1440) + 1440) % 1440;
        }
    }

    int summer(int from, int to) {
        in(from, 0, 359);
        if (to != NONE) {
            in(to, from, 359);
        }
        summerDays.clear();
        for (int day = from; day <= to; day++) {
            summerDays.add(day);
        }
        return 0;
    }

    int dial(int place, int tilt, int facing, int rod) {
        place(place);
        in(tilt, 0, 90);
        in(facing, -180, 180);
        in(rod, 1, 500);
        unless(dials.size() < 10);
        Dial dial = new Dial();
        dial.made = new Stand(place, tilt, facing, rod);
        dial.stands = dial.made;
        dials.add(dial);
        return dials.size() - 1;
    }

    int stand(int dial, int place, int tilt, int facing) {
        Dial moved = dial(dial);
        place(place);
        in(tilt, 0, 90);
        in(facing, -180, 180);
        int before = moved.stands.place;
        moved.stands = new Stand(place, tilt, facing, moved.made.rod);
        return before;
    }

    int shadow(int dial, int day, int tick, boolean isY) {
        Dial asked = dial(dial);
        in(day, 0, 359);
        in(tick, 0, 359);
        int[] point = cast(asked.stands, day, tick);
        unless(point != null);
        return point[isY ? 1 : 0];
    }

    float blur(int dial, int day, int tick) {
        int x = shadow(dial, day, tick, false);
        int y = shadow(dial, day, tick, true);
        return (float) (Math.abs(x) + Math.abs(y) + dials.get(dial).made.rod) / 107f;
    }

    int line(int dial, int hour, int what) {
        Dial asked = dial(dial);
        in(hour, 1, 23);
        in(what, 0, 4);
        int[] from = cast(asked.made, 90, 15 * hour);
        int[] to = cast(asked.made, 270, 15 * hour);
        boolean isThere = from != null && to != null;
        if (what == 0) {
            return isThere ? 1 : 0;
        }
        unless(isThere);
        return new int[] {from[0], from[1], to[0], to[1]}[what - 1];
    }

    int read(int dial, int x, int y, int day) {
        Dial asked = dial(dial);
        in(x, -9999, 9999);
        in(y, -9999, 9999);
        in(day, 0, 359);
        return readAs(asked, x, y, day);
    }

    int tells(int dial, int day, int tick) {
        Dial asked = dial(dial);
        in(day, 0, 359);
        in(tick, 0, 359);
        return toldBy(asked, asked.stands, day, tick);
    }

    int worst(int dial, int day, int what) {
        Dial asked = dial(dial);
        in(day, 0, 359);
        in(what, 0, 1);
        Map<Integer, Integer> errors = new HashMap<>();
        int greatest = NONE;
        for (int tick = 0; tick < 360; tick++) {
            int told = toldBy(asked, asked.stands, day, tick);
            if (told != NONE) {
                errors.put(tick, Math.abs(told - tick));
                greatest = Math.max(greatest, Math.abs(told - tick));
            }
        }
        if (what == 0 || greatest == NONE) {
            return greatest;
        }
        int first = 0;
        while (errors.getOrDefault(first, NONE) != greatest) {
            first++;
        }
        return first;
    }

    int best(int dial, int place, int facing) {
        Dial asked = dial(dial);
        place(place);
        in(facing, -180, 180);
        int best = 0;
        long least = Long.MAX_VALUE;
        for (int tilt = 0; tilt <= 90; tilt++) {
            long errors = errorsSet(asked, new Stand(place, tilt, facing, asked.made.rod));
            if (errors < least) {
                least = errors;
                best = tilt;
            }
        }
        return best;
    }

    int cut(int dial, int hour, int slip) {
        Dial asked = dial(dial);
        in(hour, 1, 23);
        in(slip, -50, 50);
        unless(line(dial, hour, 0) == 1 && !asked.slips.containsKey(hour));
        asked.slips.put(hour, slip);
        int apart = Math.abs(line(dial, hour, 1) + slip - line(dial, hour, 3) - slip)
                + Math.abs(line(dial, hour, 2) - line(dial, hour, 4));
        cost += 3 * apart + 50;
        return 3 * apart + 50;
    }

    int lies(int dial) {
        int most = 0;
        for (int slip : dial(dial).slips.values()) {
            most = Math.max(most, Math.abs(slip));
        }
        return most;
    }

    long cost() {
        return cost;
    }

    int find(int day, int tick, int x, int y) {
        in(day, 0, 359);
        in(tick, 0, 359);
        in(x, -9999, 9999);
        in(y, -9999, 9999);
        unless(finds.size() < 6);
        finds.add(new int[] {day, tick, x, y});
        return finds.size();
    }

    int forget() {
        int before = finds.size();
        finds.clear();
        return before;
    }

    int fits(int tilt, int facing, int rod, int what) {
        in(tilt, 0, 90);
        in(facing, -180, 180);
        in(rod, 1, 500);
        in(what, 0, 2);
        List<Integer> fitting = new ArrayList<>();
        for (int latitude = -66; latitude <= 66; latitude++) {
            boolean isFitting = true;
            for (int[] find : finds) {
                int[] point = cast(latitude, tilt, facing, rod, find[0], find[1]);
                isFitting &= point != null && point[0] == find[2] && point[1] == find[3];
            }
            if (isFitting) {
                fitting.add(latitude);
            }
        }
        if (what == 0) {
            return fitting.size();
        }
        unless(!fitting.isEmpty());
        return what == 1 ? fitting.get(0) : fitting.get(fitting.size() - 1);
    }
}
