/**
 * Time from shadows: a sun by days and ticks, places, plates that lean and face any way with an
 * upright rod, shadows, lines of hours, dials that are read by the nearest shadow they were made
 * for, dials moved and set elsewhere, the error of a day and the tilt with the least of it, hours
 * of several kinds and clocks, cuts by a mason whose hand slips, and finds of which it is told at
 * what latitudes they were made.
 */
public final class GnomonYard {
    /** There is none. */
    public static final int NONE = -1;

    private static final int DAYS = 360;
    private static final int TICKS = 360;
    private static final int NOON = 180;
    private static final int TICKS_OF_AN_HOUR = 15;
    private static final int DAY_OF_BEGINNINGS = 90;
    private static final int DAY_OF_ENDS = 270;

    private static final int MOST_PLACES = 8;
    private static final int MOST_DIALS = 10;
    private static final int MOST_FINDS = 6;

    private static final int LARGEST_ANGLE = 100000;
    private static final int LARGEST_LATITUDE = 66;
    private static final int LARGEST_MERIDIAN = 720;
    private static final int LARGEST_TILT = 90;
    private static final int LARGEST_FACING = 180;
    private static final int LARGEST_ROD = 500;
    private static final int LARGEST_HOUR = 23;
    private static final int LARGEST_SLIP = 50;
    private static final int FARTHEST = 9999;

    private static final int MINUTES_OF_A_TICK = 4;
    private static final int MINUTES_OF_A_DAY = 1440;
    private static final int MINUTES_OF_SUMMER = 60;
    private static final int CENTS_OF_A_MILLIMETRE = 3;
    private static final int CENTS_OF_A_CUT = 50;

    private static final int[] DAYS_OF_TRIAL = {0, 90, 270};
    private static final int ERROR_OF_SILENCE = 180;

    // Above all distances between points, and above all that a trial's errors are together.
    private static final int MORE_THAN_ANY = 1000000;

    private final Place[] places = new Place[MOST_PLACES];
    private int placeCount;
    private final Dial[] dials = new Dial[MOST_DIALS];
    private int dialCount;
    private final Finds finds = new Finds();
    private int summerFrom;
    private int summerTo = NONE;
    private long cutsCost;

    // Made once and used again by every call: what calls leave in them is never looked at later.
    private final Sun sun = new Sun();
    private final Shadow shadow = new Shadow();
    private final Shadow beginning = new Shadow();
    private final Shadow end = new Shadow();
    private final Plate trial = new Plate();
    private final Trace trace = new Trace();
    private final Trace[] trialTraces = {new Trace(), new Trace(), new Trace()};

    public GnomonYard() {
    }

    // ---- angles, the sun

    /** Returns the SINE of an angle, -100000 to 100000. */
    public int sine(int angle) throws IllegalArgumentException {
        refuseUnless(isWithin(angle, -LARGEST_ANGLE, LARGEST_ANGLE));
        return sineOf(angle);
    }

    /** Tells of a day: 0 its SLANT, 1 by how many minutes it is LATE. */
    public int day(int day, int what) throws IllegalArgumentException {
        refuseUnless(isDay(day) && isWithin(what, 0, 1));
        return what == 0 ? slantOf(day) : lateOf(day);
    }

    /** Tells of the sun: 0 UP, 1 SOUTH, 2 WEST. */
    public long sun(int latitude, int day, int tick, int what) throws IllegalArgumentException {
        refuseUnless(isLatitude(latitude) && isDay(day) && isTick(tick) && isWithin(what, 0, 2));
        sun.startDay(latitude, day);
        sun.moveTo(tick);
        if (what == 0) {
            return sun.up;
        }
        return what == 1 ? sun.south : sun.west;
    }

    // ---- places, hours

    /** Adds a PLACE; returns its number. */
    public int place(int latitude, int meridian)
            throws IllegalArgumentException, IllegalStateException {
        refuseUnless(isLatitude(latitude)
                && isWithin(meridian, -LARGEST_MERIDIAN, LARGEST_MERIDIAN));
        if (placeCount >= places.length) {
            throw new IllegalStateException("there is no room for another PLACE");
        }
        places[placeCount] = new Place(latitude, meridian);
        placeCount++;
        return placeCount - 1;
    }

    /** Tells of a day at a PLACE: 0 the RISE, 1 the SET, 2 in how many ticks the sun SHINES. */
    public int light(int place, int day, int what)
            throws IndexOutOfBoundsException, IllegalArgumentException {
        Place where = placeAt(place);
        refuseUnless(isDay(day) && isWithin(what, 0, 2));
        if (what == 0) {
            return riseOf(where.latitude, day);
        }
        return what == 1 ? setOf(where.latitude, day) : brightTicksOf(where.latitude, day);
    }

    /** Returns in how many ticks the sun SHINES, found from the RISE alone. */
    public int lightAnew(int place, int day)
            throws IndexOutOfBoundsException, IllegalArgumentException {
        Place where = placeAt(place);
        refuseUnless(isDay(day));
        int rise = riseOf(where.latitude, day);
        if (rise == NONE) {
            return 0;
        }
        // The sun stands as high after noon as before it; the mirror of tick 0 is the next day's.
        int last = Math.min(2 * NOON - rise, TICKS - 1);
        return last - rise + 1;
    }

    /** Tells an hour of a tick: 0 UNEQUAL, 1 FROM RISE, 2 FROM SET, 3 what a clock shows. */
    public int hour(int place, int day, int tick, int what)
            throws IndexOutOfBoundsException, IllegalArgumentException {
        Place where = placeAt(place);
        refuseUnless(isDay(day) && isTick(tick) && isWithin(what, 0, 3));
        if (what == 3) {
            return clockOf(where, day, tick);
        }
        if (what == 2) {
            return hourFromSet(where.latitude, day, tick);
        }
        return what == 1 ? hourFromRise(where.latitude, day, tick)
                : unequalHour(where.latitude, day, tick);
    }

    /** Tells the SUMMER: from a day to another one, both with it; NONE for none at all. */
    public void summer(int from, int to) throws IllegalArgumentException {
        refuseUnless(isDay(from) && (to == NONE || isWithin(to, from, DAYS - 1)));
        summerFrom = from;
        summerTo = to;
    }

    // ---- dials

    /** Makes a DIAL; returns its number. */
    public int dial(int place, int tilt, int facing, int rod)
            throws IndexOutOfBoundsException, IllegalArgumentException, IllegalStateException {
        Place where = placeAt(place);
        refuseUnless(isTilt(tilt) && isFacing(facing) && isRod(rod));
        if (dialCount >= dials.length) {
            throw new IllegalStateException("there is no room for another DIAL");
        }
        Dial added = new Dial(place);
        added.made.set(where.latitude, tilt, facing, rod);
        added.standing.set(where.latitude, tilt, facing, rod);
        dials[dialCount] = added;
        dialCount++;
        return dialCount - 1;
    }

    /** Sets a DIAL; returns the PLACE where it stood. */
    public int stand(int dial, int place, int tilt, int facing)
            throws IndexOutOfBoundsException, IllegalArgumentException {
        Dial moved = dialAt(dial);
        Place where = placeAt(place);
        refuseUnless(isTilt(tilt) && isFacing(facing));
        int before = moved.standingPlace;
        moved.standingPlace = place;
        moved.standing.set(where.latitude, tilt, facing, moved.made.rod);
        return before;
    }

    /** Tells of a SHADOW, of a DIAL as it stands: its y or its x. */
    public int shadow(int dial, int day, int tick, boolean isY)
            throws IndexOutOfBoundsException, IllegalArgumentException, IllegalStateException {
        castStanding(dial, day, tick);
        return isY ? shadow.y : shadow.x;
    }

    /** Returns how wide the edge of a SHADOW is, of a DIAL as it stands. */
    public float blur(int dial, int day, int tick)
            throws IndexOutOfBoundsException, IllegalArgumentException, IllegalStateException {
        Plate plate = castStanding(dial, day, tick);
        int together = Math.abs(shadow.x) + Math.abs(shadow.y) + plate.rod;
        return (float) together / 107f;
    }

    /**
     * Tells of the LINE of an hour, as it was made: 0 whether it is there, 1 and 2 the x and y of
     * its beginning, 3 and 4 those of its end.
     */
    public int line(int dial, int hour, int what)
            throws IndexOutOfBoundsException, IllegalArgumentException, IllegalStateException {
        Dial asked = dialAt(dial);
        refuseUnless(isHour(hour) && isWithin(what, 0, 4));
        boolean isThere = drawLine(asked.made, hour);
        if (what == 0) {
            return isThere ? 1 : 0;
        }
        if (!isThere) {
            throw new IllegalStateException("the LINE is not there");
        }
        Shadow asFar = what <= 2 ? beginning : end;
        return what % 2 == 1 ? asFar.x : asFar.y;
    }

    /** Returns as what a point is READ. */
    public int read(int dial, int x, int y, int day)
            throws IndexOutOfBoundsException, IllegalArgumentException {
        Dial asked = dialAt(dial);
        refuseUnless(isOnPlate(x) && isOnPlate(y) && isDay(day));
        trace.draw(asked.made, day, sun, shadow);
        return trace.nearest(x, y);
    }

    /** Returns what a DIAL TELLS. */
    public int tells(int dial, int day, int tick)
            throws IndexOutOfBoundsException, IllegalArgumentException {
        Dial asked = dialAt(dial);
        refuseUnless(isDay(day) && isTick(tick));
        trace.draw(asked.made, day, sun, shadow);
        sun.startDay(asked.standing.latitude, day);
        return toldIn(tick, asked.standing, trace);
    }

    /** Tells of the WORST of a day: 0 that ERROR, 1 the first tick in which it is so. */
    public int worst(int dial, int day, int what)
            throws IndexOutOfBoundsException, IllegalArgumentException {
        Dial asked = dialAt(dial);
        refuseUnless(isDay(day) && isWithin(what, 0, 1));
        trace.draw(asked.made, day, sun, shadow);
        sun.startDay(asked.standing.latitude, day);
        int greatest = NONE;
        int first = NONE;
        for (int tick = 0; tick < TICKS; tick++) {
            int told = toldIn(tick, asked.standing, trace);
            if (told != NONE && Math.abs(told - tick) > greatest) {
                greatest = Math.abs(told - tick);
                first = tick;
            }
        }
        return what == 0 ? greatest : first;
    }

    /** Returns the BEST TILT of a DIAL at a PLACE, with a facing. */
    public int best(int dial, int place, int facing)
            throws IndexOutOfBoundsException, IllegalArgumentException {
        Dial asked = dialAt(dial);
        Place where = placeAt(place);
        refuseUnless(isFacing(facing));
        drawTrialTraces(asked.made);
        int least = MORE_THAN_ANY;
        int bestTilt = 0;
        for (int tilt = 0; tilt <= LARGEST_TILT; tilt++) {
            trial.set(where.latitude, tilt, facing, asked.made.rod);
            int errors = errorsOfTrial(least);
            if (errors < least) {
                least = errors;
                bestTilt = tilt;
            }
        }
        return bestTilt;
    }

    // ---- cuts, finds

    /** Lets a mason cut the LINE of an hour; returns what it costs. */
    public int cut(int dial, int hour, int slip)
            throws IndexOutOfBoundsException, IllegalArgumentException, IllegalStateException {
        Dial asked = dialAt(dial);
        refuseUnless(isHour(hour) && isWithin(slip, -LARGEST_SLIP, LARGEST_SLIP));
        if (asked.isCut(hour) || !drawLine(asked.made, hour)) {
            throw new IllegalStateException("the LINE is not there, or was cut");
        }
        asked.markCut(hour, slip);
        // The slip moves both ends alike, so they stay as far apart as they were made.
        int apart = Math.abs(beginning.x - end.x) + Math.abs(beginning.y - end.y);
        int cents = CENTS_OF_A_MILLIMETRE * apart + CENTS_OF_A_CUT;
        cutsCost += cents;
        return cents;
    }

    /** Returns by how much a DIAL LIES. */
    public int lies(int dial) throws IndexOutOfBoundsException {
        return dialAt(dial).greatestSlip;
    }

    /** Returns what all cuts cost by now. */
    public long cost() {
        return cutsCost;
    }

    /** Tells a FIND; returns how many there are then. */
    public int find(int day, int tick, int x, int y)
            throws IllegalArgumentException, IllegalStateException {
        refuseUnless(isDay(day) && isTick(tick) && isOnPlate(x) && isOnPlate(y));
        if (finds.count >= MOST_FINDS) {
            throw new IllegalStateException("there is no room for another FIND");
        }
        finds.add(day, tick, x, y);
        return finds.count;
    }

    /** Forgets all FINDS; returns how many there were. */
    public int forget() {
        int before = finds.count;
        finds.count = 0;
        return before;
    }

    /** Tells of latitudes that FIT: 0 how many do, 1 the lowest, 2 the greatest. */
    public int fits(int tilt, int facing, int rod, int what)
            throws IllegalArgumentException, IllegalStateException {
        refuseUnless(isTilt(tilt) && isFacing(facing) && isRod(rod) && isWithin(what, 0, 2));
        int count = 0;
        int lowest = 0;
        int greatest = 0;
        for (int latitude = -LARGEST_LATITUDE; latitude <= LARGEST_LATITUDE; latitude++) {
            trial.set(latitude, tilt, facing, rod);
            if (finds.areAllOf(trial, sun, shadow)) {
                lowest = count == 0 ? latitude : lowest;
                greatest = latitude;
                count++;
            }
        }
        if (what == 0) {
            return count;
        }
        if (count == 0) {
            throw new IllegalStateException("no latitude FITS");
        }
        return what == 1 ? lowest : greatest;
    }

    // What calls may ask for.

    private static boolean isWithin(int number, int low, int high) {
        return number >= low && number <= high;
    }

    private static boolean isDay(int number) {
        return isWithin(number, 0, DAYS - 1);
    }

    private static boolean isTick(int number) {
        return isWithin(number, 0, TICKS - 1);
    }

    private static boolean isHour(int number) {
        return isWithin(number, 1, LARGEST_HOUR);
    }

    private static boolean isLatitude(int number) {
        return isWithin(number, -LARGEST_LATITUDE, LARGEST_LATITUDE);
    }

    private static boolean isTilt(int number) {
        return isWithin(number, 0, LARGEST_TILT);
    }

    private static boolean isFacing(int number) {
        return isWithin(number, -LARGEST_FACING, LARGEST_FACING);
    }

    private static boolean isRod(int number) {
        return isWithin(number, 1, LARGEST_ROD);
    }

    private static boolean isOnPlate(long number) {
        return number >= -FARTHEST && number <= FARTHEST;
    }

    private static void refuseUnless(boolean isInRange) throws IllegalArgumentException {
        if (!isInRange) {
            throw new IllegalArgumentException("an argument is out of its range");
        }
    }

    private Place placeAt(int number) throws IndexOutOfBoundsException {
        Place found = number >= 0 && number < placeCount && number < places.length
                ? places[number] : null;
        if (found == null) {
            throw new IndexOutOfBoundsException("there is no such PLACE");
        }
        return found;
    }

    private Dial dialAt(int number) throws IndexOutOfBoundsException {
        Dial found = number >= 0 && number < dialCount && number < dials.length
                ? dials[number] : null;
        if (found == null) {
            throw new IndexOutOfBoundsException("there is no such DIAL");
        }
        return found;
    }

    // Angles, the year.

    private static int arcOf(int angle) {
        int m = angle * (180 - angle);
        int divisor = 40500 - m;
        // From 0 to 180 nothing here is below 0, so that cutting rounds down, too.
        return divisor > 0 ? 4000 * m / divisor : 0;
    }

    private static int sineOf(int angle) {
        int rest = Math.floorMod(angle, 360);
        return rest <= 180 ? arcOf(rest) : -arcOf(rest - 180);
    }

    private static int cosineOf(int angle) {
        return sineOf(90 - angle);
    }

    private static int slantOf(int day) {
        // The one quotient of which it is told that it is cut, also below 0.
        return 23 * sineOf(day) / 1000;
    }

    private static int lateOf(int day) {
        return Math.floorDiv(10 * sineOf(2 * day) - 8 * sineOf(day + 80), 1000);
    }

    // Light, hours, clocks.

    private boolean isBright(int latitude, int day, int tick) {
        sun.startDay(latitude, day);
        return sun.shinesIn(tick);
    }

    private int riseOf(int latitude, int day) {
        sun.startDay(latitude, day);
        for (int tick = 0; tick < TICKS; tick++) {
            if (sun.shinesIn(tick)) {
                return tick;
            }
        }
        return NONE;
    }

    private int setOf(int latitude, int day) {
        sun.startDay(latitude, day);
        for (int tick = TICKS - 1; tick >= 0; tick--) {
            if (sun.shinesIn(tick)) {
                return tick + 1;
            }
        }
        return NONE;
    }

    private int brightTicksOf(int latitude, int day) {
        sun.startDay(latitude, day);
        int count = 0;
        for (int tick = 0; tick < TICKS; tick++) {
            if (sun.shinesIn(tick)) {
                count++;
            }
        }
        return count;
    }

    private int unequalHour(int latitude, int day, int tick) {
        int rise = riseOf(latitude, day);
        int brightSpan = setOf(latitude, day) - rise;
        if (brightSpan <= 0 || !isBright(latitude, day, tick)) {
            return NONE;
        }
        return Math.floorDiv(12 * (tick - rise), brightSpan);
    }

    private int hourFromRise(int latitude, int day, int tick) {
        return isBright(latitude, day, tick) ? tick - riseOf(latitude, day) : NONE;
    }

    private int hourFromSet(int latitude, int day, int tick) {
        int set = setOf(latitude, day);
        return set == NONE ? NONE : Math.floorMod(tick - set + TICKS, TICKS);
    }

    private int clockOf(Place where, int day, int tick) {
        int minutes = MINUTES_OF_A_TICK * tick + lateOf(day) - where.meridian;
        if (isWithin(day, summerFrom, summerTo)) {
            minutes += MINUTES_OF_SUMMER;
        }
        return Math.floorMod(minutes, MINUTES_OF_A_DAY);
    }

    // Shadows, lines, readings.

    private void castShadow(Shadow cast, Plate plate, int day, int tick) {
        sun.startDay(plate.latitude, day);
        sun.moveTo(tick);
        cast.fall(plate, sun);
    }

    /** Leaves the SHADOW of a DIAL as it stands in shadow; returns the plate that it falls on. */
    private Plate castStanding(int dial, int day, int tick)
            throws IndexOutOfBoundsException, IllegalArgumentException, IllegalStateException {
        Plate plate = dialAt(dial).standing;
        refuseUnless(isDay(day) && isTick(tick));
        castShadow(shadow, plate, day, tick);
        if (!shadow.isThere) {
            throw new IllegalStateException("there is no SHADOW");
        }
        return plate;
    }

    /** Leaves the ends of the LINE in beginning and end; returns whether it is there. */
    private boolean drawLine(Plate made, int hour) {
        int tick = TICKS_OF_AN_HOUR * hour;
        castShadow(beginning, made, DAY_OF_BEGINNINGS, tick);
        castShadow(end, made, DAY_OF_ENDS, tick);
        return beginning.isThere && end.isThere;
    }

    /** What a plate tells by a trace; the sun has the plate's latitude and the trace's day. */
    private int toldIn(int tick, Plate plate, Trace readBy) {
        sun.moveTo(tick);
        shadow.fall(plate, sun);
        return shadow.isThere ? readBy.nearest(shadow.x, shadow.y) : NONE;
    }

    private void drawTrialTraces(Plate made) {
        for (int i = 0; i < DAYS_OF_TRIAL.length && i < trialTraces.length; i++) {
            trialTraces[i].draw(made, DAYS_OF_TRIAL[i], sun, shadow);
        }
    }

    /** The errors of the trial plate together; those that reach enough need not be told whole. */
    private int errorsOfTrial(int enough) {
        int errors = 0;
        for (Trace readBy : trialTraces) {
            sun.startDay(trial.latitude, readBy.day);
            for (int tick = 0; tick < TICKS && errors < enough; tick += TICKS_OF_AN_HOUR) {
                int told = toldIn(tick, trial, readBy);
                if (told != NONE) {
                    errors += Math.abs(told - tick);
                } else if (sun.shines()) {
                    errors += ERROR_OF_SILENCE;
                }
            }
        }
        return errors;
    }

    /** The sun of one latitude and day, moved from tick to tick. */
    private static final class Sun {
        private long sineLatitude;
        private long cosineLatitude;
        private long sineSlant;
        private long cosineSlant;
        private long up;
        private long south;
        private long west;

        void startDay(int latitude, int day) {
            int slant = slantOf(day);
            sineLatitude = sineOf(latitude);
            cosineLatitude = cosineOf(latitude);
            sineSlant = sineOf(slant);
            cosineSlant = cosineOf(slant);
        }

        void moveTo(int tick) {
            int turn = tick - NOON;
            long along = cosineSlant * cosineOf(turn);
            up = sineLatitude * sineSlant * 1000 + cosineLatitude * along;
            south = sineLatitude * along - cosineLatitude * sineSlant * 1000;
            west = cosineSlant * sineOf(turn) * 1000;
        }

        boolean shines() {
            return up > 0;
        }

        boolean shinesIn(int tick) {
            moveTo(tick);
            return shines();
        }
    }

    /** A latitude and a meridian. */
    private static final class Place {
        private final int latitude;
        private final int meridian;

        Place(int latitude, int meridian) {
            this.latitude = latitude;
            this.meridian = meridian;
        }
    }

    /** A plate with its rod, as it is set at a latitude. */
    private static final class Plate {
        private int latitude;
        private int rod;
        private long sineTilt;
        private long cosineTilt;
        private long sineFacing;
        private long cosineFacing;

        void set(int newLatitude, int tilt, int facing, int newRod) {
            latitude = newLatitude;
            rod = newRod;
            sineTilt = sineOf(tilt);
            cosineTilt = cosineOf(tilt);
            sineFacing = sineOf(facing);
            cosineFacing = cosineOf(facing);
        }
    }

    /** The shadow of a rod's end, if there is one. */
    private static final class Shadow {
        private boolean isThere;
        private int x;
        private int y;

        // With the greatest rod the products stay below 2.5e18: none of them wraps around.
        void fall(Plate plate, Sun sun) {
            isThere = false;
            if (!sun.shines()) {
                return;
            }
            long q = sun.south * plate.cosineFacing + sun.west * plate.sineFacing;
            long n = sun.up * plate.cosineTilt * 1000 + q * plate.sineTilt;
            if (n <= 0) {
                return;
            }
            long a = 1000 * (sun.west * plate.cosineFacing - sun.south * plate.sineFacing);
            long b = sun.up * plate.sineTilt * 1000 - q * plate.cosineTilt;
            long wholeX = Math.floorDiv(-plate.rod * a, n);
            long wholeY = Math.floorDiv(-plate.rod * b, n);
            if (isOnPlate(wholeX) && isOnPlate(wholeY)) {
                x = (int) wholeX;
                y = (int) wholeY;
                isThere = true;
            }
        }
    }

    /** All shadows of a plate on one day, by which points are read. */
    private static final class Trace {
        private final int[] ticks = new int[TICKS];
        private final int[] xs = new int[TICKS];
        private final int[] ys = new int[TICKS];
        private int count;
        private int day;

        void draw(Plate plate, int newDay, Sun sun, Shadow shadow) {
            day = newDay;
            count = 0;
            sun.startDay(plate.latitude, day);
            for (int tick = 0; tick < TICKS; tick++) {
                sun.moveTo(tick);
                shadow.fall(plate, sun);
                if (shadow.isThere) {
                    add(tick, shadow);
                }
            }
        }

        private void add(int tick, Shadow shadow) {
            if (count < TICKS) {
                ticks[count] = tick;
                xs[count] = shadow.x;
                ys[count] = shadow.y;
                count++;
            }
        }

        /** The first tick of those whose shadow is least far from the point. */
        int nearest(int x, int y) {
            int least = MORE_THAN_ANY;
            int found = NONE;
            for (int i = 0; i < count && i < TICKS; i++) {
                int distance = Math.abs(xs[i] - x) + Math.abs(ys[i] - y);
                if (distance < least) {
                    least = distance;
                    found = ticks[i];
                }
            }
            return found;
        }
    }

    /** A dial: its plate as it was made, its plate as it stands, and its cuts. */
    private static final class Dial {
        private final Plate made = new Plate();
        private final Plate standing = new Plate();
        private int standingPlace;
        private final boolean[] cutHours = new boolean[LARGEST_HOUR + 1];
        private int greatestSlip;

        Dial(int place) {
            standingPlace = place;
        }

        boolean isCut(int hour) {
            return hour >= 0 && hour < cutHours.length && cutHours[hour];
        }

        void markCut(int hour, int slip) {
            if (hour >= 0 && hour < cutHours.length) {
                cutHours[hour] = true;
                greatestSlip = Math.max(greatestSlip, Math.abs(slip));
            }
        }
    }

    /** Points told with a day and a tick. */
    private static final class Finds {
        private final int[] days = new int[MOST_FINDS];
        private final int[] ticks = new int[MOST_FINDS];
        private final int[] xs = new int[MOST_FINDS];
        private final int[] ys = new int[MOST_FINDS];
        private int count;

        void add(int day, int tick, int x, int y) {
            if (count >= 0 && count < MOST_FINDS) {
                days[count] = day;
                ticks[count] = tick;
                xs[count] = x;
                ys[count] = y;
                count++;
            }
        }

        /** Whether the plate has a shadow at the very point of each find. */
        boolean areAllOf(Plate plate, Sun sun, Shadow shadow) {
            for (int i = 0; i < count && i < MOST_FINDS; i++) {
                sun.startDay(plate.latitude, days[i]);
                sun.moveTo(ticks[i]);
                shadow.fall(plate, sun);
                if (!shadow.isThere || shadow.x != xs[i] || shadow.y != ys[i]) {
                    return false;
                }
            }
            return true;
        }
    }
}
