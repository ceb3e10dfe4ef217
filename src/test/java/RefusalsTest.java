import java.util.function.Supplier;

/**
 * "When a call throws, nothing has changed; of several exceptions it is the first one of the throws
 * clause": a test of its own for each method that throws.
 */
public final class RefusalsTest {
    private static final Check CHECK = new Check("RefusalsTest");
    private static final Class<IndexOutOfBoundsException> INDEX = IndexOutOfBoundsException.class;
    private static final Class<IllegalArgumentException> ARGUMENT = IllegalArgumentException.class;
    private static final Class<IllegalStateException> STATE = IllegalStateException.class;

    private interface YardCall {
        Number answer(GnomonYard yard);
    }

    public static void main(String[] args) {
        unchangedSky();
        unchangedPlaces();
        unchangedDials();
        unchangedReadings();
        unchangedCutsAndFinds();
        firstOfPlaces();
        firstOfDials();
        firstOfReadings();
        firstOfCutsAndFinds();
        CHECK.end();
    }

    /** 2 PLACES, 2 DIALS, 1 of them set elsewhere, a cut LINE, 2 FINDS that none FITS, a SUMMER. */
    private static GnomonYard some() {
        GnomonYard yard = Yards.at(51, 0);
        yard.dial(0, 40, 20, 100);
        yard.dial(1, 0, 0, 1);
        yard.stand(0, 1, 10, 0);
        yard.cut(0, 12, -7);
        yard.find(180, 180, -2, 1);
        yard.find(180, 180, -2, 2);
        yard.summer(45, 90);
        return yard;
    }

    // All that a yard can tell of its state.

    private static void tell(StringBuilder told, GnomonYard yard, YardCall call) {
        try {
            told.append(call.answer(yard));
        } catch (RuntimeException thrown) {
            told.append(thrown.getClass().getSimpleName());
        }
        told.append(' ');
    }

    private static String stateOf(GnomonYard yard) {
        StringBuilder told = new StringBuilder();
        for (int i = 0; i <= 8; i++) {
            int place = i;
            tell(told, yard, y -> y.hour(place, 300, 100, 3));
            tell(told, yard, y -> y.light(place, 90, 2));
        }
        for (int day : new int[] {0, 44, 45, 90, 91, 359}) {
            tell(told, yard, y -> y.hour(0, day, 180, 3));
        }
        tell(told, yard, GnomonYard::cost);
        for (int what = 0; what <= 2; what++) {
            int asked = what;
            tell(told, yard, y -> y.fits(10, -45, 3, asked));
        }
        for (int dial = 0; dial <= 10; dial++) {
            dialOf(told, yard, dial);
        }
        changesOf(told, yard);
        return told.toString();
    }

    private static void dialOf(StringBuilder told, GnomonYard yard, int dial) {
        tell(told, yard, y -> y.shadow(dial, 0, 150, false));
        tell(told, yard, y -> y.shadow(dial, 270, 180, true));
        tell(told, yard, y -> y.line(dial, 13, 3));
        tell(told, yard, y -> y.read(dial, -40, 40, 270));
        tell(told, yard, y -> y.lies(dial));
        tell(told, yard, y -> y.stand(dial, 0, 20, 0));
        for (int hour = 9; hour <= 15; hour++) {
            int asked = hour;
            tell(told, yard, y -> y.cut(dial, asked, 0));
        }
        tell(told, yard, y -> y.lies(dial));
    }

    private static void changesOf(StringBuilder told, GnomonYard yard) {
        tell(told, yard, GnomonYard::cost);
        tell(told, yard, y -> y.find(0, 0, 0, 0));
        tell(told, yard, GnomonYard::forget);
        tell(told, yard, y -> y.place(0, 0));
        tell(told, yard, y -> y.dial(0, 0, 0, 1));
    }

    // When a call throws, nothing has changed.

    private static void unchanged(Class<? extends RuntimeException> thrown, String call,
            Supplier<GnomonYard> begin, YardCall... calls) {
        CHECK.sentence("nothing has changed: " + thrown.getSimpleName() + " of " + call, () -> {
            for (int i = 0; i < calls.length; i++) {
                YardCall refused = calls[i];
                GnomonYard yard = begin.get();
                CHECK.refused(thrown, "call " + i, () -> refused.answer(yard));
                String before = stateOf(begin.get());
                String after = stateOf(yard);
                CHECK.holds(after.equals(before),
                        "call " + i + " left\n  " + after + "\n  where there was\n  " + before);
            }
        });
    }

    private static void unchangedSky() {
        unchanged(ARGUMENT, "sine", RefusalsTest::some, y -> y.sine(100001));
        unchanged(ARGUMENT, "day", RefusalsTest::some, y -> y.day(360, 0), y -> y.day(0, 2));
        unchanged(ARGUMENT, "sun", RefusalsTest::some,
                y -> y.sun(67, 0, 0, 0), y -> y.sun(0, 360, 0, 0), y -> y.sun(0, 0, 360, 0),
                y -> y.sun(0, 0, 0, 3));
    }

    private static void unchangedPlaces() {
        unchanged(ARGUMENT, "place", RefusalsTest::some,
                y -> y.place(67, 0), y -> y.place(-67, 0), y -> y.place(0, 721),
                y -> y.place(0, -721));
        unchanged(STATE, "place", Yards::full, y -> y.place(66, 720));
        unchanged(INDEX, "light", RefusalsTest::some, y -> y.light(2, 0, 0));
        unchanged(ARGUMENT, "light", RefusalsTest::some,
                y -> y.light(0, 360, 0), y -> y.light(0, 0, 3));
        unchanged(INDEX, "lightAnew", RefusalsTest::some, y -> y.lightAnew(2, 0));
        unchanged(ARGUMENT, "lightAnew", RefusalsTest::some, y -> y.lightAnew(0, 360));
        unchanged(INDEX, "hour", RefusalsTest::some, y -> y.hour(2, 0, 0, 0));
        unchanged(ARGUMENT, "hour", RefusalsTest::some,
                y -> y.hour(0, 360, 0, 0), y -> y.hour(0, 0, 360, 0), y -> y.hour(0, 0, 0, 4));
        unchanged(ARGUMENT, "summer", RefusalsTest::some,
                y -> Yards.summer(y, 100, 99), y -> Yards.summer(y, -1, 359),
                y -> Yards.summer(y, 0, 360), y -> Yards.summer(y, 0, -2),
                y -> Yards.summer(y, 360, -1), y -> Yards.summer(y, -1, -1));
    }

    private static void unchangedDials() {
        unchanged(INDEX, "dial", RefusalsTest::some,
                y -> y.dial(2, 0, 0, 1), y -> y.dial(-1, 0, 0, 1));
        unchanged(ARGUMENT, "dial", RefusalsTest::some,
                y -> y.dial(0, 91, 0, 1), y -> y.dial(0, 0, 181, 1), y -> y.dial(0, 0, 0, 0),
                y -> y.dial(0, 0, 0, 501));
        unchanged(STATE, "dial", Yards::full, y -> y.dial(0, 90, 180, 500));
        unchanged(INDEX, "stand", RefusalsTest::some,
                y -> y.stand(2, 0, 0, 0), y -> y.stand(0, 2, 0, 0), y -> y.stand(0, -1, 0, 0));
        unchanged(ARGUMENT, "stand", RefusalsTest::some,
                y -> y.stand(0, 0, 91, 0), y -> y.stand(0, 0, -1, 0), y -> y.stand(0, 0, 0, 181),
                y -> y.stand(0, 0, 0, -181));
        unchanged(INDEX, "shadow", RefusalsTest::some, y -> y.shadow(2, 0, 180, true));
        unchanged(ARGUMENT, "shadow", RefusalsTest::some,
                y -> y.shadow(0, 360, 0, true), y -> y.shadow(0, 0, 360, true));
        unchanged(STATE, "shadow", RefusalsTest::some, y -> y.shadow(0, 0, 0, true));
        unchanged(INDEX, "blur", RefusalsTest::some, y -> y.blur(2, 0, 180));
        unchanged(ARGUMENT, "blur", RefusalsTest::some,
                y -> y.blur(0, 360, 0), y -> y.blur(0, 0, 360));
        unchanged(STATE, "blur", RefusalsTest::some, y -> y.blur(0, 0, 0));
        unchanged(INDEX, "line", RefusalsTest::some, y -> y.line(2, 12, 0));
        unchanged(ARGUMENT, "line", RefusalsTest::some,
                y -> y.line(0, 24, 0), y -> y.line(0, 12, 5));
        unchanged(STATE, "line", RefusalsTest::some, y -> y.line(0, 8, 1));
    }

    private static void unchangedReadings() {
        unchanged(INDEX, "read", RefusalsTest::some, y -> y.read(2, 0, 0, 0));
        unchanged(ARGUMENT, "read", RefusalsTest::some,
                y -> y.read(0, 10000, 0, 0), y -> y.read(0, 0, 10000, 0), y -> y.read(0, 0, 0, 360));
        unchanged(INDEX, "tells", RefusalsTest::some, y -> y.tells(2, 0, 0));
        unchanged(ARGUMENT, "tells", RefusalsTest::some,
                y -> y.tells(0, 360, 0), y -> y.tells(0, 0, 360));
        unchanged(INDEX, "worst", RefusalsTest::some, y -> y.worst(2, 0, 0));
        unchanged(ARGUMENT, "worst", RefusalsTest::some,
                y -> y.worst(0, 360, 0), y -> y.worst(0, 0, 2));
        unchanged(INDEX, "best", RefusalsTest::some,
                y -> y.best(2, 0, 0), y -> y.best(0, 2, 0));
        unchanged(ARGUMENT, "best", RefusalsTest::some, y -> y.best(0, 0, 181));
    }

    private static void unchangedCutsAndFinds() {
        unchanged(INDEX, "cut", RefusalsTest::some, y -> y.cut(2, 12, 0), y -> y.cut(-1, 12, 0));
        unchanged(ARGUMENT, "cut", RefusalsTest::some,
                y -> y.cut(0, 24, 0), y -> y.cut(0, 0, 50), y -> y.cut(0, 9, 51),
                y -> y.cut(0, 9, -51));
        unchanged(STATE, "cut", RefusalsTest::some,
                y -> y.cut(0, 12, 50), y -> y.cut(0, 8, 50), y -> y.cut(0, 1, -50));
        unchanged(INDEX, "lies", RefusalsTest::some, y -> y.lies(2), y -> y.lies(-1));
        unchanged(ARGUMENT, "find", RefusalsTest::some,
                y -> y.find(360, 0, 0, 0), y -> y.find(0, 360, 0, 0), y -> y.find(0, 0, 10000, 0),
                y -> y.find(0, 0, 0, -10000));
        unchanged(STATE, "find", Yards::full, y -> y.find(0, 0, 0, 0));
        unchanged(ARGUMENT, "fits", RefusalsTest::some,
                y -> y.fits(91, 0, 1, 0), y -> y.fits(0, 181, 1, 0), y -> y.fits(0, 0, 501, 0),
                y -> y.fits(0, 0, 1, 3));
        unchanged(STATE, "fits", RefusalsTest::some,
                y -> y.fits(10, -45, 3, 1), y -> y.fits(10, -45, 3, 2));
    }

    // Of several exceptions it is the first one of the throws clause.

    private static void first(Class<? extends RuntimeException> thrown, String call,
            Supplier<GnomonYard> begin, YardCall... calls) {
        CHECK.sentence("the first one of the throws clause: " + call, () -> {
            for (int i = 0; i < calls.length; i++) {
                YardCall refused = calls[i];
                CHECK.refused(thrown, "call " + i, () -> refused.answer(begin.get()));
            }
        });
    }

    private static void firstOfPlaces() {
        first(ARGUMENT, "place", Yards::full,
                y -> y.place(67, 0), y -> y.place(-67, 0), y -> y.place(0, 721),
                y -> y.place(0, -721));
        first(INDEX, "light", RefusalsTest::some,
                y -> y.light(2, 360, 0), y -> y.light(-1, -1, 0), y -> y.light(2, 0, 3),
                y -> y.light(-1, 0, -1));
        first(INDEX, "lightAnew", RefusalsTest::some,
                y -> y.lightAnew(2, 360), y -> y.lightAnew(-1, -1));
        first(INDEX, "hour", RefusalsTest::some,
                y -> y.hour(2, 360, 0, 0), y -> y.hour(-1, -1, 0, 0), y -> y.hour(2, 0, 360, 0),
                y -> y.hour(2, 0, -1, 1), y -> y.hour(2, 0, 0, 4), y -> y.hour(-1, 0, 0, -1));
    }

    private static void firstOfDials() {
        first(INDEX, "dial, PLACE ahead of range", RefusalsTest::some,
                y -> y.dial(2, 91, 0, 1), y -> y.dial(-1, -1, 0, 1), y -> y.dial(2, 0, 181, 1),
                y -> y.dial(2, 0, 0, 0), y -> y.dial(2, 0, 0, 501));
        first(INDEX, "dial, PLACE ahead of there being 10", Yards::full,
                y -> y.dial(8, 0, 0, 1), y -> y.dial(-1, 91, 0, 1));
        first(ARGUMENT, "dial, range ahead of there being 10", Yards::full,
                y -> y.dial(0, 91, 0, 1), y -> y.dial(0, 0, -181, 1), y -> y.dial(0, 0, 0, 0),
                y -> y.dial(0, 0, 0, 501));
        first(INDEX, "stand, of the DIAL and PLACE", RefusalsTest::some,
                y -> y.stand(2, 0, 91, 0), y -> y.stand(-1, 0, 0, 181), y -> y.stand(0, 2, 91, 0),
                y -> y.stand(0, -1, 0, -181), y -> y.stand(2, 2, -1, 0));
        first(INDEX, "shadow, DIAL ahead of range", RefusalsTest::some,
                y -> y.shadow(2, 360, 0, true), y -> y.shadow(-1, 0, 360, false));
        first(ARGUMENT, "shadow, range ahead of there being none", RefusalsTest::some,
                y -> y.shadow(0, 360, 0, true), y -> y.shadow(0, 0, -1, false));
        first(INDEX, "blur, DIAL ahead of range", RefusalsTest::some,
                y -> y.blur(2, 360, 0), y -> y.blur(-1, 0, 360));
        first(ARGUMENT, "blur, range ahead of there being none", RefusalsTest::some,
                y -> y.blur(0, 360, 0), y -> y.blur(0, 0, -1));
        first(INDEX, "line, DIAL ahead of range", RefusalsTest::some,
                y -> y.line(2, 0, 0), y -> y.line(-1, 24, 1), y -> y.line(2, 12, 5));
        first(ARGUMENT, "line, range ahead of there being none", RefusalsTest::some,
                y -> y.line(0, 1, 5), y -> y.line(0, 8, -1), y -> y.line(0, 0, 1),
                y -> y.line(0, 24, 4));
    }

    private static void firstOfReadings() {
        first(INDEX, "read", RefusalsTest::some,
                y -> y.read(2, 10000, 0, 0), y -> y.read(-1, 0, -10000, 0),
                y -> y.read(2, 0, 0, 360));
        first(INDEX, "tells", RefusalsTest::some,
                y -> y.tells(2, 360, 0), y -> y.tells(-1, 0, 360));
        first(INDEX, "worst", RefusalsTest::some,
                y -> y.worst(2, 360, 0), y -> y.worst(-1, 0, 2));
        first(INDEX, "best, of the DIAL and PLACE", RefusalsTest::some,
                y -> y.best(2, 0, 181), y -> y.best(0, 2, -181), y -> y.best(-1, -1, 181));
    }

    private static void firstOfCutsAndFinds() {
        first(INDEX, "cut, DIAL ahead of range", RefusalsTest::some,
                y -> y.cut(2, 0, 0), y -> y.cut(-1, 24, 0), y -> y.cut(2, 12, 51));
        first(ARGUMENT, "cut, range ahead of its not being there", RefusalsTest::some,
                y -> y.cut(0, 0, 0), y -> y.cut(0, 24, 0), y -> y.cut(0, 8, 51),
                y -> y.cut(0, 1, -51));
        first(ARGUMENT, "cut, range ahead of its being cut", RefusalsTest::some,
                y -> y.cut(0, 12, 51), y -> y.cut(0, 12, -51));
        first(ARGUMENT, "find", Yards::full,
                y -> y.find(360, 0, 0, 0), y -> y.find(0, -1, 0, 0), y -> y.find(0, 0, 10000, 0),
                y -> y.find(0, 0, 0, -10000));
        first(ARGUMENT, "fits", RefusalsTest::some,
                y -> y.fits(91, 0, 1, 1), y -> y.fits(0, -181, 1, 2), y -> y.fits(0, 0, 0, 1),
                y -> y.fits(0, 0, 501, 2), y -> y.fits(10, -45, 3, 3), y -> y.fits(10, -45, 3, -1));
    }
}
