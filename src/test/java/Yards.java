/** Yards that tests begin with. */
final class Yards {
    private Yards() {
    }

    /** PLACES at these latitudes, with the meridian 0. */
    static GnomonYard at(int... latitudes) {
        GnomonYard yard = new GnomonYard();
        for (int latitude : latitudes) {
            yard.place(latitude, 0);
        }
        return yard;
    }

    /** One PLACE and one DIAL. */
    static GnomonYard withDial(int latitude, int tilt, int facing, int rod) {
        GnomonYard yard = at(latitude);
        yard.dial(0, tilt, facing, rod);
        return yard;
    }

    /** As many PLACES, DIALS and FINDS as there can be; 38 to 46 FIT a 10, -45, 3. */
    static GnomonYard full() {
        GnomonYard yard = at(51, -30, 0, 66, -66, 20, 45, 10);
        for (int i = 0; i < 10; i++) {
            yard.dial(i % 8, 40, 20, 100);
        }
        for (int i = 0; i < 6; i++) {
            yard.find(180, 180, -2, 1);
        }
        return yard;
    }

    /** A call without an answer, as one with the answer 0. */
    static int summer(GnomonYard yard, int from, int to) {
        yard.summer(from, to);
        return 0;
    }
}
