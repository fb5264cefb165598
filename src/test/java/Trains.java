/** Trains to begin a test with, and what brings them into the state that it needs. */
final class Trains {
    static final int ALL = 65535;

    private Trains() {
    }

    /** A new train with sorters, each told as pace and set of towns. */
    static NightSorters with(int[]... sorters) {
        NightSorters train = new NightSorters();
        for (int[] sorter : sorters) {
            train.hire(sorter[0], sorter[1]);
        }
        return train;
    }

    static int[] sorter(int pace, int towns) {
        return new int[] {pace, towns};
    }

    static void post(NightSorters train, int station, int... towns) {
        for (int town : towns) {
            train.post(station, town);
        }
    }

    static void postMany(NightSorters train, int station, int town, int letters) {
        for (int letter = 0; letter < letters; letter++) {
            train.post(station, town);
        }
    }

    /** Lets minutes go by until it is this one. */
    static void to(NightSorters train, int minute) {
        while (train.count(0) < minute) {
            train.pass(Math.min(300, minute - train.count(0)));
        }
    }

    /** Station 0 in the minute 1, the others as late as they can be: a long night between them. */
    static void leaveALongNight(NightSorters train) {
        for (int station = 7; station >= 1; station--) {
            train.setStation(station, 992 + station, 0);
        }
        train.setStation(0, 1, 0);
    }
}
