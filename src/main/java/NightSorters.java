/** Sorters of a night mail in a train: letters from bags are sorted into holes, and hooked out by towns. */
public final class NightSorters {
    private static final int STATIONS = 8;
    private static final int TOWNS = 16;
    private static final int TOWNS_A_STATION = 2;
    private static final int LETTERS = 60;
    private static final int SORTERS = 4;

    private static final int ALL_TOWNS = (1 << TOWNS) - 1;
    private static final int LAST_STATION_MINUTE = 999;
    private static final int MOST_JOLT = 3;
    private static final int MOST_PACE = 9;
    private static final int HOLE_ROOM = 8;
    private static final int MINUTES_TO_JOLT = 5;
    private static final int JOLT_TIRES = 3;
    private static final int TEA_SAVES = 2;
    private static final int TIRED_A_MINUTE = 5;

    private static final int LONGEST_PASS = 300;
    private static final int LONGEST_ADVICE = 120;
    private static final int NONE = -1;

    // Where a letter is; letter(), count() and foresee() tell these in this order.
    private static final int BAG = 0;
    private static final int TABLE = 1;
    private static final int HANDS = 2;
    private static final int HOLE = 3;
    private static final int DELIVERED = 4;
    private static final int LATE = 5;
    private static final int PLACES = 6;

    private static final int FIRST_PLACE_COUNT = 3;
    private static final int LAST_PLACE_COUNT = FIRST_PLACE_COUNT + PLACES - 1;
    private static final int COUNTS = 10;
    private static final int STATION_FACTS = 3;
    private static final int SORTER_FACTS = 7;
    private static final int LETTER_FACTS = 5;

    private final Train train;
    // Forecasts run on this second train, so that they change nothing and make no objects.
    private final Train trial;

    public NightSorters() {
        Line line = new Line();
        train = new Train(line);
        trial = new Train(line);
    }

    // ---- stations, letters, sorters

    public int setStation(int station, int minute, int jolt)
            throws IndexOutOfBoundsException, IllegalArgumentException, IllegalStateException {
        checkIndex(station, STATIONS);
        checkArgument(minute, 1, LAST_STATION_MINUTE);
        checkArgument(jolt, 0, MOST_JOLT);
        Line line = train.line;
        if (train.minute > line.minutes[station] || train.minute > minute || !line.wouldRise(station, minute)) {
            throw new IllegalStateException("the station is passed, or the minutes would not rise");
        }
        int before = 10 * line.minutes[station] + line.jolts[station];
        line.minutes[station] = minute;
        line.jolts[station] = jolt;
        return before;
    }

    public int post(int station, int town) throws IndexOutOfBoundsException, IllegalStateException {
        checkIndex(station, STATIONS);
        checkIndex(town, TOWNS);
        if (train.mail.size >= LETTERS) {
            throw new IllegalStateException("there is no room for another letter");
        }
        return train.mail.addToBag(station, town);
    }

    public int hire(int pace, int towns) throws IllegalArgumentException, IllegalStateException {
        checkArgument(pace, 1, MOST_PACE);
        checkArgument(towns, 0, ALL_TOWNS);
        if (train.crew.size >= SORTERS) {
            throw new IllegalStateException("there is no room for another sorter");
        }
        return train.crew.add(pace, towns);
    }

    public int assign(int sorter, int towns) throws IndexOutOfBoundsException, IllegalArgumentException {
        checkIndex(sorter, train.crew.size);
        checkArgument(towns, 0, ALL_TOWNS);
        int before = train.crew.towns[sorter];
        train.crew.towns[sorter] = towns;
        return before;
    }

    public int tea(int sorter) throws IndexOutOfBoundsException {
        checkIndex(sorter, train.crew.size);
        int before = train.crew.tired[sorter];
        train.crew.tired[sorter] = 0;
        train.crew.withTea[sorter] = 1;
        return before;
    }

    // ---- what is there

    public int letter(int letter, int what) throws IndexOutOfBoundsException {
        checkIndex(letter, train.mail.size);
        checkIndex(what, LETTER_FACTS);
        return train.mail.fact(letter, what);
    }

    public int sorter(int sorter, int what) throws IndexOutOfBoundsException {
        checkIndex(sorter, train.crew.size);
        checkIndex(what, SORTER_FACTS);
        return train.crew.fact(sorter, what);
    }

    public int hole(int town) throws IndexOutOfBoundsException {
        checkIndex(town, TOWNS);
        return train.mail.inHole[town];
    }

    public int station(int station, int what) throws IndexOutOfBoundsException {
        checkIndex(station, STATIONS);
        checkIndex(what, STATION_FACTS);
        switch (what) {
            case 0:
                return train.line.minutes[station];
            case 1:
                return train.line.jolts[station];
            default:
                return train.mail.lettersInBag(station);
        }
    }

    public int count(int what) throws IndexOutOfBoundsException {
        checkIndex(what, COUNTS);
        switch (what) {
            case 0:
                return train.minute;
            case 1:
                return train.mail.size;
            case 2:
                return train.crew.size;
            case 9:
                return train.line.nextFrom(train.minute);
            default:
                return train.mail.inPlace[what - FIRST_PLACE_COUNT];
        }
    }

    // ---- minutes

    public int pass(int minutes) throws IllegalArgumentException {
        checkArgument(minutes, 1, LONGEST_PASS);
        int before = train.mail.inPlace[DELIVERED];
        train.run(minutes);
        return train.mail.inPlace[DELIVERED] - before;
    }

    // ---- what would be

    public int arrives(int letter) throws IndexOutOfBoundsException {
        checkIndex(letter, train.mail.size);
        trial.copyFrom(train);
        for (int minutes = 0; minutes <= LONGEST_PASS; minutes++) {
            int place = trial.mail.place[letter];
            if (place == DELIVERED) {
                return minutes;
            }
            if (place == LATE) {
                return NONE;
            }
            trial.runMinute();
        }
        return NONE;
    }

    public int foresee(int minutes, int what) throws IllegalArgumentException, IndexOutOfBoundsException {
        checkArgument(minutes, 1, LONGEST_PASS);
        if (what < FIRST_PLACE_COUNT || what > LAST_PLACE_COUNT) {
            throw new IndexOutOfBoundsException("what is not 3 to 8");
        }
        trial.copyFrom(train);
        trial.run(minutes);
        return trial.mail.inPlace[what - FIRST_PLACE_COUNT];
    }

    public int advise(int sorter, int minutes) throws IndexOutOfBoundsException, IllegalArgumentException {
        checkIndex(sorter, train.crew.size);
        checkArgument(minutes, 1, LONGEST_ADVICE);
        int towns = train.crew.towns[sorter];
        int most = deliveredIfAssigned(sorter, towns, minutes);
        int best = NONE;
        for (int town = 0; town < TOWNS; town++) {
            if (!hasTown(towns, town)) {
                int delivered = deliveredIfAssigned(sorter, towns | 1 << town, minutes);
                if (delivered > most) {
                    most = delivered;
                    best = town;
                }
            }
        }
        return best;
    }

    public double share() {
        int delivered = train.mail.inPlace[DELIVERED];
        int ended = delivered + train.mail.inPlace[LATE];
        return ended == 0 ? 0.0 : (double) delivered / (double) ended;
    }

    public long digest() {
        long d = 1049;
        for (int what = 0; what < COUNTS; what++) {
            d = d * 31 + count(what);
        }
        for (int station = 0; station < STATIONS; station++) {
            for (int what = 0; what < STATION_FACTS; what++) {
                d = d * 31 + station(station, what);
            }
        }
        for (int town = 0; town < TOWNS; town++) {
            d = d * 31 + hole(town);
        }
        for (int sorter = 0; sorter < train.crew.size; sorter++) {
            for (int what = 0; what < SORTER_FACTS; what++) {
                d = d * 31 + sorter(sorter, what);
            }
        }
        for (int letter = 0; letter < train.mail.size; letter++) {
            for (int what = 0; what < LETTER_FACTS; what++) {
                d = d * 31 + letter(letter, what);
            }
        }
        return d;
    }

    private int deliveredIfAssigned(int sorter, int towns, int minutes) {
        trial.copyFrom(train);
        trial.crew.towns[sorter] = towns;
        trial.run(minutes);
        return trial.mail.inPlace[DELIVERED];
    }

    private static void checkIndex(int index, int size) {
        if (index < 0 || index >= size) {
            throw new IndexOutOfBoundsException("there is no such number");
        }
    }

    private static void checkArgument(int value, int least, int most) {
        if (value < least || value > most) {
            throw new IllegalArgumentException("a value is out of its range");
        }
    }

    private static boolean hasTown(int towns, int town) {
        return (towns >> town & 1) == 1;
    }

    private static int stationOf(int town) {
        return town / TOWNS_A_STATION;
    }

    /** The stations: when each one is passed, and its jolt. Minutes do not change it. */
    private static final class Line {
        final int[] minutes = new int[STATIONS];
        final int[] jolts = new int[STATIONS];

        Line() {
            for (int station = 0; station < STATIONS; station++) {
                minutes[station] = 20 * station + 20;
            }
        }

        boolean wouldRise(int station, int minute) {
            boolean afterLast = station == 0 || minute > minutes[station - 1];
            boolean beforeNext = station == STATIONS - 1 || minute < minutes[station + 1];
            return afterLast && beforeNext;
        }

        int passedIn(int minute) {
            for (int station = 0; station < STATIONS; station++) {
                if (minutes[station] == minute) {
                    return station;
                }
            }
            return NONE;
        }

        int nextFrom(int minute) {
            for (int station = 0; station < STATIONS; station++) {
                if (minutes[station] >= minute) {
                    return station;
                }
            }
            return STATIONS;
        }
    }

    /** The letters, and how many of them are in each place and in each hole. */
    private static final class Mail {
        int size = 0;
        final int[] town = new int[LETTERS];
        final int[] postedAt = new int[LETTERS];
        final int[] place = new int[LETTERS];
        final int[] holder = new int[LETTERS];
        final int[] endMinute = new int[LETTERS];
        final int[] inPlace = new int[PLACES];
        final int[] inHole = new int[TOWNS];

        int addToBag(int station, int forTown) {
            int letter = size;
            town[letter] = forTown;
            postedAt[letter] = station;
            place[letter] = BAG;
            holder[letter] = NONE;
            endMinute[letter] = NONE;
            inPlace[BAG]++;
            size++;
            return letter;
        }

        int fact(int letter, int what) {
            switch (what) {
                case 0:
                    return place[letter];
                case 1:
                    return town[letter];
                case 2:
                    return postedAt[letter];
                case 3:
                    return holder[letter];
                default:
                    return endMinute[letter];
            }
        }

        void move(int letter, int to) {
            int from = place[letter];
            inPlace[from]--;
            inPlace[to]++;
            if (from == HOLE) {
                inHole[town[letter]]--;
            }
            if (to == HOLE) {
                inHole[town[letter]]++;
            }
            holder[letter] = NONE;
            place[letter] = to;
        }

        void moveToHands(int letter, int sorter) {
            move(letter, HANDS);
            holder[letter] = sorter;
        }

        void end(int letter, int how, int minute) {
            move(letter, how);
            endMinute[letter] = minute;
        }

        int firstOnTable(int towns) {
            // Most minutes find the table empty: this spares the forecasts the search.
            if (inPlace[TABLE] == 0) {
                return NONE;
            }
            for (int letter = 0; letter < size; letter++) {
                if (place[letter] == TABLE && hasTown(towns, town[letter])) {
                    return letter;
                }
            }
            return NONE;
        }

        boolean isInBag(int letter, int station) {
            return place[letter] == BAG && postedAt[letter] == station;
        }

        int lettersInBag(int station) {
            int found = 0;
            for (int letter = 0; letter < size; letter++) {
                if (isInBag(letter, station)) {
                    found++;
                }
            }
            return found;
        }

        int fullestHole() {
            int fullest = 0;
            for (int other = 1; other < TOWNS; other++) {
                if (inHole[other] > inHole[fullest]) {
                    fullest = other;
                }
            }
            return fullest;
        }

        void spillHole(int ofTown) {
            for (int letter = 0; letter < size; letter++) {
                if (place[letter] == HOLE && town[letter] == ofTown) {
                    move(letter, TABLE);
                }
            }
        }

        void copyFrom(Mail other) {
            size = other.size;
            System.arraycopy(other.town, 0, town, 0, LETTERS);
            System.arraycopy(other.postedAt, 0, postedAt, 0, LETTERS);
            System.arraycopy(other.place, 0, place, 0, LETTERS);
            System.arraycopy(other.holder, 0, holder, 0, LETTERS);
            System.arraycopy(other.endMinute, 0, endMinute, 0, LETTERS);
            System.arraycopy(other.inPlace, 0, inPlace, 0, PLACES);
            System.arraycopy(other.inHole, 0, inHole, 0, TOWNS);
        }
    }

    /** The sorters, and what each one has in the hands. */
    private static final class Crew {
        int size = 0;
        final int[] pace = new int[SORTERS];
        final int[] towns = new int[SORTERS];
        final int[] tired = new int[SORTERS];
        final int[] withTea = new int[SORTERS];
        final int[] held = new int[SORTERS];
        final int[] minutesLeft = new int[SORTERS];
        final int[] sorted = new int[SORTERS];

        int add(int newPace, int newTowns) {
            int sorter = size;
            pace[sorter] = newPace;
            towns[sorter] = newTowns;
            held[sorter] = NONE;
            size++;
            return sorter;
        }

        int fact(int sorter, int what) {
            switch (what) {
                case 0:
                    return pace[sorter];
                case 1:
                    return towns[sorter];
                case 2:
                    return tired[sorter];
                case 3:
                    return withTea[sorter];
                case 4:
                    return held[sorter];
                case 5:
                    return minutesLeft[sorter];
                default:
                    return sorted[sorter];
            }
        }

        int minutesNeeded(int sorter) {
            int needed = pace[sorter] + tired[sorter] / TIRED_A_MINUTE - TEA_SAVES * withTea[sorter];
            return needed < 1 ? 1 : needed;
        }

        void takeUp(int sorter, int letter) {
            held[sorter] = letter;
            minutesLeft[sorter] = minutesNeeded(sorter);
        }

        void freeHands(int sorter) {
            held[sorter] = NONE;
            minutesLeft[sorter] = 0;
        }

        void spillTea() {
            for (int sorter = 0; sorter < size; sorter++) {
                withTea[sorter] = 0;
            }
        }

        void tireAll(int by) {
            for (int sorter = 0; sorter < size; sorter++) {
                tired[sorter] += by;
            }
        }

        void copyFrom(Crew other) {
            size = other.size;
            System.arraycopy(other.pace, 0, pace, 0, SORTERS);
            System.arraycopy(other.towns, 0, towns, 0, SORTERS);
            System.arraycopy(other.tired, 0, tired, 0, SORTERS);
            System.arraycopy(other.withTea, 0, withTea, 0, SORTERS);
            System.arraycopy(other.held, 0, held, 0, SORTERS);
            System.arraycopy(other.minutesLeft, 0, minutesLeft, 0, SORTERS);
            System.arraycopy(other.sorted, 0, sorted, 0, SORTERS);
        }
    }

    /** The train in a minute: what its minutes do to the letters and the sorters. */
    private static final class Train {
        final Line line;
        final Mail mail = new Mail();
        final Crew crew = new Crew();
        int minute = 0;

        Train(Line line) {
            this.line = line;
        }

        void copyFrom(Train other) {
            minute = other.minute;
            mail.copyFrom(other.mail);
            crew.copyFrom(other.crew);
        }

        void run(int minutes) {
            for (int gone = 0; gone < minutes; gone++) {
                runMinute();
            }
        }

        void runMinute() {
            for (int sorter = 0; sorter < crew.size; sorter++) {
                if (crew.held[sorter] == NONE) {
                    takeLetter(sorter);
                }
                if (crew.held[sorter] != NONE) {
                    workOn(sorter);
                }
            }
            int reached = line.passedIn(minute);
            if (reached != NONE) {
                serve(reached);
            }
            int behind = line.passedIn(minute - MINUTES_TO_JOLT);
            if (behind != NONE) {
                shake(line.jolts[behind]);
            }
            minute++;
        }

        void takeLetter(int sorter) {
            int letter = mail.firstOnTable(crew.towns[sorter]);
            if (letter != NONE) {
                mail.moveToHands(letter, sorter);
                crew.takeUp(sorter, letter);
            }
        }

        void workOn(int sorter) {
            crew.minutesLeft[sorter]--;
            if (crew.minutesLeft[sorter] <= 0) {
                putLetter(sorter);
            }
        }

        void putLetter(int sorter) {
            int letter = crew.held[sorter];
            if (mail.inHole[mail.town[letter]] < HOLE_ROOM) {
                mail.move(letter, HOLE);
                crew.sorted[sorter]++;
            } else {
                mail.move(letter, TABLE);
            }
            crew.tired[sorter]++;
            crew.freeHands(sorter);
        }

        void serve(int station) {
            for (int letter = 0; letter < mail.size; letter++) {
                if (mail.isInBag(letter, station)) {
                    hookIn(letter, station);
                } else if (stationOf(mail.town[letter]) == station) {
                    hookOut(letter);
                }
            }
        }

        void hookIn(int letter, int station) {
            if (stationOf(mail.town[letter]) <= station) {
                mail.end(letter, LATE, minute);
            } else {
                mail.move(letter, TABLE);
            }
        }

        void hookOut(int letter) {
            int place = mail.place[letter];
            if (place == HOLE) {
                mail.end(letter, DELIVERED, minute);
            } else if (place == TABLE || place == HANDS) {
                int holder = mail.holder[letter];
                if (holder != NONE) {
                    crew.freeHands(holder);
                }
                mail.end(letter, LATE, minute);
            }
        }

        void shake(int jolt) {
            if (jolt >= 1) {
                crew.spillTea();
            }
            if (jolt >= 2) {
                mail.spillHole(mail.fullestHole());
            }
            if (jolt >= 3) {
                crew.tireAll(JOLT_TIRES);
            }
        }
    }
}
