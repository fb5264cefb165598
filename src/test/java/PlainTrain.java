import java.util.ArrayList;
import java.util.List;

/** The document told a second time, as plainly as it can be: every number is counted anew when it is asked for. */
final class PlainTrain {
    static final class Letter {
        int number;
        int town;
        int from;
        String where = "bag";
        int minute = -1;
    }

    static final class Sorter {
        int number;
        int pace;
        int towns;
        int tired;
        boolean tea;
        Letter letter;
        int needs;
        int done;
    }

    private static final String[] WHERE = {"bag", "table", "hands", "hole", "delivered", "late"};

    private int now = 0;
    private final int[] passed = {20, 40, 60, 80, 100, 120, 140, 160};
    private final int[] jolt = new int[8];
    private final List<Letter> letters = new ArrayList<>();
    private final List<Sorter> sorters = new ArrayList<>();

    private PlainTrain copy() {
        PlainTrain copy = new PlainTrain();
        copy.now = now;
        System.arraycopy(passed, 0, copy.passed, 0, 8);
        System.arraycopy(jolt, 0, copy.jolt, 0, 8);
        for (Letter old : letters) {
            Letter letter = new Letter();
            letter.number = old.number;
            letter.town = old.town;
            letter.from = old.from;
            letter.where = old.where;
            letter.minute = old.minute;
            copy.letters.add(letter);
        }
        for (Sorter old : sorters) {
            Sorter sorter = new Sorter();
            sorter.number = old.number;
            sorter.pace = old.pace;
            sorter.towns = old.towns;
            sorter.tired = old.tired;
            sorter.tea = old.tea;
            sorter.letter = old.letter == null ? null : copy.letters.get(old.letter.number);
            sorter.needs = old.needs;
            sorter.done = old.done;
            copy.sorters.add(sorter);
        }
        return copy;
    }

    int setStation(int station, int minute, int newJolt) {
        index(station >= 0 && station <= 7);
        argument(minute >= 1 && minute <= 999);
        argument(newJolt >= 0 && newJolt <= 3);
        state(now <= passed[station]);
        state(now <= minute);
        int[] tried = passed.clone();
        tried[station] = minute;
        for (int s = 1; s < 8; s++) {
            state(tried[s - 1] < tried[s]);
        }
        int answer = 10 * passed[station] + jolt[station];
        passed[station] = minute;
        jolt[station] = newJolt;
        return answer;
    }

    int post(int station, int town) {
        index(station >= 0 && station <= 7);
        index(town >= 0 && town <= 15);
        state(letters.size() < 60);
        Letter letter = new Letter();
        letter.number = letters.size();
        letter.town = town;
        letter.from = station;
        letters.add(letter);
        return letter.number;
    }

    int hire(int pace, int towns) {
        argument(pace >= 1 && pace <= 9);
        argument(towns >= 0 && towns <= 0xffff);
        state(sorters.size() < 4);
        Sorter sorter = new Sorter();
        sorter.number = sorters.size();
        sorter.pace = pace;
        sorter.towns = towns;
        sorters.add(sorter);
        return sorter.number;
    }

    int assign(int number, int towns) {
        Sorter sorter = sorterOf(number);
        argument(towns >= 0 && towns <= 0xffff);
        int answer = sorter.towns;
        sorter.towns = towns;
        return answer;
    }

    int tea(int number) {
        Sorter sorter = sorterOf(number);
        int answer = sorter.tired;
        sorter.tired = 0;
        sorter.tea = true;
        return answer;
    }

    int letter(int number, int what) {
        index(number >= 0 && number < letters.size());
        index(what >= 0 && what <= 4);
        Letter letter = letters.get(number);
        int hands = -1;
        for (Sorter sorter : sorters) {
            if (sorter.letter == letter) {
                hands = sorter.number;
            }
        }
        int where = java.util.Arrays.asList(WHERE).indexOf(letter.where);
        return new int[] {where, letter.town, letter.from, hands, letter.minute}[what];
    }

    int sorter(int number, int what) {
        Sorter s = sorterOf(number);
        index(what >= 0 && what <= 6);
        int held = s.letter == null ? -1 : s.letter.number;
        int needs = s.letter == null ? 0 : s.needs;
        return new int[] {s.pace, s.towns, s.tired, s.tea ? 1 : 0, held, needs, s.done}[what];
    }

    int hole(int town) {
        index(town >= 0 && town <= 15);
        return inHole(town).size();
    }

    int station(int station, int what) {
        index(station >= 0 && station <= 7);
        index(what >= 0 && what <= 2);
        int bag = 0;
        for (Letter letter : all("bag")) {
            bag += letter.from == station ? 1 : 0;
        }
        return new int[] {passed[station], jolt[station], bag}[what];
    }

    int count(int what) {
        index(what >= 0 && what <= 9);
        if (what == 0) {
            return now;
        }
        if (what == 1) {
            return letters.size();
        }
        if (what == 2) {
            return sorters.size();
        }
        if (what < 9) {
            return all(WHERE[what - 3]).size();
        }
        int next = 0;
        while (next < 8 && passed[next] < now) {
            next++;
        }
        return next;
    }

    int pass(int minutes) {
        argument(minutes >= 1 && minutes <= 300);
        int before = all("delivered").size();
        go(minutes);
        return all("delivered").size() - before;
    }

    int arrives(int number) {
        index(number >= 0 && number < letters.size());
        PlainTrain future = copy();
        for (int minutes = 0; minutes <= 300; minutes++) {
            if (future.letters.get(number).where.equals("delivered")) {
                return minutes;
            }
            future.go(1);
        }
        return -1;
    }

    int foresee(int minutes, int what) {
        argument(minutes >= 1 && minutes <= 300);
        index(what >= 3 && what <= 8);
        PlainTrain future = copy();
        future.go(minutes);
        return future.count(what);
    }

    int advise(int number, int minutes) {
        sorterOf(number);
        argument(minutes >= 1 && minutes <= 120);
        PlainTrain asItIs = copy();
        asItIs.go(minutes);
        int[] delivered = new int[16];
        int most = asItIs.count(7);
        for (int town = 0; town < 16; town++) {
            PlainTrain future = copy();
            future.sorters.get(number).towns |= 1 << town;
            future.go(minutes);
            delivered[town] = future.count(7);
            most = Math.max(most, delivered[town]);
        }
        if (most == asItIs.count(7)) {
            return -1;
        }
        int town = 0;
        while (delivered[town] != most) {
            town++;
        }
        return town;
    }

    double share() {
        int good = all("delivered").size();
        int bad = all("late").size();
        return good + bad == 0 ? 0 : 1.0 * good / (good + bad);
    }

    long digest() {
        List<Integer> numbers = new ArrayList<>();
        for (int what = 0; what <= 9; what++) {
            numbers.add(count(what));
        }
        for (int i = 0; i < 24; i++) {
            numbers.add(station(i / 3, i % 3));
        }
        for (int town = 0; town <= 15; town++) {
            numbers.add(hole(town));
        }
        for (int i = 0; i < 7 * sorters.size(); i++) {
            numbers.add(sorter(i / 7, i % 7));
        }
        for (int i = 0; i < 5 * letters.size(); i++) {
            numbers.add(letter(i / 5, i % 5));
        }
        long d = 1049;
        for (int x : numbers) {
            d = d * 31 + x;
        }
        return d;
    }

    private void go(int minutes) {
        for (int i = 0; i < minutes; i++) {
            sort();
            for (int s = 0; s < 8; s++) {
                if (passed[s] == now) {
                    halt(s);
                }
            }
            for (int s = 0; s < 8; s++) {
                if (passed[s] + 5 == now) {
                    shake(jolt[s]);
                }
            }
            now++;
        }
    }

    private void sort() {
        for (Sorter s : sorters) {
            for (Letter letter : all("table")) {
                if (s.letter == null && (s.towns & 1 << letter.town) != 0) {
                    s.letter = letter;
                    letter.where = "hands";
                    s.needs = Math.max(1, s.pace + s.tired / 5 - (s.tea ? 2 : 0));
                }
            }
            if (s.letter != null) {
                s.needs--;
                if (s.needs == 0) {
                    boolean room = hole(s.letter.town) < 8;
                    s.letter.where = room ? "hole" : "table";
                    s.done += room ? 1 : 0;
                    s.tired++;
                    s.letter = null;
                }
            }
        }
    }

    private void halt(int station) {
        for (int town = 2 * station; town <= 2 * station + 1; town++) {
            for (Letter letter : inHole(town)) {
                letter.where = "delivered";
                letter.minute = now;
            }
            for (Letter letter : letters) {
                if (letter.town == town && (letter.where.equals("table") || letter.where.equals("hands"))) {
                    letter.where = "late";
                    letter.minute = now;
                }
            }
        }
        for (Sorter s : sorters) {
            if (s.letter != null && s.letter.where.equals("late")) {
                s.letter = null;
            }
        }
        for (Letter letter : all("bag")) {
            if (letter.from == station) {
                boolean tooLate = letter.town < 2 * station + 2;
                letter.where = tooLate ? "late" : "table";
                letter.minute = tooLate ? now : -1;
            }
        }
    }

    private void shake(int how) {
        for (Sorter s : sorters) {
            s.tea = s.tea && how == 0;
            s.tired += how == 3 ? 3 : 0;
        }
        if (how >= 2) {
            int most = 0;
            for (int town = 0; town < 16; town++) {
                most = Math.max(most, hole(town));
            }
            int town = 0;
            while (hole(town) != most) {
                town++;
            }
            for (Letter letter : inHole(town)) {
                letter.where = "table";
            }
        }
    }

    private List<Letter> all(String where) {
        List<Letter> found = new ArrayList<>();
        for (Letter letter : letters) {
            if (letter.where.equals(where)) {
                found.add(letter);
            }
        }
        return found;
    }

    private List<Letter> inHole(int town) {
        List<Letter> found = all("hole");
        found.removeIf(letter -> letter.town != town);
        return found;
    }

    private Sorter sorterOf(int number) {
        index(number >= 0 && number < sorters.size());
        return sorters.get(number);
    }

    private static void index(boolean fine) {
        if (!fine) {
            throw new IndexOutOfBoundsException();
        }
    }

    private static void argument(boolean fine) {
        if (!fine) {
            throw new IllegalArgumentException();
        }
    }

    private static void state(boolean fine) {
        if (!fine) {
            throw new IllegalStateException();
        }
    }
}
