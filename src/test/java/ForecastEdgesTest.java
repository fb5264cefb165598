import java.math.BigInteger;
import java.util.ArrayList;
import java.util.List;

/** Promises 13 to 17: each sentence that names an edge of a call, in the document's order. */
public final class ForecastEdgesTest {
    private static final int ALL = Trains.ALL;
    private static final Class<?> INDEX = IndexOutOfBoundsException.class;
    private static final Class<?> ARGUMENT = IllegalArgumentException.class;

    private static final Check check = new Check("ForecastEdgesTest");

    public static void main(String[] args) {
        arrivesTakesLetters();
        arrivesInOneMinute();
        arrivesOfALetterInHands();
        arrivesInNone();
        arrivesInAtMost300();
        arrivesInEachNumberOfMinutes();
        arrivesNever();
        arrivesIfNothingIsDone();
        arrivesChangesNothing();
        foreseeTakesMinutes();
        foreseeTakesWhats();
        foreseeOneMinute();
        foreseeTheLastMinuteInHands();
        foreseeHandsWithALateLetter();
        foreseeThe300thMinute();
        foreseeBehindTheNight();
        foreseeChangesNothing();
        adviseTakesSorters();
        adviseTakesMinutes();
        adviseAnswersEachTown();
        adviseTheSmallestOfSeveral();
        adviseTheMostOfSeveral();
        adviseNoneIfNoMore();
        adviseNoneForTownsThatItTakes();
        adviseNoneForLettersThatAreLate();
        adviseTheLastMinute();
        adviseTheGreatestNumberOfMinutes();
        adviseAFullHole();
        adviseEachSorter();
        adviseChangesNothing();
        shareOfNone();
        shareOfLateOnly();
        shareOfDeliveredOnly();
        shareOfAll60();
        shareOfOne();
        digestOfANewObject();
        digestWrapsAround();
        digestTakesNegativeNumbers();
        digestOfAFullObject();
        digestTellsEachNumber();
        check.end();
    }

    private static NightSorters sixtyLetters() {
        NightSorters train = Trains.with(Trains.sorter(1, ALL));
        Trains.postMany(train, 0, 15, 60);
        return train;
    }

    private static NightSorters fourSorters() {
        return Trains.with(Trains.sorter(1, 0), Trains.sorter(2, 0), Trains.sorter(3, 0), Trains.sorter(4, 0));
    }

    // ---- 13: arrives

    private static void arrivesTakesLetters() {
        check.sentence("if there is no such letter");
        check.takes(0, 59, INDEX, ForecastEdgesTest::sixtyLetters, "arrives", (train, l) -> train.arrives(l));
        NightSorters none = new NightSorters();
        check.indexRefused(none, "arrives(0) with none", () -> none.arrives(0));
        none.post(0, 15);
        check.same("arrives(0) with one", none.arrives(0), -1);
        check.indexRefused(none, "arrives(1) with one", () -> none.arrives(1));
    }

    private static void arrivesInOneMinute() {
        check.sentence("Returns behind how many minutes it is delivered, if nothing is done");
        NightSorters train = Trains.with(Trains.sorter(1, ALL));
        train.post(0, 2);
        for (int minute = 0; minute <= 40; minute++) {
            Trains.to(train, minute);
            check.same("arrives(0) in " + minute, train.arrives(0), 41 - minute);
        }
    }

    /** Two slow sorters, one with tea: its letter is in the hole in the minute 27, the other one's in 29. */
    private static NightSorters lettersInHands() {
        NightSorters train = Trains.with(Trains.sorter(9, 1 << 2), Trains.sorter(9, 1 << 3));
        Trains.post(train, 0, 2, 3);
        train.tea(1);
        return train;
    }

    private static void arrivesOfALetterInHands() {
        check.sentence("Returns behind how many minutes it is delivered, if nothing is done");
        for (int passed = 26; passed <= 30; passed++) {
            NightSorters train = lettersInHands();
            train.setStation(1, passed, 0);
            for (int minute = 0; minute <= passed; minute++) {
                Trains.to(train, minute);
                String told = " in " + minute + ", station 1 in " + passed;
                check.same("arrives(0)" + told, train.arrives(0), passed >= 29 ? passed + 1 - minute : -1);
                check.same("arrives(1)" + told, train.arrives(1), passed >= 27 ? passed + 1 - minute : -1);
            }
        }
    }

    private static void arrivesInNone() {
        check.sentence("0 if it is");
        NightSorters train = Trains.with(Trains.sorter(1, ALL));
        Trains.post(train, 0, 2, 3);
        Trains.to(train, 41);
        check.same("arrives(0), delivered in the minute before", train.arrives(0), 0);
        train.pass(300);
        check.same("arrives(0), delivered long ago", train.arrives(0), 0);
        check.same("arrives(1), delivered long ago", train.arrives(1), 0);
    }

    private static void arrivesInAtMost300() {
        check.sentence("at most 300; -1 if not by then");
        NightSorters train = Trains.with(Trains.sorter(1, ALL));
        train.post(0, 15);
        int[] minutes = {298, 299, 300, 301};
        int[] due = {299, 300, -1, -1};
        for (int i = 0; i < 4; i++) {
            train.setStation(7, minutes[i], 0);
            check.same("arrives(0), station 7 in " + minutes[i], train.arrives(0), due[i]);
        }
        train.pass(1);
        check.same("arrives(0), one minute later", train.arrives(0), -1);
        train.pass(1);
        check.same("arrives(0), two minutes later", train.arrives(0), 300);
        NightSorters full = Trains.with(Trains.sorter(1, ALL));
        Trains.leaveALongNight(full);
        full.post(0, 15);
        check.same("arrives(0), station 7 in 999", full.arrives(0), -1);
        Trains.to(full, 699);
        check.same("arrives(0) in 699", full.arrives(0), -1);
        full.pass(1);
        check.same("arrives(0) in 700", full.arrives(0), 300);
    }

    private static void arrivesInEachNumberOfMinutes() {
        check.sentence("at most 300; -1 if not by then");
        NightSorters train = Trains.with(Trains.sorter(1, 1 << 15));
        Trains.leaveALongNight(train);
        train.post(0, 15);
        Trains.to(train, 690);
        for (int minute = 690; minute <= 999; minute++) {
            Trains.to(train, minute);
            check.same("arrives(0) in " + minute, train.arrives(0), minute < 700 ? -1 : 1000 - minute);
        }
    }

    private static void arrivesNever() {
        check.sentence("-1 if not by then");
        NightSorters train = Trains.with(Trains.sorter(1, ALL ^ 1 << 15));
        Trains.post(train, 0, 1, 15);
        train.post(3, 2);
        check.same("arrives(0), for a town that is passed with its bag", train.arrives(0), -1);
        check.same("arrives(1), for a town of no sorter", train.arrives(1), -1);
        check.same("arrives(2), for a town that is passed ahead of its bag", train.arrives(2), -1);
        Trains.to(train, 30);
        check.same("arrives(0), late", train.arrives(0), -1);
        train.post(0, 14);
        check.same("arrives(3), in a passed bag", train.arrives(3), -1);
        train.pass(300);
        check.same("arrives(1), late", train.arrives(1), -1);
        check.same("arrives(3), in a passed bag", train.arrives(3), -1);
    }

    private static void arrivesIfNothingIsDone() {
        check.sentence("if nothing is done");
        NightSorters train = Trains.with(Trains.sorter(1, 0));
        train.post(0, 2);
        check.same("arrives(0), not sorted", train.arrives(0), -1);
        train.assign(0, 1 << 2);
        check.same("arrives(0), sorted", train.arrives(0), 41);
        train.setStation(1, 59, 0);
        check.same("arrives(0), a later station", train.arrives(0), 60);
    }

    /** A second one of the same, with the same calls but those that change nothing, goes on alike. */
    private static void arrivesChangesNothing() {
        check.sentence("-1 if not by then (nothing is changed).");
        NightSorters asked = sixtyLetters();
        NightSorters other = sixtyLetters();
        for (int letter = 0; letter < 60; letter++) {
            asked.arrives(letter);
            goOnAlike("arrives(" + letter + ")", asked, other);
        }
    }

    private static void goOnAlike(String call, NightSorters asked, NightSorters other) {
        check.same("digest() behind " + call, asked.digest(), other.digest());
        check.same("pass(3) behind " + call, asked.pass(3), other.pass(3));
        check.same("digest() later than " + call, asked.digest(), other.digest());
    }

    // ---- 14: foresee

    private static void foreseeTakesMinutes() {
        check.sentence("if minutes is not 1 to 300");
        for (int what = 3; what <= 8; what++) {
            int its = what;
            check.takes(1, 300, ARGUMENT, NightSorters::new, "foresee(.., " + its + ")",
                (train, minutes) -> train.foresee(minutes, its));
        }
    }

    private static void foreseeTakesWhats() {
        check.sentence("if what is not 3 to 8");
        check.takes(3, 8, INDEX, NightSorters::new, "foresee(1, ..)", (train, what) -> train.foresee(1, what));
        check.takes(3, 8, INDEX, NightSorters::new, "foresee(300, ..)", (train, what) -> train.foresee(300, what));
        NightSorters train = new NightSorters();
        for (int what : new int[] {0, 1, 2, 9, 10}) {
            check.indexRefused(train, "foresee(1, " + what + ")", () -> train.foresee(1, what));
        }
    }

    private static void foreseeOneMinute() {
        check.sentence("Returns this, behind so many minutes, if nothing is done");
        NightSorters train = Trains.with(Trains.sorter(2, ALL));
        Trains.post(train, 0, 2, 1);
        train.post(7, 15);
        // One minute later than 19, 20, 21, 22, 39 and 40.
        int[] minutes = {19, 20, 21, 22, 39, 40};
        int[][] due = {
            {3, 0, 0, 0, 0, 0}, {1, 1, 0, 0, 0, 1}, {1, 0, 1, 0, 0, 1},
            {1, 0, 0, 1, 0, 1}, {1, 0, 0, 1, 0, 1}, {1, 0, 0, 0, 1, 1},
        };
        for (int i = 0; i < 6; i++) {
            Trains.to(train, minutes[i]);
            for (int what = 3; what <= 8; what++) {
                String call = "foresee(1, " + what + ") in " + minutes[i];
                check.same(call, train.foresee(1, what), due[i][what - 3]);
            }
        }
    }

    private static void foreseeTheLastMinuteInHands() {
        check.sentence("Returns this, behind so many minutes, if nothing is done");
        int[] inHands = {0, 2, 2, 1, 1, 0, 0};
        int[] seen = {21, 22, 27, 28, 29, 30, 31};
        NightSorters train = lettersInHands();
        for (int minute = 0; minute < 31; minute++) {
            Trains.to(train, minute);
            for (int i = 0; i < 7; i++) {
                if (seen[i] > minute) {
                    String told = " in " + minute + ", of " + seen[i];
                    check.same("foresee(.., 5)" + told, train.foresee(seen[i] - minute, 5), inHands[i]);
                    int inHoles = seen[i] < 22 ? 0 : 2 - inHands[i];
                    check.same("foresee(.., 6)" + told, train.foresee(seen[i] - minute, 6), inHoles);
                }
            }
        }
    }

    private static void foreseeHandsWithALateLetter() {
        check.sentence("if nothing is done (nothing is changed).");
        NightSorters train = Trains.with(Trains.sorter(9, 1 << 3), Trains.sorter(9, 1 << 2 | 1 << 15));
        train.setStation(1, 28, 0);
        Trains.post(train, 0, 2, 15);
        Trains.to(train, 22);
        check.same("sorter(1, 4)", train.sorter(1, 4), 0);
        check.same("foresee(7, 5), late and free", train.foresee(7, 5), 0);
        check.same("foresee(8, 5), the next letter", train.foresee(8, 5), 1);
        check.same("foresee(7, 8)", train.foresee(7, 8), 1);
        check.same("arrives(1)", train.arrives(1), 139);
    }

    private static void foreseeThe300thMinute() {
        check.sentence("how many, 1 to 300");
        NightSorters train = Trains.with(Trains.sorter(1, 1 << 15));
        Trains.post(train, 0, 15, 14);
        train.setStation(7, 299, 0);
        check.same("foresee(299, 7)", train.foresee(299, 7), 0);
        check.same("foresee(300, 7)", train.foresee(300, 7), 1);
        check.same("foresee(299, 8)", train.foresee(299, 8), 0);
        check.same("foresee(300, 8)", train.foresee(300, 8), 1);
        train.setStation(7, 300, 0);
        check.same("foresee(300, 7), a minute later", train.foresee(300, 7), 0);
        check.same("foresee(300, 6), a minute later", train.foresee(300, 6), 1);
        check.same("foresee(300, 4), a minute later", train.foresee(300, 4), 1);
    }

    private static void foreseeBehindTheNight() {
        check.sentence("3 to 8 as count() has it");
        NightSorters train = sixtyLetters();
        int[] minutes = {20, 21, 22, 161, 300};
        int[][] due = {
            {60, 0, 0, 0, 0, 0}, {0, 60, 0, 0, 0, 0}, {0, 59, 0, 1, 0, 0}, {0, 0, 0, 0, 8, 52}, {0, 0, 0, 0, 8, 52},
        };
        for (int i = 0; i < 5; i++) {
            NightSorters later = sixtyLetters();
            later.pass(minutes[i]);
            for (int what = 3; what <= 8; what++) {
                String call = "(" + minutes[i] + ", " + what + ")";
                check.same("foresee" + call, train.foresee(minutes[i], what), due[i][what - 3]);
                check.same("count behind" + call, later.count(what), due[i][what - 3]);
            }
        }
        train.pass(300);
        check.same("foresee(300, 7), behind the night", train.foresee(300, 7), 8);
        check.same("foresee(1, 3), no letters", new NightSorters().foresee(1, 3), 0);
    }

    private static void foreseeChangesNothing() {
        check.sentence("if nothing is done (nothing is changed).");
        NightSorters asked = sixtyLetters();
        NightSorters other = sixtyLetters();
        for (int turn = 0; turn < 60; turn++) {
            asked.foresee(5 * turn + 1, 3 + turn % 6);
            goOnAlike("foresee", asked, other);
        }
    }

    // ---- 15: advise

    private static void adviseTakesSorters() {
        check.sentence("if there is no such sorter");
        check.takes(0, 3, INDEX, ForecastEdgesTest::fourSorters, "advise(.., 120)", (train, s) -> train.advise(s, 120));
        NightSorters train = new NightSorters();
        check.indexRefused(train, "advise(0, 1) with none", () -> train.advise(0, 1));
        train.hire(1, 0);
        check.same("advise(0, 1) with one", train.advise(0, 1), -1);
        check.indexRefused(train, "advise(1, 1) with one", () -> train.advise(1, 1));
    }

    private static void adviseTakesMinutes() {
        check.sentence("if minutes is not 1 to 120");
        check.takes(1, 120, ARGUMENT, ForecastEdgesTest::fourSorters, "advise(0, ..)",
            (train, minutes) -> train.advise(0, minutes));
        check.takes(1, 120, ARGUMENT, ForecastEdgesTest::fourSorters, "advise(3, ..)",
            (train, minutes) -> train.advise(3, minutes));
    }

    private static void adviseAnswersEachTown() {
        check.sentence("Returns this town");
        for (int town = 2; town < 16; town++) {
            NightSorters train = Trains.with(Trains.sorter(1, 0));
            train.setStation(7, 141, 0);
            train.post(0, town);
            Trains.to(train, 22);
            check.same("advise(0, 120) for " + town, train.advise(0, 120), town);
            train.assign(0, ALL ^ 1 << town);
            check.same("advise(0, 120) for " + town + ", all others taken", train.advise(0, 120), town);
        }
    }

    private static void adviseTheSmallestOfSeveral() {
        check.sentence("of several the one with the smallest number");
        for (int small = 2; small < 15; small++) {
            for (int great = small + 1; great < 16; great++) {
                NightSorters train = Trains.with(Trains.sorter(1, 0));
                Trains.post(train, 0, great, small);
                Trains.to(train, 39);
                // The last one of the 120 minutes from 39 on.
                train.setStation(7, 158, 0);
                check.same("advise(0, 120) for " + small + " and " + great, train.advise(0, 120), small);
            }
        }
    }

    private static void adviseTheMostOfSeveral() {
        check.sentence("so that the most letters are delivered behind so many minutes");
        NightSorters train = Trains.with(Trains.sorter(1, 0));
        Trains.post(train, 0, 2, 9, 2, 9, 9, 6, 6, 6);
        check.same("advise(0, 120)", train.advise(0, 120), 6);
        train.post(0, 9);
        check.same("advise(0, 120), one more for 9", train.advise(0, 120), 9);
        check.same("advise(0, 100), ahead of 9", train.advise(0, 100), 6);
        check.same("advise(0, 41), ahead of 6", train.advise(0, 41), 2);
    }

    private static void adviseNoneIfNoMore() {
        check.sentence("-1 if no more are by any");
        check.same("advise(0, 120), no letters", Trains.with(Trains.sorter(1, 0)).advise(0, 120), -1);
        // A slow sorter: each further town keeps it from one of its own.
        NightSorters train = Trains.with(Trains.sorter(9, 1 << 2));
        Trains.post(train, 0, 2, 2, 3, 3);
        check.same("advise(0, 41), as many by 3", train.advise(0, 41), -1);
        NightSorters worse = Trains.with(Trains.sorter(9, 1 << 2));
        Trains.post(worse, 0, 15, 2, 2);
        check.same("advise(0, 41), less by 15", worse.advise(0, 41), -1);
        NightSorters better = Trains.with(Trains.sorter(9, 1 << 2));
        Trains.post(better, 0, 2, 3);
        check.same("advise(0, 41), one more by 3", better.advise(0, 41), 3);
    }

    private static void adviseNoneForTownsThatItTakes() {
        check.sentence("that a sorter had best take as well from now on");
        NightSorters train = Trains.with(Trains.sorter(1, 1 << 2), Trains.sorter(1, 1 << 4));
        Trains.post(train, 0, 2, 2, 4, 4);
        check.same("advise(0, 120)", train.advise(0, 120), -1);
        check.same("advise(1, 120)", train.advise(1, 120), -1);
        train.assign(1, 0);
        check.same("advise(0, 120), as well as its own", train.advise(0, 120), 4);
        check.same("advise(1, 120), the other takes 2", train.advise(1, 120), 4);
        train.assign(0, ALL);
        check.same("advise(0, 120), it takes all", train.advise(0, 120), -1);
    }

    private static void adviseNoneForLettersThatAreLate() {
        check.sentence("-1 if no more are by any");
        NightSorters train = Trains.with(Trains.sorter(1, 0));
        Trains.post(train, 0, 0, 1);
        Trains.post(train, 3, 2, 7);
        check.same("advise(0, 120), for towns passed", train.advise(0, 120), -1);
        train.post(3, 8);
        check.same("advise(0, 120), for a town ahead", train.advise(0, 120), 8);
    }

    private static void adviseTheLastMinute() {
        check.sentence("so that the most letters are delivered behind so many minutes");
        NightSorters train = Trains.with(Trains.sorter(1, 0));
        train.post(0, 2);
        check.same("advise(0, 40)", train.advise(0, 40), -1);
        check.same("advise(0, 41)", train.advise(0, 41), 2);
        Trains.to(train, 40);
        check.same("advise(0, 1)", train.advise(0, 1), 2);
        train.pass(1);
        check.same("advise(0, 1), late", train.advise(0, 1), -1);
    }

    private static void adviseTheGreatestNumberOfMinutes() {
        check.sentence("if minutes is not 1 to 120");
        NightSorters train = Trains.with(Trains.sorter(1, 0));
        Trains.post(train, 0, 10);
        train.setStation(5, 119, 0);
        check.same("advise(0, 119), station 5 in 119", train.advise(0, 119), -1);
        check.same("advise(0, 120), station 5 in 119", train.advise(0, 120), 10);
        train.setStation(5, 120, 0);
        check.same("advise(0, 120), station 5 in 120", train.advise(0, 120), -1);
    }

    private static void adviseAFullHole() {
        check.sentence("so that the most letters are delivered behind so many minutes");
        NightSorters train = Trains.with(Trains.sorter(1, 0), Trains.sorter(1, 1 << 2));
        train.tea(1);
        Trains.postMany(train, 0, 2, 9);
        check.same("advise(0, 120), the hole takes only 8", train.advise(0, 120), -1);
        train.post(0, 9);
        check.same("advise(0, 120), one letter for 9", train.advise(0, 120), 9);
    }

    private static void adviseEachSorter() {
        check.sentence("Looks for the town that a sorter had best take as well");
        NightSorters train = Trains.with(Trains.sorter(9, 0), Trains.sorter(9, 0), Trains.sorter(9, 0),
            Trains.sorter(1, 0));
        Trains.post(train, 0, 2, 4, 4, 4, 4, 4);
        check.same("advise(0, 41), slow", train.advise(0, 41), 2);
        check.same("advise(0, 61), slow", train.advise(0, 61), 4);
        check.same("advise(3, 61), quick", train.advise(3, 61), 4);
        train.assign(3, 1 << 4);
        check.same("advise(0, 61), the quick one takes 4", train.advise(0, 61), 2);
    }

    private static void adviseChangesNothing() {
        check.sentence("-1 if no more are by any (nothing is changed).");
        NightSorters asked = sixtyLetters();
        NightSorters other = sixtyLetters();
        asked.assign(0, 1 << 3);
        other.assign(0, 1 << 3);
        for (int turn = 0; turn < 60; turn++) {
            asked.advise(0, 2 * turn + 1);
            check.same("sorter(0, 1) behind advise", asked.sorter(0, 1), 1 << 3);
            goOnAlike("advise", asked, other);
        }
    }

    // ---- 16: share

    private static void shareOfNone() {
        check.sentence("0 if there are none.");
        check.same("share() of a new object", new NightSorters().share(), 0.0);
        NightSorters train = Trains.with(Trains.sorter(2, ALL));
        Trains.post(train, 0, 15, 14, 13);
        int[] minutes = {0, 20, 21, 22, 23, 119};
        for (int minute : minutes) {
            Trains.to(train, minute);
            check.same("share() in " + minute, train.share(), 0.0);
        }
    }

    private static void shareOfLateOnly() {
        check.sentence("Returns letters that were delivered, divided by those that were delivered or late");
        NightSorters train = new NightSorters();
        train.post(0, 0);
        train.pass(21);
        check.same("share(), one late", train.share(), 0.0);
        NightSorters all = new NightSorters();
        Trains.postMany(all, 0, 15, 60);
        all.pass(200);
        check.same("share(), 60 late", all.share(), 0.0);
    }

    private static void shareOfDeliveredOnly() {
        check.sentence("Returns letters that were delivered, divided by those that were delivered or late");
        NightSorters train = Trains.with(Trains.sorter(1, ALL));
        Trains.post(train, 0, 2, 4);
        train.post(7, 0);
        Trains.to(train, 41);
        check.same("share(), one delivered", train.share(), 1.0);
        Trains.to(train, 61);
        check.same("share(), two delivered", train.share(), 1.0);
        Trains.to(train, 161);
        check.same("share(), and one late", train.share(), 2.0 / 3.0);
    }

    private static void shareOfAll60() {
        check.sentence("Returns letters that were delivered, divided by those that were delivered or late");
        NightSorters train = sixtyLetters();
        train.pass(161);
        check.same("share(), 8 of 60", train.share(), 8.0 / 60.0);
        NightSorters most = Trains.with(Trains.sorter(1, ALL), Trains.sorter(1, ALL), Trains.sorter(1, ALL),
            Trains.sorter(1, ALL));
        for (int letter = 0; letter < 60; letter++) {
            most.post(0, letter == 0 ? 0 : 8 + letter / 8);
        }
        most.pass(161);
        check.same("share(), 59 of 60", most.share(), 59.0 / 60.0);
        check.same("share(), less than 1", most.share() < 1 ? 1 : 0, 1);
    }

    private static void shareOfOne() {
        check.sentence("Returns letters that were delivered, divided by those that were delivered or late");
        // Each share of at most seven letters; nothing is cut.
        for (int late = 0; late <= 3; late++) {
            for (int delivered = 0; delivered <= 4; delivered++) {
                NightSorters train = Trains.with(Trains.sorter(1, ALL));
                Trains.postMany(train, 0, 0, late);
                Trains.postMany(train, 0, 3, delivered);
                train.pass(100);
                double due = delivered == 0 ? 0.0 : delivered / (double) (delivered + late);
                check.same("share(), " + delivered + " delivered, " + late + " late", train.share(), due);
            }
        }
    }

    // ---- 17: digest

    /** The numbers of which the digest is made, asked for one by one. */
    private static List<Integer> numbersOf(NightSorters train) {
        List<Integer> numbers = new ArrayList<>();
        for (int what = 0; what <= 9; what++) {
            numbers.add(train.count(what));
        }
        for (int station = 0; station <= 7; station++) {
            for (int what = 0; what <= 2; what++) {
                numbers.add(train.station(station, what));
            }
        }
        for (int town = 0; town <= 15; town++) {
            numbers.add(train.hole(town));
        }
        for (int sorter = 0; sorter < train.count(2); sorter++) {
            for (int what = 0; what <= 6; what++) {
                numbers.add(train.sorter(sorter, what));
            }
        }
        for (int letter = 0; letter < train.count(1); letter++) {
            for (int what = 0; what <= 4; what++) {
                numbers.add(train.letter(letter, what));
            }
        }
        return numbers;
    }

    /** The sum without any end to its digits. */
    private static BigInteger wholeSum(List<Integer> numbers) {
        BigInteger d = BigInteger.valueOf(1049);
        for (int number : numbers) {
            d = d.multiply(BigInteger.valueOf(31)).add(BigInteger.valueOf(number));
        }
        return d;
    }

    private static void digestOfANewObject() {
        check.sentence("A number d starts with 1049; for each of the following numbers x, d becomes d * 31 + x");
        List<Integer> numbers = numbersOf(new NightSorters());
        check.same("numbers of a new object", numbers.size(), 50);
        check.same("digest()", new NightSorters().digest(), wholeSum(numbers).longValue());
    }

    private static void digestWrapsAround() {
        check.sentence("which wraps around as a 64-bit integer");
        NightSorters train = Trains.with(Trains.sorter(3, ALL));
        int negative = 0;
        int positive = 0;
        for (int minute = 0; minute < 40; minute++) {
            BigInteger whole = wholeSum(numbersOf(train));
            check.same("more than 64 bits", whole.bitLength() > 64 ? 1 : 0, 1);
            check.same("digest() in " + minute, train.digest(), whole.longValue());
            negative += train.digest() < 0 ? 1 : 0;
            positive += train.digest() > 0 ? 1 : 0;
            train.pass(1);
        }
        check.same("digests below and above 0", negative > 0 && positive > 0 ? 1 : 0, 1);
    }

    private static void digestTakesNegativeNumbers() {
        check.sentence("for each of the following numbers x, d becomes d * 31 + x");
        NightSorters train = Trains.with(Trains.sorter(1, 1));
        train.post(0, 0);
        List<Integer> numbers = numbersOf(train);
        check.same("free hands", numbers.get(54), -1);
        check.same("in no hands", numbers.get(60), -1);
        check.same("in no minute", numbers.get(61), -1);
        check.same("digest()", train.digest(), wholeSum(numbers).longValue());
    }

    private static void digestOfAFullObject() {
        check.sentence("for each sorter what sorter() tells, in its order; for each letter what letter() tells");
        NightSorters train = Trains.with(Trains.sorter(1, ALL), Trains.sorter(2, ALL), Trains.sorter(3, ALL),
            Trains.sorter(9, 1 << 7));
        for (int letter = 0; letter < 60; letter++) {
            train.post(letter / 16, 15 - letter % 16);
        }
        train.tea(2);
        Trains.to(train, 50);
        List<Integer> numbers = numbersOf(train);
        check.same("numbers of a full object", numbers.size(), 10 + 24 + 16 + 28 + 300);
        check.same("digest()", train.digest(), wholeSum(numbers).longValue());
    }

    private static long powerOf31(int numbersBehind) {
        long power = 1;
        for (int i = 0; i < numbersBehind; i++) {
            power *= 31;
        }
        return power;
    }

    /** Of the 50 numbers of a new object the last station's three stand ahead of the 16 holes. */
    private static void digestTellsEachNumber() {
        check.sentence("for each station what station() tells, in its order; what hole() tells for each town");
        NightSorters train = new NightSorters();
        long before = train.digest();
        train.setStation(7, 161, 0);
        check.same("digest(), station 7 a minute later", train.digest() - before, powerOf31(18));
        train.setStation(7, 161, 3);
        check.same("digest(), and its jolt 3", train.digest() - before, powerOf31(18) + 3 * powerOf31(17));
        train.pass(1);
        check.same("digest(), a minute later", train.digest() - before,
            powerOf31(49) + powerOf31(18) + 3 * powerOf31(17));
    }
}
