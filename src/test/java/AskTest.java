/** Promises 11 to 17: groups, proposals, targets, series, alerts, and what suits. */
public final class AskTest {
    private static final Check CHECK = new Check("AskTest");

    public static void main(String[] args) {
        share();
        proposal();
        target();
        series();
        seriesOfATargetThatHasVisits();
        alert();
        wants();
        chancesByHeights();
        chancesByWeather();
        chancesByInstrumentAndCalibration();
        chancesByMoon();
        CHECK.end();
    }

    private static void share() {
        Cloudseed x = new Cloudseed();
        CHECK.due("11: before", x.share(3, 100), 25);
        CHECK.due("11: set", x.share(3, 0), 100);
        CHECK.due("11: another group", x.share(0, 0), 25);
        CHECK.fails("11: group 4", Check.INDEX, () -> x.share(4, 101));
        CHECK.fails("11: group -1", Check.INDEX, () -> x.share(-1, 0));
        CHECK.fails("11: share 101", Check.ARGUMENT, () -> x.share(3, 101));
        CHECK.fails("11: share -1", Check.ARGUMENT, () -> x.share(3, -1));
        CHECK.due("11: wrong ones change nothing", x.share(3, 5), 0);
    }

    private static void proposal() {
        Cloudseed x = new Cloudseed();
        CHECK.fails("12: group 4", Check.INDEX, () -> x.proposal(4, 10, 0, 0));
        CHECK.fails("12: rank 10", Check.ARGUMENT, () -> x.proposal(0, 10, 0, 0));
        CHECK.fails("12: rank -1", Check.ARGUMENT, () -> x.proposal(0, -1, 0, 0));
        CHECK.fails("12: quality 101", Check.ARGUMENT, () -> x.proposal(0, 0, 101, 0));
        CHECK.fails("12: quality -1", Check.ARGUMENT, () -> x.proposal(0, 0, -1, 0));
        CHECK.fails("12: nights 31", Check.ARGUMENT, () -> x.proposal(0, 0, 0, 31));
        CHECK.fails("12: nights -1", Check.ARGUMENT, () -> x.proposal(0, 0, 0, -1));
        for (int number = 0; number < 8; number++) {
            CHECK.due("12: number", x.proposal(number % 4, 9, 100, 30), number);
        }
        CHECK.fails("12: there are 8", Check.STATE, () -> x.proposal(0, 0, 0, 0));
        CHECK.fails("12: range ahead of that", Check.ARGUMENT, () -> x.proposal(0, 0, 0, 31));
        CHECK.fails("12: group ahead of that", Check.INDEX, () -> x.proposal(-1, 0, 0, 0));
        CHECK.fails("12: still 8", Check.INDEX, () -> x.target(8, 0, 0, 1, 0, 0, 0, 1, 1));
    }

    private static void target() {
        Cloudseed x = new Cloudseed();
        x.proposal(0, 0, 0, 0);
        CHECK.fails("13: proposal 1", Check.INDEX, () -> x.target(1, 360, 0, 1, 0, 0, 0, 1, 1));
        CHECK.fails("13: proposal -1", Check.INDEX, () -> x.target(-1, 0, 0, 1, 0, 0, 0, 1, 1));
        CHECK.fails("13: instrument 3", Check.INDEX, () -> x.target(0, 360, 0, 1, 3, 0, 0, 1, 1));
        CHECK.fails("13: instrument -1", Check.INDEX, () -> x.target(0, 0, 0, 1, -1, 0, 0, 1, 1));
        int[][] wrong = {
            {-1, 0, 1, 0, 0, 1, 1}, {360, 0, 1, 0, 0, 1, 1}, {0, -91, 1, 0, 0, 1, 1}, {0, 91, 1, 0, 0, 1, 1},
            {0, 0, 0, 0, 0, 1, 1}, {0, 0, 7, 0, 0, 1, 1}, {0, 0, 1, -1, 0, 1, 1}, {0, 0, 1, 91, 0, 1, 1},
            {0, 0, 1, 0, -1, 1, 1}, {0, 0, 1, 0, 101, 1, 1}, {0, 0, 1, 0, 0, 0, 1}, {0, 0, 1, 0, 0, 51, 1},
            {0, 0, 1, 0, 0, 1, 0}, {0, 0, 1, 0, 0, 1, 11},
        };
        for (int[] w : wrong) {
            CHECK.fails("13: out of range", Check.ARGUMENT,
                    () -> x.target(0, w[0], w[1], w[2], 0, w[3], w[4], w[5], w[6]));
        }
        CHECK.fails("13: none made", Check.INDEX, () -> x.visits(0));
        for (int number = 0; number < 24; number++) {
            CHECK.due("13: number", x.target(0, 359, number % 2 == 0 ? 90 : -90, 6, 2, 90, 100, 50, 10), number);
        }
        CHECK.fails("13: there are 24", Check.STATE, () -> x.target(0, 0, 0, 1, 0, 0, 0, 1, 1));
        CHECK.fails("13: range ahead of that", Check.ARGUMENT, () -> x.target(0, 0, 0, 7, 0, 0, 0, 1, 1));
        CHECK.fails("13: instrument ahead of that", Check.INDEX, () -> x.target(0, 0, 0, 1, 3, 0, 0, 1, 1));
        CHECK.fails("13: still 24", Check.INDEX, () -> x.visits(24));
    }

    private static void series() {
        Cloudseed x = new Cloudseed();
        x.proposal(0, 0, 0, 0);
        x.target(0, 0, 0, 1, 0, 0, 100, 50, 3);
        CHECK.fails("14: target 1", Check.INDEX, () -> x.series(1, 0, 0, 0));
        CHECK.fails("14: target -1", Check.INDEX, () -> x.series(-1, 0, 1, 0));
        CHECK.fails("14: night 30", Check.INDEX, () -> x.series(0, 30, 0, 0));
        CHECK.fails("14: night -1", Check.INDEX, () -> x.series(0, -1, 1, 0));
        CHECK.fails("14: period 0", Check.ARGUMENT, () -> x.series(0, 0, 0, 0));
        CHECK.fails("14: period 31", Check.ARGUMENT, () -> x.series(0, 0, 31, 0));
        CHECK.fails("14: tolerance -1", Check.ARGUMENT, () -> x.series(0, 0, 9, -1));
        CHECK.fails("14: tolerance 6", Check.ARGUMENT, () -> x.series(0, 0, 30, 6));
        CHECK.fails("14: half of the period", Check.ARGUMENT, () -> x.series(0, 0, 10, 5));
        CHECK.due("14: no series yet", x.wants(0, 29), true);
        x.series(0, 2, 12, 5);
        for (int night = 0; night < 30; night++) {
            CHECK.due("14: wants in " + night, x.wants(0, night), night != 8 && night != 20);
        }
        CHECK.fails("14: a series already", Check.STATE, () -> x.series(0, 2, 11, 5));
        CHECK.fails("14: range ahead of that", Check.ARGUMENT, () -> x.series(0, 2, 10, 5));
        CHECK.fails("14: night ahead of that", Check.INDEX, () -> x.series(0, 30, 10, 5));
        CHECK.due("14: one night of the period 1", oneNightSeries(29), true);
        CHECK.due("14: none ahead of it", oneNightSeries(28), false);
    }

    private static boolean oneNightSeries(int night) {
        Cloudseed x = new Cloudseed();
        x.proposal(0, 0, 0, 0);
        x.target(0, 0, 0, 1, 0, 0, 100, 50, 10);
        x.series(0, 29, 1, 0);
        return x.wants(0, night);
    }

    private static void seriesOfATargetThatHasVisits() {
        Cloudseed x = Skies.one();
        x.proposal(0, 0, 0, 0);
        x.target(0, 60, 0, 1, 0, 0, 100, 50, 2);
        x.run(1);
        CHECK.due("14: not twice in a night", x.wants(0, 0), false);
        x.series(0, 0, 4, 1);
        CHECK.due("14: visits stay", x.visits(0), 1);
        CHECK.due("14: they count for nothing else", x.wants(0, 0), true);
        x.run(1);
        CHECK.due("14: a visit for j 0", x.visits(0), 2);
        CHECK.due("14: j 0 is made", x.wants(0, 1), false);
        CHECK.due("14: j 1 is not", x.wants(0, 3), true);
        x.run(48);
        x.run(48);
        CHECK.due("14: a visit for j 1", x.visits(0), 3);
        CHECK.due("14: j 1 is made", x.wants(0, 5), false);
        CHECK.due("14: there is no j 2", x.wants(0, 8), false);
    }

    private static void alert() {
        Cloudseed x = new Cloudseed();
        int[][] missing = {
            {4, 0, 0, 0, 0}, {-1, 0, 0, 0, 0}, {0, 3, 0, 0, 0}, {0, -1, 0, 0, 0}, {0, 0, 30, 0, 0},
            {0, 0, -1, 0, 0}, {0, 0, 0, 24, 0}, {0, 0, 0, -1, 0}, {0, 0, 0, 0, 24}, {0, 0, 0, 0, -1},
        };
        for (int[] m : missing) {
            CHECK.fails("15: there is none", Check.INDEX, () -> x.alert(m[0], 0, 0, 0, 1, m[1], m[2], m[3], m[4]));
        }
        int[][] wrong = {
            {0, 0, 0, 1, 0, 0}, {10, 0, 0, 1, 0, 0}, {1, -1, 0, 1, 0, 0}, {1, 360, 0, 1, 0, 0}, {1, 0, -91, 1, 0, 0},
            {1, 0, 91, 1, 0, 0}, {1, 0, 0, 0, 0, 0}, {1, 0, 0, 7, 0, 0}, {1, 0, 0, 1, 5, 4},
        };
        for (int[] w : wrong) {
            CHECK.fails("15: out of range", Check.ARGUMENT, () -> x.alert(0, w[0], w[1], w[2], w[3], 0, 0, w[4], w[5]));
        }
        CHECK.fails("15: none made", Check.INDEX, () -> x.served(0));
        for (int number = 0; number < 10; number++) {
            CHECK.due("15: number", x.alert(3, 9, 359, -90, 6, 2, 29, 23, 23), number);
        }
        CHECK.fails("15: there are 10", Check.STATE, () -> x.alert(0, 1, 0, 0, 1, 0, 0, 0, 0));
        CHECK.fails("15: range ahead of that", Check.ARGUMENT, () -> x.alert(0, 1, 0, 0, 1, 0, 0, 1, 0));
        CHECK.fails("15: night ahead of that", Check.INDEX, () -> x.alert(0, 1, 0, 0, 1, 0, 30, 0, 0));
    }

    private static void wants() {
        Cloudseed x = Skies.one();
        x.proposal(0, 0, 0, 0);
        x.target(0, 60, 0, 1, 0, 0, 100, 50, 2);
        CHECK.due("16: at first", x.wants(0, 29), true);
        x.run(1);
        CHECK.due("16: not in the night of a good one", x.wants(0, 0), false);
        CHECK.due("16: in another one", x.wants(0, 1), true);
        x.run(24);
        CHECK.due("16: none behind its number", x.wants(0, 2), false);
        CHECK.fails("16: target 1", Check.INDEX, () -> x.wants(1, 0));
        CHECK.fails("16: target -1", Check.INDEX, () -> x.wants(-1, 0));
        CHECK.fails("16: night 30", Check.INDEX, () -> x.wants(0, 30));
        CHECK.fails("16: night -1", Check.INDEX, () -> x.wants(0, -1));
    }

    private static void chancesByHeights() {
        Cloudseed x = Skies.one();
        x.proposal(0, 0, 0, 0);
        x.target(0, 60, 0, 1, 0, 80, 100, 50, 1);
        x.target(0, 60, 0, 5, 0, 80, 100, 50, 1);
        x.target(0, 60, 0, 6, 0, 80, 100, 50, 1);
        x.target(0, 115, 0, 1, 0, 85, 100, 50, 1);
        x.target(0, 115, 0, 2, 0, 85, 100, 50, 1);
        x.target(0, 115, 0, 3, 0, 85, 100, 50, 1);
        CHECK.due("17: high in the slots 10 to 14", x.chances(0, 0, 0), 5);
        CHECK.due("17: in all slots of its length", x.chances(1, 0, 0), 1);
        CHECK.due("17: too long", x.chances(2, 0, 0), 0);
        CHECK.due("17: the last slots", x.chances(3, 0, 0), 2);
        CHECK.due("17: up to the end of the night", x.chances(4, 0, 0), 1);
        CHECK.due("17: not behind it", x.chances(5, 0, 0), 0);
        CHECK.due("17: a degree later", x.chances(0, 0, 1), 4);
        CHECK.fails("17: target", Check.INDEX, () -> x.chances(6, 0, 0));
        CHECK.fails("17: site", Check.INDEX, () -> x.chances(0, 3, 0));
        CHECK.fails("17: night", Check.INDEX, () -> x.chances(0, 0, 30));
    }

    private static void chancesByWeather() {
        Cloudseed x = Skies.one();
        x.proposal(0, 0, 0, 0);
        x.target(0, 60, 0, 3, 0, 0, 100, 20, 1);
        CHECK.due("17: all but the last two", x.chances(0, 0, 0), 22);
        x.weather(0, 0, 5, 6, 0);
        CHECK.due("17: closed in the first one", x.chances(0, 0, 0), 20);
        x.fault(0, 0, 6, 7);
        CHECK.due("17: a fault closes too", x.chances(0, 0, 0), 19);
        x.weather(0, 0, 10, 10, 20);
        CHECK.due("17: the most seeing", x.chances(0, 0, 0), 19);
        x.weather(0, 0, 10, 10, 21);
        CHECK.due("17: above it", x.chances(0, 0, 0), 18);
    }

    private static void chancesByInstrumentAndCalibration() {
        Cloudseed x = new Cloudseed();
        x.proposal(0, 0, 0, 0);
        x.target(0, 60, 0, 1, 1, 0, 100, 50, 1);
        x.calibrate(0, 0, 3);
        x.calibrate(0, 1, 3);
        CHECK.due("17: another instrument", x.chances(0, 0, 3), 0);
        x.mount(0, 0, 1);
        CHECK.due("17: calibrated later", x.chances(0, 0, 2), 0);
        CHECK.due("17: calibrated in the night", x.chances(0, 0, 3), 24);
        CHECK.due("17: 6 nights old", x.chances(0, 0, 9), 24);
        CHECK.due("17: 7 nights old", x.chances(0, 0, 10), 0);
        x.calibrate(0, 1, 10);
        CHECK.due("17: the newest one", x.chances(0, 0, 10), 24);
        x.mount(0, 9, 2);
        CHECK.due("17: changed by day", x.chances(0, 0, 9), 0);
        CHECK.due("17: not on another site", x.chances(0, 1, 3), 0);
    }

    private static void chancesByMoon() {
        Cloudseed x = Skies.one();
        x.calibrate(0, 0, 5);
        x.proposal(0, 0, 0, 0);
        // In the night 5 the moon has the light 34, and stands at 60, 0.
        x.target(0, 60, 0, 1, 0, 0, 34, 50, 1);
        x.target(0, 60, 0, 1, 0, 0, 33, 50, 1);
        x.target(0, 1, 59, 1, 0, 0, 33, 50, 1);
        x.target(0, 0, 0, 1, 0, 0, 33, 50, 1);
        x.target(0, 60, -60, 1, 0, 0, 33, 50, 1);
        x.target(0, 119, 0, 1, 0, 0, 33, 50, 1);
        x.target(0, 120, 0, 1, 0, 0, 33, 50, 1);
        CHECK.due("17: light", x.light(5), 34);
        CHECK.due("17: the most light", x.chances(0, 0, 5), 24);
        CHECK.due("17: more light", x.chances(1, 0, 5), 0);
        CHECK.due("17: 59 degrees away", x.chances(2, 0, 5), 0);
        CHECK.due("17: 60 degrees away", x.chances(3, 0, 5) > 0, true);
        CHECK.due("17: 60 degrees by declination", x.chances(4, 0, 5) > 0, true);
        CHECK.due("17: 59 degrees by right ascension", x.chances(5, 0, 5), 0);
        CHECK.due("17: 60 degrees by right ascension", x.chances(6, 0, 5) > 0, true);
        x.moon(29);
        CHECK.due("17: by the phase", x.chances(1, 0, 5), 24);
    }
}
