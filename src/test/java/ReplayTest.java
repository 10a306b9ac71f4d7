/** Promises 29 and 30: nights that are replayed, and the best order of a few targets. */
public final class ReplayTest {
    private static final Check CHECK = new Check("ReplayTest");

    public static void main(String[] args) {
        asItWas();
        withWhatIsToldByNow();
        withTheSharesOfNow();
        withASeriesOfNow();
        aWholeNight();
        changesNothing();
        orderMatters();
        lowestFive();
        onlyThoseThatWant();
        weatherAndNights();
        wrongOrders();
        CHECK.end();
    }

    private static void asItWas() {
        Cloudseed x = Skies.one();
        x.proposal(0, 0, 0, 0);
        Skies.easy(x, 0, 1, 2);
        Skies.easy(x, 0, 2, 3);
        CHECK.fails("29: not run", Check.STATE, () -> x.replay(0));
        CHECK.fails("29: night 30", Check.INDEX, () -> x.replay(30));
        CHECK.fails("29: night -1", Check.INDEX, () -> x.replay(-1));
        x.run(48);
        CHECK.fails("29: its first slot was not run", Check.STATE, () -> x.replay(2));
        x.run(48);
        CHECK.due("29: two targets", x.replay(0), 2);
        CHECK.due("29: two in the next one too", x.replay(1), 2);
        CHECK.due("29: one has all its visits", x.replay(2), 1);
        CHECK.due("29: none wants more", x.replay(3), 0);
        CHECK.due("29: again", x.replay(0), 2);
    }

    private static void withWhatIsToldByNow() {
        Cloudseed x = Skies.one();
        x.proposal(0, 0, 80, 0);
        Skies.easy(x, 0, 1, 1);
        x.run(24);
        CHECK.due("29: as it was", x.replay(0), 1);
        Skies.easy(x, 0, 2, 1);
        CHECK.due("29: a target that is told later", x.replay(0), 2);
        Skies.alert(x, 1, 1, 6, 18, 23);
        CHECK.due("29: an alert that is told later", x.replay(0), 3);
        x.fault(0, 0, 23, 23);
        CHECK.due("29: a fault", x.replay(0), 2);
        x.weather(0, 0, 0, 22, 21);
        CHECK.due("29: weather", x.replay(0), 0);
        x.weather(0, 0, 0, 23, 0);
        x.place(1, -60, 240);
        x.calibrate(1, 0, 0);
        CHECK.due("29: a calibration of a site where nothing is high", x.replay(0), 0);
        x.place(1, 0, 0);
        CHECK.due("29: a site", x.replay(0), 3);
        CHECK.due("22: but it was not so", x.visits(1), 0);
        x.target(0, 0, 0, 1, 0, 0, 0, 50, 1);
        CHECK.due("29: dark", x.replay(0), 4);
        x.moon(15);
        CHECK.due("29: the moon", x.replay(0), 3);
    }

    private static void withTheSharesOfNow() {
        Cloudseed x = Skies.one();
        x.proposal(0, 0, 0, 0);
        x.proposal(1, 0, 0, 0);
        x.weather(0, 1, 6, 23, 0);
        Skies.easy(x, 0, 6, 9);
        Skies.easy(x, 1, 3, 9);
        Skies.easy(x, 1, 2, 9);
        x.weather(0, 0, 6, 23, 0);
        x.run(48);
        CHECK.due("24: the group 0 in the night 0", x.slots(0, false), 6);
        CHECK.due("24: the group 1 in the night 1", x.slots(1, false), 5);
        CHECK.due("29: with the slots that counted then", x.replay(1), 2);
        CHECK.due("29: one visit of six", x.replay(0), 1);
        CHECK.due("29: with none that count", x.replay(0), 1);
        x.share(0, 100);
        x.share(1, 0);
        CHECK.due("29: with the shares of now", x.replay(1), 1);
        x.share(0, 0);
        x.share(1, 1);
        CHECK.due("29: of the group 1", x.replay(1), 2);
    }

    private static void withASeriesOfNow() {
        Cloudseed x = Skies.one();
        x.proposal(0, 0, 0, 0);
        Skies.easy(x, 0, 1, 2);
        x.run(48);
        x.run(24);
        CHECK.due("29: it has its visits", x.replay(2), 0);
        x.series(0, 2, 9, 0);
        CHECK.due("29: not its night", x.replay(1), 0);
        CHECK.due("29: its j 0", x.replay(2), 1);
        x.run(24);
        CHECK.due("29: j 0 was not made", x.replay(2), 1);
        Cloudseed y = Skies.one();
        y.proposal(0, 0, 0, 0);
        Skies.easy(y, 0, 1, 2);
        y.series(0, 1, 9, 1);
        y.run(48);
        y.run(24);
        CHECK.due("22: j 0 is made once", y.visits(0), 1);
        CHECK.due("29: it was not made ahead of the night", y.replay(0), 1);
        CHECK.due("29: it was made by then", y.replay(1), 0);
    }

    private static void aWholeNight() {
        Cloudseed x = Skies.one();
        x.proposal(0, 0, 0, 0);
        Skies.easy(x, 0, 6, 1);
        Skies.easy(x, 0, 6, 1);
        x.run(1);
        CHECK.due("29: all slots of the night", x.replay(0), 2);
        CHECK.due("20: the visit goes on", x.goingOn(0, 2), 1);
    }

    private static void changesNothing() {
        Cloudseed x = Skies.three();
        x.proposal(0, 0, 0, 0);
        Skies.easy(x, 0, 6, 1);
        Skies.alert(x, 1, 1, 2, 2, 23);
        x.weather(2, 0, 4, 4, 0);
        x.run(2);
        x.run(3);
        String before = told(x);
        CHECK.due("29: both", x.replay(0), 2);
        CHECK.due("29: nothing is changed", before.equals(told(x)), true);
        x.run(20);
        CHECK.due("29: nor later", x.data(), 2);
    }

    private static String told(Cloudseed x) {
        StringBuilder all = new StringBuilder();
        for (int site = 0; site < 3; site++) {
            for (int what = 0; what < 3; what++) {
                all.append(x.goingOn(site, what)).append(' ');
            }
            all.append(x.lost(site, true)).append(' ').append(x.lost(site, false)).append(' ');
        }
        for (int group = 0; group < 4; group++) {
            all.append(x.slots(group, true)).append(' ').append(x.slots(group, false)).append(' ');
        }
        all.append(x.now()).append(' ').append(x.waiting()).append(' ').append(x.data()).append(' ');
        return all.append(x.visits(0)).append(' ').append(x.served(0)).toString();
    }

    private static void orderMatters() {
        Cloudseed x = Skies.one();
        x.proposal(0, 0, 0, 0);
        x.target(0, 0, 0, 6, 0, 0, 100, 50, 1);
        CHECK.due("30: one", x.bestOrder(0, 0), 6);
        // High in the slots 0 to 5 alone.
        x.target(0, 0, 0, 6, 0, 65, 100, 50, 1);
        CHECK.due("30: the one with less room goes first", x.bestOrder(0, 0), 12);
        x.target(0, 0, 0, 3, 0, 65, 100, 50, 1);
        CHECK.due("30: one is left out", x.bestOrder(0, 0), 12);
        // High in the slots 11 to 15 alone.
        x.target(0, 65, 0, 6, 0, 80, 100, 50, 1);
        CHECK.due("30: none suits", x.bestOrder(0, 0), 12);
        x.target(0, 65, 0, 5, 0, 80, 100, 50, 1);
        CHECK.due("30: 0 to 2, 3 to 8, 11 to 15", x.bestOrder(0, 0), 14);
    }

    private static void lowestFive() {
        Cloudseed x = Skies.one();
        x.proposal(0, 0, 0, 0);
        x.target(0, 200, 0, 1, 0, 30, 100, 50, 1);
        for (int target = 0; target < 5; target++) {
            Skies.easy(x, 0, 1, 1);
        }
        Skies.easy(x, 0, 6, 1);
        CHECK.due("30: the lowest 5 that have a chance", x.bestOrder(0, 0), 5);
    }

    private static void onlyThoseThatWant() {
        Cloudseed x = Skies.one();
        x.proposal(0, 0, 0, 0);
        Skies.easy(x, 0, 1, 1);
        Skies.easy(x, 0, 2, 2);
        for (int target = 0; target < 3; target++) {
            Skies.easy(x, 0, 4, 2);
        }
        Skies.easy(x, 0, 6, 2);
        x.target(0, 60, 0, 6, 0, 0, 100, 9, 1);
        CHECK.due("30: ahead of the visits", x.bestOrder(0, 1), 15);
        x.run(24);
        CHECK.due("30: one has its visits", x.bestOrder(0, 1), 20);
        CHECK.due("30: none in the same night again", x.bestOrder(0, 0), 0);
        x.weather(0, 0, 0, 23, 9);
        CHECK.due("30: but the one that was not made", x.bestOrder(0, 0), 6);
    }

    private static void weatherAndNights() {
        Cloudseed x = Skies.one();
        x.proposal(0, 0, 0, 0);
        for (int target = 0; target < 5; target++) {
            Skies.easy(x, 0, 6, 1);
        }
        CHECK.due("30: four fill the night", x.bestOrder(0, 0), 24);
        x.weather(0, 0, 0, 0, 0);
        CHECK.due("30: three from the slot 1 on", x.bestOrder(0, 0), 18);
        x.weather(0, 0, 0, 0, 10);
        x.weather(0, 0, 6, 6, 0);
        CHECK.due("30: a gap", x.bestOrder(0, 0), 18);
        CHECK.due("30: the calibration is too old", x.bestOrder(0, 7), 0);
        CHECK.due("30: not calibrated", x.bestOrder(1, 0), 0);
    }

    private static void wrongOrders() {
        Cloudseed x = Skies.one();
        CHECK.due("30: no targets", x.bestOrder(2, 29), 0);
        CHECK.fails("30: site 3", Check.INDEX, () -> x.bestOrder(3, 0));
        CHECK.fails("30: site -1", Check.INDEX, () -> x.bestOrder(-1, 0));
        CHECK.fails("30: night 30", Check.INDEX, () -> x.bestOrder(0, 30));
        CHECK.fails("30: night -1", Check.INDEX, () -> x.bestOrder(0, -1));
    }
}
