/** Promises 26 to 28: data, what is told of them, and who reads them. */
public final class DataTest {
    private static final Check CHECK = new Check("DataTest");

    public static void main(String[] args) {
        parts();
        qualityBySeeing();
        qualityOfAVisitHandedOver();
        qualityByCalibration();
        alertsAreAlwaysGood();
        atMostAHundred();
        privateNights();
        alertsAreRead();
        CHECK.end();
    }

    private static void parts() {
        Cloudseed x = Skies.three();
        x.proposal(0, 0, 91, 0);
        x.proposal(0, 0, 90, 0);
        Skies.easy(x, 0, 2, 1);
        Skies.easy(x, 1, 3, 1);
        Skies.alert(x, 2, 1, 1, 0, 0);
        x.fault(0, 0, 1, 23);
        x.calibrate(2, 0, 1);
        CHECK.due("26: none", x.data(), 0);
        CHECK.fails("27: none", Check.INDEX, () -> x.datum(0, 0));
        x.run(3);
        CHECK.due("26: three", x.data(), 3);
        CHECK.datum(x, 0, Cloudseed.ALERT, 0, 0, 0, 90, 1, 0);
        CHECK.datum(x, 1, Cloudseed.TARGET, 0, 1, 1, 90, 0, 0);
        CHECK.datum(x, 2, Cloudseed.TARGET, 1, 2, 2, 90, 1, 0);
        CHECK.fails("27: data 3", Check.INDEX, () -> x.datum(3, 7));
        CHECK.fails("27: data -1", Check.INDEX, () -> x.datum(-1, 0));
        CHECK.fails("27: what 7", Check.ARGUMENT, () -> x.datum(0, 7));
        CHECK.fails("27: what -1", Check.ARGUMENT, () -> x.datum(0, -1));
    }

    private static void qualityBySeeing() {
        Cloudseed x = Skies.one();
        x.proposal(0, 0, 60, 0);
        Skies.easy(x, 0, 3, 2);
        x.weather(0, 0, 1, 1, 40);
        x.weather(0, 0, 2, 2, 1);
        x.weather(0, 0, 3, 3, 50);
        x.run(3);
        CHECK.datum(x, 0, Cloudseed.TARGET, 0, 0, 2, 60, 1, 0);
        x.weather(0, 1, 0, 0, 20);
        x.weather(0, 1, 1, 23, 5);
        x.run(24);
        CHECK.datum(x, 1, Cloudseed.TARGET, 0, 0, 26, 75, 1, 0);
    }

    private static void qualityOfAVisitHandedOver() {
        Cloudseed x = Skies.three();
        x.proposal(0, 0, 0, 0);
        Skies.easy(x, 0, 3, 1);
        x.calibrate(0, 0, 2);
        x.calibrate(1, 0, 1);
        x.calibrate(1, 0, 3);
        x.weather(0, 2, 0, 23, 0);
        x.weather(1, 0, 0, 23, 0);
        x.weather(2, 0, 0, 23, 0);
        x.weather(0, 0, 0, 23, 0);
        x.weather(0, 1, 0, 23, 0);
        x.weather(1, 1, 0, 23, 0);
        x.weather(2, 1, 0, 23, 0);
        x.weather(0, 2, 0, 0, 35);
        x.weather(1, 2, 0, 23, 8);
        x.weather(2, 2, 0, 23, 0);
        x.run(48);
        x.run(3);
        // The seeing is of the site 0, the calibration that of the site 1.
        CHECK.datum(x, 0, Cloudseed.TARGET, 0, 1, 50, 60, 1, 1);
    }

    private static void qualityByCalibration() {
        Cloudseed x = Skies.one();
        x.calibrate(0, 1, 5);
        x.proposal(0, 0, 65, 0);
        Skies.easy(x, 0, 1, 9);
        x.weather(0, 6, 0, 23, 11);
        x.run(48);
        x.run(48);
        x.run(48);
        x.run(1);
        int last = x.data() - 1;
        CHECK.datum(x, last, Cloudseed.TARGET, 0, 0, 144, 59, 0, 0);
        CHECK.datum(x, last - 1, Cloudseed.TARGET, 0, 0, 120, 65, 1, 0);
        x.calibrate(0, 0, 6);
        x.run(1);
        CHECK.datum(x, last + 1, Cloudseed.TARGET, 0, 0, 145, 89, 1, 6);
    }

    private static void alertsAreAlwaysGood() {
        Cloudseed x = Skies.one();
        x.alert(0, 1, 60, 0, 1, 0, 6, 5, 5);
        x.weather(0, 6, 5, 5, 50);
        x.run(48);
        x.run(48);
        x.run(48);
        x.run(6);
        CHECK.datum(x, 0, Cloudseed.ALERT, 0, 0, 149, 20, 1, 0);
        CHECK.due("23: served", x.served(0), true);
    }

    private static void atMostAHundred() {
        Cloudseed x = Skies.one();
        x.proposal(0, 0, 100, 0);
        x.proposal(0, 9, 0, 0);
        Skies.easy(x, 0, 1, 1);
        x.run(48);
        x.run(48);
        x.run(4);
        CHECK.due("26: a hundred", x.data(), 100);
        Skies.easy(x, 1, 1, 1);
        x.alert(1, 1, 60, 0, 1, 0, 4, 5, 5);
        x.run(2);
        CHECK.due("26: not more", x.data(), 100);
        CHECK.datum(x, 99, Cloudseed.TARGET, 0, 0, 99, 70, 0, 0);
        CHECK.fails("27: no hundred and first", Check.INDEX, () -> x.datum(100, 0));
        CHECK.due("22: the visit is good", x.visits(1), 1);
        CHECK.due("23: the alert is served", x.served(0), true);
        CHECK.due("24: the slots count", x.slots(0, false), 101);
        CHECK.due("24: those of the alert too", x.slots(1, false), 1);
    }

    private static void privateNights() {
        Cloudseed x = Skies.one();
        x.proposal(3, 0, 0, 2);
        x.proposal(1, 0, 0, 30);
        x.proposal(2, 0, 0, 0);
        Skies.easy(x, 0, 1, 1);
        Skies.easy(x, 1, 1, 1);
        Skies.easy(x, 2, 1, 1);
        x.fault(0, 0, 0, 23);
        x.run(27);
        CHECK.datum(x, 0, Cloudseed.TARGET, 1);
        CHECK.datum(x, 1, Cloudseed.TARGET, 2);
        CHECK.datum(x, 2, Cloudseed.TARGET, 0);
        CHECK.due("28: nobody ahead of it", x.reads(3, 2, 0), false);
        CHECK.due("28: its group at once", x.reads(3, 2, 1), true);
        CHECK.due("28: no other group", x.reads(0, 2, 1), false);
        CHECK.due("28: two nights later", x.reads(0, 2, 3), false);
        CHECK.due("28: its group still", x.reads(3, 2, 3), true);
        CHECK.due("28: behind these all", x.reads(0, 2, 4), true);
        CHECK.due("28: its group too", x.reads(3, 2, 29), true);
        CHECK.due("28: thirty nights", x.reads(0, 0, 29), false);
        CHECK.due("28: none private, but that one", x.reads(0, 1, 1), false);
        CHECK.due("28: its group in it", x.reads(2, 1, 1), true);
        CHECK.due("28: all in the next one", x.reads(0, 1, 2), true);
        CHECK.fails("28: group 4", Check.INDEX, () -> x.reads(4, 0, 0));
        CHECK.fails("28: group -1", Check.INDEX, () -> x.reads(-1, 0, 0));
        CHECK.fails("28: data 3", Check.INDEX, () -> x.reads(0, 3, 0));
        CHECK.fails("28: data -1", Check.INDEX, () -> x.reads(0, -1, 0));
        CHECK.fails("28: night 30", Check.INDEX, () -> x.reads(0, 0, 30));
        CHECK.fails("28: night -1", Check.INDEX, () -> x.reads(0, 0, -1));
    }

    private static void alertsAreRead() {
        Cloudseed x = Skies.one();
        x.proposal(0, 0, 0, 30);
        Skies.easy(x, 0, 1, 1);
        x.alert(1, 1, 60, 0, 1, 0, 1, 0, 23);
        x.run(25);
        CHECK.datum(x, 1, Cloudseed.ALERT, 0);
        for (int group = 0; group < 4; group++) {
            CHECK.due("28: by all", x.reads(group, 1, 1), true);
            CHECK.due("28: by nobody ahead of it", x.reads(group, 1, 0), false);
        }
    }
}
