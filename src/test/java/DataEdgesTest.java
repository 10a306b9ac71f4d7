/** Boundary cases of promises 26 to 28, which tell of data: a test for each sentence that names one. */
public final class DataEdgesTest {
    private static final Check CHECK = new Check("DataEdgesTest");
    private static final Class<? extends RuntimeException> INDEX = Check.INDEX;
    private static final Class<? extends RuntimeException> ARGUMENT = Check.ARGUMENT;
    private static final int TARGET = Cloudseed.TARGET;
    private static final int ALERT = Cloudseed.ALERT;

    private static final Asked DATUM = new Asked(CHECK, Skies::busy, (x, a) -> x.datum(a[0], a[1]), 0, 0);
    private static final Asked READS = new Asked(CHECK, Skies::busy, (x, a) -> x.reads(a[0], a[1], a[2]), 0, 0, 29);
    private static final Asked FIRST_DATUM = new Asked(CHECK, Cloudseed::new, (x, a) -> x.datum(a[0], a[1]));
    private static final Asked FIRST_READS = new Asked(CHECK, Cloudseed::new, (x, a) -> x.reads(a[0], a[1], a[2]));

    public static void main(String[] args) {
        CHECK.runEach(DataEdgesTest.class);
    }

    /** The site 0 can observe a target of one slot after the other, none of which is good. */
    private static Cloudseed neverGood() {
        Cloudseed x = Skies.one();
        x.proposal(0, 0, 100, 0);
        Skies.easy(x, 0, 1, 1);
        return x;
    }

    /** A target of three slots, and its proposal's least quality. */
    private static Cloudseed three(int quality) {
        Cloudseed x = Skies.one();
        x.proposal(0, 0, quality, 0);
        Skies.easy(x, 0, 3, 1);
        return x;
    }

    // ---- promise 26: data

    private static void promise26None() {
        Cloudseed x = neverGood();
        CHECK.due("at first", x.data(), 0);
        x.run(1);
        CHECK.due("one", x.data(), 1);
    }

    private static void promise26AtMost100() {
        Cloudseed x = neverGood();
        Skies.run(x, 99);
        CHECK.due("99", x.data(), 99);
        x.run(1);
        CHECK.due("100", x.data(), 100);
        x.run(1);
        CHECK.due("not 101", x.data(), 100);
        Skies.run(x, 600);
        CHECK.due("never more", x.data(), 100);
    }

    private static void promise26TheFirst100AreKept() {
        Cloudseed x = neverGood();
        Skies.run(x, 150);
        CHECK.datum(x, 0, TARGET, 0, 0, 0);
        CHECK.datum(x, 99, TARGET, 0, 0, 99);
        CHECK.fails("no more", INDEX, () -> x.datum(100, 0));
        CHECK.due("the last ones are read", x.reads(3, 99, 29), true);
        CHECK.fails("none that are read", INDEX, () -> x.reads(0, 100, 29));
    }

    private static void promise26AllElseIsDoneBehind100() {
        Cloudseed x = neverGood();
        Skies.run(x, 100);
        x.proposal(1, 9, 0, 0);
        Skies.easy(x, 1, 2, 1);
        x.alert(2, 1, 60, 0, 2, 0, 4, 6, 7);
        x.run(2);
        CHECK.idle("it is done", x, 0);
        CHECK.due("a good visit", x.visits(1), 1);
        CHECK.due("it wants none any more", x.wants(1, 4), false);
        CHECK.due("its slots count", x.slots(1, false), 2);
        x.run(2);
        CHECK.due("an alert is served", x.served(0), true);
        CHECK.due("its slots count, too", x.slots(2, false), 2);
        CHECK.due("but no data are kept", x.data(), 100);
    }

    // ---- promise 27: datum

    private static void promise27Data() {
        DATUM.range(0, 0, 13, INDEX);
    }

    private static void promise27NoDataAtFirst() {
        FIRST_DATUM.refused(INDEX, 0, 0);
        FIRST_DATUM.refused(INDEX, -1, 0);
    }

    private static void promise27What() {
        DATUM.range(1, 0, 6, ARGUMENT);
    }

    private static void promise27NoSuchDataIsThrownFirst() {
        DATUM.refused(INDEX, 14, 7);
        DATUM.refused(INDEX, -1, -1);
        FIRST_DATUM.refused(INDEX, 0, 7);
    }

    private static void promise27InTheOrderInWhichTheyWereMade() {
        Cloudseed x = Skies.three();
        x.proposal(0, 0, 0, 0);
        Skies.easy(x, 0, 2, 1);
        Skies.easy(x, 0, 2, 1);
        Skies.easy(x, 0, 1, 1);
        x.alert(1, 1, 60, 0, 2, 0, 0, 2, 23);
        x.run(4);
        CHECK.datum(x, 0, TARGET, 2, 2, 0);
        CHECK.datum(x, 1, TARGET, 0, 0, 1);
        CHECK.datum(x, 2, TARGET, 1, 1, 1);
        CHECK.datum(x, 3, ALERT, 0, 0, 3);
    }

    private static void promise27TheLeastNumbersAndTheGreatestOnes() {
        Cloudseed x = Skies.one();
        x.calibrate(2, 0, 29);
        x.place(2, 0, 0);
        x.proposal(0, 0, 0, 0);
        for (int i = 0; i < 23; i++) {
            x.target(0, 60, 0, 1, 2, 0, 100, 50, 1);
        }
        Skies.easy(x, 0, 1, 1);
        x.weather(0, 0, 0, 23, 0);
        x.weather(2, 29, 0, 22, 0);
        Skies.alert(x, 0, 1, 1, 0, 0);
        x.weather(0, 0, 0, 0, 1);
        Skies.run(x, 25);
        CHECK.datum(x, 0, ALERT, 0, 0, 0, 99, 1, 0);
        CHECK.datum(x, 1, TARGET, 23, 0, 24, 85, 1, 0);
        for (int i = 0; i < 9; i++) {
            x.alert(3, 1, 100, 0, 1, 0, 29, 23, 23);
        }
        x.weather(2, 29, 23, 23, 50);
        Skies.run(x, 695);
        CHECK.datum(x, 2, ALERT, 1, 2, 719, 50, 1, 29);
        CHECK.due("one site alone", x.data(), 3);
    }

    private static void promise27TheAlert9() {
        Cloudseed x = Skies.one();
        for (int i = 0; i < 10; i++) {
            Skies.alert(x, 0, i < 9 ? 1 : 9, 1, 0, 0);
        }
        x.run(1);
        CHECK.datum(x, 0, ALERT, 9, 0, 0, 90, 1, 0);
    }

    private static void promise27TheGreatestSeeingOfAllSlots() {
        for (int worst = 0; worst < 3; worst++) {
            Cloudseed x = three(0);
            x.weather(0, 0, worst, worst, 11);
            x.run(3);
            CHECK.datum(x, 0, TARGET, 0, 0, 2, 89, 1, 0);
        }
    }

    private static void promise27NoSeeingButThoseOfItsSlots() {
        Cloudseed x = Skies.one();
        x.proposal(0, 0, 0, 0);
        x.weather(0, 0, 0, 0, 50);
        x.target(0, 60, 0, 3, 0, 0, 100, 10, 1);
        x.weather(0, 0, 4, 4, 50);
        x.run(4);
        CHECK.datum(x, 0, TARGET, 0, 0, 3, 90, 1, 0);
    }

    private static void promise27TheSeeingOfTheSitesWhereItsSlotsWere() {
        Cloudseed x = Skies.three();
        x.proposal(0, 0, 0, 0);
        Skies.easy(x, 0, 4, 1);
        x.weather(0, 0, 0, 1, 20);
        x.weather(0, 0, 2, 23, 0);
        x.weather(1, 0, 0, 1, 50);
        x.weather(1, 0, 2, 2, 21);
        x.weather(1, 0, 3, 3, 0);
        x.weather(2, 0, 0, 2, 50);
        x.weather(2, 0, 3, 3, 5);
        x.run(4);
        CHECK.datum(x, 0, TARGET, 0, 2, 3, 79, 1, 0);
    }

    private static void promise27TheLeastSeeingIs1AndTheMost50() {
        Cloudseed x = three(0);
        x.weather(0, 0, 0, 23, 1);
        x.run(3);
        CHECK.datum(x, 0, TARGET, 0, 0, 2, 99);
        Cloudseed y = three(0);
        y.weather(0, 0, 0, 23, 50);
        y.run(3);
        CHECK.datum(y, 0, TARGET, 0, 0, 2, 50);
    }

    private static void promise27FiveForEachNightOfTheCalibration() {
        Cloudseed x = Skies.one();
        x.proposal(0, 0, 0, 0);
        Skies.easy(x, 0, 1, 10);
        Skies.run(x, 145);
        for (int night = 0; night <= 6; night++) {
            CHECK.datum(x, night, TARGET, 0, 0, 24 * night, 90 - 5 * night, 1, 0);
        }
    }

    private static void promise27TheLeastQualityThatThereCanBe() {
        Cloudseed x = Skies.one();
        x.proposal(0, 0, 20, 0);
        Skies.run(x, 144);
        Skies.easy(x, 0, 1, 1);
        x.weather(0, 6, 0, 23, 50);
        x.run(1);
        CHECK.datum(x, 0, TARGET, 0, 0, 144, 20, 1, 0);
    }

    private static void promise27TheNewestCalibrationUpToTheNight() {
        Cloudseed x = Skies.one();
        x.proposal(0, 0, 0, 0);
        x.calibrate(0, 0, 3);
        x.calibrate(0, 0, 2);
        x.calibrate(0, 0, 5);
        x.calibrate(0, 1, 4);
        Skies.easy(x, 0, 1, 10);
        Skies.run(x, 121);
        int[] calibrated = {0, 0, 2, 3, 3, 5};
        for (int night = 0; night < calibrated.length; night++) {
            int quality = 90 - 5 * (night - calibrated[night]);
            CHECK.datum(x, night, TARGET, 0, 0, 24 * night, quality, 1, calibrated[night]);
        }
    }

    private static void promise27TheCalibrationOfTheSiteWhereItWasDone() {
        Cloudseed x = Skies.three();
        x.proposal(0, 0, 0, 0);
        x.calibrate(0, 0, 2);
        x.calibrate(1, 0, 1);
        x.run(48);
        Skies.easy(x, 0, 2, 1);
        x.weather(0, 2, 1, 23, 0);
        x.run(2);
        CHECK.datum(x, 0, TARGET, 0, 1, 49, 85, 1, 1);
    }

    private static void promise27GoodIfItIsAtLeastTheLeastQuality() {
        for (int quality = 89; quality <= 91; quality++) {
            Cloudseed x = three(quality);
            x.run(3);
            CHECK.datum(x, 0, TARGET, 0, 0, 2, 90, quality <= 90 ? 1 : 0);
            CHECK.due("a good visit", x.visits(0), quality <= 90 ? 1 : 0);
        }
    }

    private static void promise27TheLeastQualitiesOfAll() {
        int[] least = {0, 98, 99, 100};
        for (int quality : least) {
            Cloudseed x = three(quality);
            x.weather(0, 0, 0, 23, 1);
            x.run(3);
            CHECK.datum(x, 0, TARGET, 0, 0, 2, 99, quality <= 99 ? 1 : 0);
        }
        Cloudseed y = three(0);
        y.weather(0, 0, 0, 23, 50);
        y.run(3);
        CHECK.datum(y, 0, TARGET, 0, 0, 2, 50, 1);
    }

    private static void promise27ThoseOfAnAlertAreAlwaysGood() {
        Cloudseed x = Skies.one();
        x.proposal(0, 0, 100, 0);
        x.alert(0, 1, 60, 0, 1, 0, 6, 0, 20);
        x.weather(0, 6, 0, 23, 50);
        Skies.run(x, 149);
        CHECK.datum(x, 0, ALERT, 0, 0, 144, 20, 1, 0);
        CHECK.due("it is served", x.served(0), true);
    }

    private static void promise27WhatIsToldLaterChangesNoData() {
        Cloudseed x = three(0);
        x.calibrate(0, 0, 1);
        x.run(24);
        x.weather(0, 0, 0, 23, 50);
        x.calibrate(0, 0, 0);
        x.share(0, 0);
        CHECK.datum(x, 0, TARGET, 0, 0, 2, 90, 1, 0);
    }

    // ---- promise 28: reads

    private static void promise28Group() {
        READS.range(0, 0, 3, INDEX);
    }

    private static void promise28Data() {
        READS.range(1, 0, 13, INDEX);
    }

    private static void promise28NoDataAtFirst() {
        FIRST_READS.refused(INDEX, 0, 0, 0);
    }

    private static void promise28Night() {
        READS.range(2, 0, 29, INDEX);
    }

    /** Data of the group 2 that were made in the night 1. */
    private static Cloudseed privateFor(int nights) {
        Cloudseed x = Skies.one();
        x.proposal(2, 0, 0, nights);
        Skies.easy(x, 0, 1, 1);
        x.weather(0, 0, 0, 23, 0);
        x.run(25);
        return x;
    }

    private static void promise28PrivateForAsManyNights() {
        int[] nights = {0, 1, 2, 27, 28, 30};
        for (int many : nights) {
            Cloudseed x = privateFor(many);
            for (int night = 0; night < 30; night++) {
                for (int group = 0; group < 4; group++) {
                    boolean reads = night >= 1 && (group == 2 || night > 1 + many);
                    CHECK.due(many + " nights, group " + group + ", night " + night,
                            x.reads(group, 0, night), reads);
                }
            }
        }
    }

    private static void promise28TheNightInWhichTheyWereMadeCountsAsNone() {
        Cloudseed x = privateFor(0);
        CHECK.due("in it, another group", x.reads(1, 0, 1), false);
        CHECK.due("in it, its group", x.reads(2, 0, 1), true);
        CHECK.due("in the next one, another group", x.reads(1, 0, 2), true);
    }

    private static void promise28ThirtyNightsAreToTheEnd() {
        Cloudseed x = Skies.one();
        x.proposal(2, 0, 0, 30);
        x.proposal(1, 0, 0, 29);
        x.proposal(0, 0, 0, 28);
        for (int proposal = 0; proposal < 3; proposal++) {
            Skies.easy(x, proposal, 1, 1);
        }
        x.run(3);
        CHECK.datum(x, 0, TARGET, 2);
        CHECK.due("28 nights, in the 29th", x.reads(3, 0, 29), true);
        CHECK.due("28 nights, in the 28th", x.reads(3, 0, 28), false);
        CHECK.due("29 nights, in the 29th", x.reads(3, 1, 29), false);
        CHECK.due("30 nights, in the 29th", x.reads(3, 2, 29), false);
        CHECK.due("30 nights, its group", x.reads(2, 2, 29), true);
    }

    private static void promise28NobodyAheadOfTheNight() {
        Cloudseed x = Skies.one();
        x.proposal(2, 0, 0, 0);
        x.weather(0, 0, 0, 23, 0);
        Skies.easy(x, 0, 1, 1);
        x.alert(1, 1, 60, 0, 1, 0, 1, 0, 0);
        x.run(26);
        CHECK.datum(x, 0, ALERT, 0);
        CHECK.datum(x, 1, TARGET, 0);
        for (int group = 0; group < 4; group++) {
            CHECK.due("data of an alert, the night ahead", x.reads(group, 0, 0), false);
            CHECK.due("data of a target, the night ahead", x.reads(group, 1, 0), false);
        }
    }

    private static void promise28DataOfAlertsAreReadByAll() {
        Cloudseed x = Skies.one();
        x.proposal(0, 0, 0, 30);
        Skies.alert(x, 0, 1, 1, 0, 0);
        x.run(1);
        for (int group = 0; group < 4; group++) {
            CHECK.due("at once", x.reads(group, 0, 0), true);
            CHECK.due("in the last night", x.reads(group, 0, 29), true);
        }
    }

    private static void promise28DataThatAreNotGoodAreReadAlike() {
        Cloudseed x = neverGood();
        x.run(1);
        CHECK.due("another group in the night", x.reads(1, 0, 0), false);
        CHECK.due("behind it", x.reads(1, 0, 1), true);
    }

    private static void promise28TheProposalOfTheTarget() {
        Cloudseed x = Skies.one();
        for (int proposal = 0; proposal < 8; proposal++) {
            x.proposal(proposal % 4, 0, 0, proposal);
        }
        for (int proposal = 7; proposal >= 0; proposal--) {
            Skies.easy(x, proposal, 1, 1);
        }
        x.run(8);
        for (int data = 0; data < 8; data++) {
            int proposal = 7 - x.datum(data, 1);
            int other = (proposal + 1) % 4;
            CHECK.due("the last private night", x.reads(other, data, proposal), false);
            CHECK.due("the first night behind", x.reads(other, data, proposal + 1), true);
            CHECK.due("its group", x.reads(proposal % 4, data, 0), true);
        }
    }

    private static void promise28QuestionsChangeNothing() {
        DATUM.changesNothing(13, 6);
        READS.changesNothing(3, 13, 29);
    }
}
