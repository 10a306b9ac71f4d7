/** Boundary cases of promises 29 and 30, and of the 512 calls: a test for each sentence that names one. */
public final class ReplayEdgesTest {
    private static final Check CHECK = new Check("ReplayEdgesTest");
    private static final Class<? extends RuntimeException> INDEX = Check.INDEX;
    private static final Class<? extends RuntimeException> STATE = Check.STATE;

    private static final Asked REPLAY = new Asked(CHECK, Skies::busy, (x, a) -> x.replay(a[0]), 0);
    private static final Asked BEST_ORDER = new Asked(CHECK, Skies::busy, (x, a) -> x.bestOrder(a[0], a[1]), 0, 2);

    public static void main(String[] args) {
        CHECK.runEach(ReplayEdgesTest.class);
    }

    /** The site 0 can observe, and there are a proposal and as many targets of the length. */
    private static Cloudseed targets(int count, int length) {
        Cloudseed x = Skies.one();
        x.proposal(0, 0, 0, 0);
        for (int i = 0; i < count; i++) {
            Skies.easy(x, 0, length, 1);
        }
        return x;
    }

    private static Asked replayBehind(int slots) {
        return new Asked(CHECK, () -> {
            Cloudseed x = targets(1, 1);
            Skies.run(x, slots);
            return x;
        }, (x, a) -> x.replay(a[0]), 0);
    }

    // ---- promise 29: replay

    private static void promise29Night() {
        replayBehind(720).range(0, 0, 29, INDEX);
    }

    private static void promise29ANightWhoseFirstSlotWasRun() {
        replayBehind(0).refused(STATE, 0);
        replayBehind(1).taken(0);
        replayBehind(1).refused(STATE, 1);
        replayBehind(24).taken(0);
        replayBehind(24).refused(STATE, 1);
        replayBehind(25).taken(1);
        replayBehind(25).refused(STATE, 2);
        replayBehind(696).refused(STATE, 29);
        replayBehind(697).taken(29);
    }

    private static void promise29NoSuchNightIsThrownFirst() {
        replayBehind(0).refused(INDEX, 30);
        replayBehind(0).refused(INDEX, -1);
        REPLAY.refused(INDEX, 30);
        REPLAY.refused(STATE, 2);
        REPLAY.refused(STATE, 29);
    }

    private static void promise29NoneAndMany() {
        Cloudseed none = Skies.one();
        none.run(1);
        CHECK.due("none", none.replay(0), 0);
        Cloudseed x = targets(24, 1);
        x.run(1);
        CHECK.due("one in each slot", x.replay(0), 24);
        for (int i = 0; i < 10; i++) {
            Skies.alert(x, 0, 1, 1, 0, 23);
        }
        x.place(1, 0, 0);
        x.calibrate(1, 0, 0);
        CHECK.due("all targets and alerts", x.replay(0), 34);
    }

    private static void promise29GoodOnesAlone() {
        for (int quality = 90; quality <= 91; quality++) {
            Cloudseed x = Skies.one();
            x.proposal(0, 0, quality, 0);
            Skies.easy(x, 0, 1, 1);
            x.run(1);
            CHECK.due("the quality is 90, the least " + quality, x.replay(0), quality == 90 ? 1 : 0);
        }
    }

    private static void promise29AlertsToo() {
        Cloudseed x = Skies.one();
        x.run(1);
        Skies.alert(x, 0, 1, 1, 0, 0);
        CHECK.due("one that is told for its first slot", x.replay(0), 1);
        Skies.alert(x, 0, 1, 6, 18, 23);
        CHECK.due("one up to its last slot", x.replay(0), 2);
        x.alert(0, 1, 60, 0, 1, 0, 1, 0, 0);
        CHECK.due("none of another night", x.replay(0), 2);
        CHECK.due("they are not served by that", x.served(0), false);
    }

    private static void promise29AsItWasWhenItsFirstSlotWasRun() {
        Cloudseed x = targets(2, 1);
        x.run(48);
        CHECK.due("both were made in it", x.replay(0), 2);
        CHECK.due("both were made ahead of it", x.replay(1), 0);
        Cloudseed y = Skies.one();
        y.proposal(0, 0, 0, 0);
        Skies.easy(y, 0, 1, 2);
        Skies.run(y, 72);
        CHECK.due("none of two was made", y.replay(0), 1);
        CHECK.due("one of two was made", y.replay(1), 1);
        CHECK.due("two of two were made", y.replay(2), 0);
    }

    private static void promise29AsItWasBehindTheLastSlotAheadOfIt() {
        Cloudseed x = targets(1, 1);
        x.weather(0, 0, 0, 22, 0);
        x.run(25);
        CHECK.due("made in the slot 23", x.replay(1), 0);
        CHECK.due("of the night 0", x.replay(0), 1);
        Cloudseed y = targets(1, 1);
        y.weather(0, 0, 0, 23, 0);
        y.run(25);
        CHECK.due("made in the slot 24", y.replay(1), 1);
        CHECK.due("not in the night 0", y.replay(0), 0);
    }

    private static void promise29NoneGoesOnOrWaitsAtItsStart() {
        Cloudseed x = targets(1, 6);
        x.weather(0, 0, 5, 23, 0);
        x.run(29);
        CHECK.going("the last slot comes", x, 0, Cloudseed.TARGET, 0, 5);
        x.weather(0, 1, 6, 23, 0);
        CHECK.due("it had no slots at first", x.replay(1), 1);
        x.weather(0, 1, 5, 23, 0);
        CHECK.due("five slots are too few", x.replay(1), 0);
    }

    private static void promise29TheSlotsThatCountedAtItsStart() {
        Cloudseed x = Skies.one();
        x.proposal(0, 0, 0, 0);
        x.proposal(1, 0, 0, 0);
        Skies.easy(x, 0, 6, 9);
        Skies.easy(x, 1, 3, 9);
        x.weather(0, 0, 6, 23, 0);
        x.weather(0, 1, 3, 23, 0);
        x.run(48);
        CHECK.due("the group 0 had 6 of 6", x.replay(1), 1);
        CHECK.due("it had none of none", x.replay(0), 1);
        x.weather(0, 1, 3, 8, 10);
        CHECK.due("the group 1, then the group 0", x.replay(1), 2);
        x.weather(0, 1, 8, 8, 0);
        CHECK.due("the group 0 lacks a slot", x.replay(1), 1);
    }

    private static void promise29AllSlotsOfTheNight() {
        Cloudseed x = targets(4, 6);
        x.run(1);
        CHECK.due("four of six slots", x.replay(0), 4);
        CHECK.going("one slot was run", x, 0, Cloudseed.TARGET, 0, 1);
        CHECK.due("now", x.now(), 1);
        x.weather(0, 0, 23, 23, 0);
        CHECK.due("without the last slot", x.replay(0), 3);
    }

    private static void promise29WithTheSitesToldByNow() {
        Cloudseed x = targets(1, 1);
        x.run(24);
        x.place(0, 0, 180);
        CHECK.due("it is never high", x.replay(0), 0);
        x.place(0, 0, 0);
        CHECK.due("it is again", x.replay(0), 1);
    }

    private static void promise29WithTheMoonToldByNow() {
        Cloudseed x = Skies.one();
        x.proposal(0, 0, 0, 0);
        x.target(0, 0, 0, 1, 0, 0, 0, 50, 1);
        x.run(24);
        CHECK.due("no light", x.replay(0), 1);
        x.moon(1);
        CHECK.due("the light 7", x.replay(0), 0);
    }

    private static void promise29WithTheInstrumentsOfTheNight() {
        Cloudseed x = Skies.one();
        x.proposal(0, 0, 0, 0);
        Skies.easy(x, 0, 1, 9);
        x.mount(0, 1, 1);
        x.mount(0, 2, 0);
        Skies.run(x, 72);
        CHECK.due("its instrument", x.replay(0), 1);
        CHECK.due("another one", x.replay(1), 0);
        CHECK.due("its instrument again", x.replay(2), 1);
    }

    private static void promise29WithTheCalibrationsToldByNow() {
        Cloudseed x = new Cloudseed();
        x.proposal(0, 0, 0, 0);
        Skies.easy(x, 0, 1, 1);
        Skies.run(x, 169);
        CHECK.due("none", x.replay(7), 0);
        x.calibrate(0, 0, 0);
        CHECK.due("7 nights old", x.replay(7), 0);
        CHECK.due("6 nights old", x.replay(6), 1);
        x.calibrate(0, 0, 7);
        CHECK.due("of the night", x.replay(7), 1);
    }

    private static void promise29WithTheWeatherToldByNow() {
        Cloudseed x = targets(1, 1);
        x.run(24);
        x.weather(0, 0, 0, 22, 0);
        CHECK.due("one open slot", x.replay(0), 1);
        x.weather(0, 0, 23, 23, 0);
        CHECK.due("none", x.replay(0), 0);
    }

    private static void promise29WithTheFaultsToldByNow() {
        Cloudseed x = targets(1, 1);
        x.run(24);
        x.fault(0, 0, 1, 23);
        CHECK.due("one open slot", x.replay(0), 1);
        x.fault(0, 0, 0, 0);
        CHECK.due("none", x.replay(0), 0);
    }

    private static void promise29WithTheSharesToldByNow() {
        Cloudseed x = Skies.one();
        x.proposal(0, 0, 0, 0);
        x.proposal(1, 0, 0, 0);
        Skies.easy(x, 0, 6, 9);
        Skies.easy(x, 1, 3, 9);
        x.weather(0, 0, 6, 23, 0);
        x.run(24);
        x.weather(0, 1, 6, 23, 0);
        x.run(1);
        CHECK.due("150 less 600, and 150: the group 1, then a part of the other", x.replay(1), 1);
        x.weather(0, 1, 8, 23, 0);
        x.weather(0, 1, 6, 8, 10);
        x.share(0, 100);
        x.share(1, 0);
        CHECK.due("none, and none: the group 0, then the group 1", x.replay(1), 2);
        x.weather(0, 1, 8, 8, 0);
        CHECK.due("the group 1 lacks a slot", x.replay(1), 1);
        x.share(0, 99);
        x.weather(0, 1, 3, 8, 0);
        CHECK.due("-6, and none: the group 1", x.replay(1), 1);
        x.share(0, 100);
        CHECK.due("none, and none: the group 0 lacks slots", x.replay(1), 0);
    }

    private static void promise29WithTheProposalsAndTargetsToldByNow() {
        Cloudseed x = Skies.one();
        x.run(24);
        CHECK.due("none", x.replay(0), 0);
        x.proposal(3, 9, 90, 30);
        Skies.easy(x, 0, 1, 1);
        CHECK.due("a target that is told later", x.replay(0), 1);
        CHECK.due("was not observed", x.visits(0), 0);
        x.series(0, 0, 30, 0);
        CHECK.due("a series for the night", x.replay(0), 1);
    }

    private static void promise29WithASeriesToldByNow() {
        Cloudseed x = targets(1, 1);
        x.run(48);
        CHECK.due("it was made ahead of it", x.replay(1), 0);
        x.series(0, 1, 30, 0);
        CHECK.due("that one is for no j", x.replay(1), 1);
        CHECK.due("no j is of the night 0", x.replay(0), 0);
    }

    private static void promise29BehindAHundredData() {
        Cloudseed x = Skies.one();
        x.proposal(0, 0, 100, 0);
        x.proposal(0, 9, 0, 0);
        Skies.easy(x, 0, 1, 1);
        Skies.run(x, 120);
        Skies.easy(x, 1, 1, 1);
        x.run(24);
        CHECK.due("no more are kept", x.data(), 100);
        CHECK.due("but it is made", x.replay(5), 1);
        CHECK.due("in an earlier night, too", x.replay(0), 1);
    }

    private static void promise29ManyDataInReplays() {
        Cloudseed x = Skies.three();
        x.proposal(0, 0, 100, 0);
        x.proposal(0, 9, 0, 0);
        for (int i = 0; i < 3; i++) {
            Skies.easy(x, 0, 1, 1);
        }
        x.target(1, 60, 0, 1, 0, 0, 100, 9, 1);
        x.weather(0, 0, 23, 23, 9);
        x.run(24);
        CHECK.due("72 data", x.data(), 72);
        for (int i = 0; i < 10; i++) {
            CHECK.due("each replay anew", x.replay(0), 1);
        }
        CHECK.due("still 72", x.data(), 72);
    }

    private static void promise29ChangesNothing() {
        REPLAY.changesNothing(0);
        REPLAY.changesNothing(1);
        replayBehind(720).changesNothing(29);
    }

    // ---- promise 30: bestOrder

    private static void promise30Site() {
        BEST_ORDER.range(0, 0, 2, INDEX);
    }

    private static void promise30Night() {
        BEST_ORDER.range(1, 0, 29, INDEX);
    }

    private static void promise30NoneAndTheMost() {
        CHECK.due("no targets", new Cloudseed().bestOrder(0, 0), 0);
        CHECK.due("no chances", targets(4, 6).bestOrder(1, 0), 0);
        CHECK.due("three", targets(3, 6).bestOrder(0, 0), 18);
        CHECK.due("four fill the night", targets(4, 6).bestOrder(0, 0), 24);
        CHECK.due("a fifth has no room", targets(5, 6).bestOrder(0, 0), 24);
    }

    private static void promise30FiveThatFillTheNight() {
        Cloudseed x = targets(3, 6);
        Skies.easy(x, 0, 5, 1);
        Skies.easy(x, 0, 1, 1);
        CHECK.due("6, 6, 6, 5 and 1", x.bestOrder(0, 0), 24);
        x.weather(0, 0, 0, 0, 0);
        CHECK.due("23 slots: without the 1", x.bestOrder(0, 0), 23);
        x.weather(0, 0, 1, 1, 0);
        CHECK.due("22 slots: 6, 6, 6 and 1", x.bestOrder(0, 0), 19);
    }

    private static void promise30TheLowestFive() {
        CHECK.due("five", targets(5, 1).bestOrder(0, 0), 5);
        CHECK.due("of six", targets(6, 1).bestOrder(0, 0), 5);
        Cloudseed x = targets(5, 1);
        Skies.easy(x, 0, 6, 1);
        CHECK.due("the sixth is the longest", x.bestOrder(0, 0), 5);
        Cloudseed y = targets(4, 1);
        Skies.easy(y, 0, 6, 1);
        CHECK.due("the fifth is the longest", y.bestOrder(0, 0), 10);
    }

    private static void promise30FiveOfThoseThatWantAVisit() {
        Cloudseed x = targets(1, 1);
        x.run(1);
        for (int i = 0; i < 4; i++) {
            Skies.easy(x, 0, 1, 1);
        }
        Skies.easy(x, 0, 6, 1);
        CHECK.due("in the night in which the first one was made", x.bestOrder(0, 0), 10);
        CHECK.due("in the next one", x.bestOrder(0, 1), 10);
        x.series(0, 1, 9, 0);
        CHECK.due("it wants one in the night 1 again", x.bestOrder(0, 1), 5);
        CHECK.due("but none in the night 0", x.bestOrder(0, 0), 10);
    }

    private static void promise30FiveOfThoseThatHaveAChance() {
        Cloudseed x = Skies.one();
        x.proposal(0, 0, 0, 0);
        // High in the slots 10 to 14 alone, that is for five slots.
        x.target(0, 60, 0, 6, 0, 80, 100, 50, 1);
        for (int i = 0; i < 4; i++) {
            Skies.easy(x, 0, 1, 1);
        }
        Skies.easy(x, 0, 6, 1);
        CHECK.due("the first one has none", x.bestOrder(0, 0), 10);
        x.place(1, 0, 0);
        x.calibrate(1, 0, 0);
        x.mount(1, 0, 1);
        CHECK.due("no instrument", x.bestOrder(1, 0), 0);
    }

    private static void promise30AChanceInJustOneSlot() {
        Cloudseed x = Skies.one();
        x.proposal(0, 0, 0, 0);
        x.target(0, 60, 0, 5, 0, 80, 100, 50, 1);
        CHECK.due("the slots 10 to 14", x.bestOrder(0, 0), 5);
        x.weather(0, 0, 10, 10, 0);
        CHECK.due("closed", x.bestOrder(0, 0), 0);
        Cloudseed y = targets(1, 1);
        y.weather(0, 0, 0, 22, 0);
        CHECK.due("the last slot", y.bestOrder(0, 0), 1);
        y.weather(0, 0, 23, 23, 0);
        CHECK.due("none", y.bestOrder(0, 0), 0);
    }

    private static void promise30InTheFirstSlotBehindTheOneAhead() {
        Cloudseed x = Skies.one();
        x.proposal(0, 0, 0, 0);
        // The first is high in the slots 0 to 5, the other one in 0 to 8, so that 6 to 8 are just left.
        x.target(0, 0, 0, 6, 0, 65, 100, 50, 1);
        x.target(0, 0, 0, 3, 0, 50, 100, 50, 1);
        CHECK.due("one right behind the other", x.bestOrder(0, 0), 9);
        x.weather(0, 0, 0, 0, 0);
        CHECK.due("the first slot is closed: the second alone", x.bestOrder(0, 0), 3);
    }

    private static void promise30InTheFirstSlotInWhichItSuits() {
        Cloudseed x = Skies.one();
        x.proposal(0, 0, 0, 0);
        x.target(0, 60, 0, 3, 0, 0, 100, 50, 1);
        x.target(0, 60, 0, 4, 0, 0, 100, 9, 1);
        x.weather(0, 0, 20, 20, 9);
        CHECK.due("0 to 2, 20 to 23", x.bestOrder(0, 0), 7);
        x.weather(0, 0, 20, 20, 10);
        x.weather(0, 0, 21, 21, 9);
        CHECK.due("21 is too late for 4", x.bestOrder(0, 0), 3);
        x.weather(0, 0, 0, 0, 9);
        CHECK.due("0 to 3, 4 to 6", x.bestOrder(0, 0), 7);
    }

    private static void promise30ThoseThatDoNotSuitLaterAreLeftOut() {
        Cloudseed x = Skies.one();
        x.proposal(0, 0, 0, 0);
        // Just one of them can be begun in the slot 0, and none of them later.
        x.target(0, 0, 0, 2, 0, 85, 100, 50, 1);
        x.target(0, 0, 0, 6, 0, 65, 100, 50, 1);
        x.target(0, 0, 0, 4, 0, 75, 100, 50, 1);
        CHECK.due("the longest", x.bestOrder(0, 0), 6);
        x.target(0, 60, 0, 1, 0, 90, 100, 50, 1);
        CHECK.due("and the slot 12", x.bestOrder(0, 0), 7);
    }

    private static void promise30InAllOrders() {
        int[][] orders = {{0, 1, 2}, {0, 2, 1}, {1, 0, 2}, {1, 2, 0}, {2, 0, 1}, {2, 1, 0}};
        // High in the slots 0 to 2, 0 to 5, and 0 to 11: all of them fit in just one order.
        int[] length = {3, 3, 6};
        int[] height = {80, 65, 35};
        for (int[] order : orders) {
            Cloudseed x = Skies.one();
            x.proposal(0, 0, 0, 0);
            for (int i : order) {
                x.target(0, 0, 0, length[i], 0, height[i], 100, 50, 1);
            }
            CHECK.due("12 slots", x.bestOrder(0, 0), 12);
        }
    }

    private static void promise30TheOrderThatEndsFirstLeavesRoom() {
        int[][] orders = {{0, 1, 2}, {0, 2, 1}, {1, 0, 2}, {1, 2, 0}, {2, 0, 1}, {2, 1, 0}};
        // High in the slots 0 to 8, 3 to 8, and 6 to 8: they fit in this order, though the first two in both.
        int[] ra = {0, 27, 35};
        int[] height = {50, 75, 85};
        for (int[] order : orders) {
            Cloudseed x = Skies.one();
            x.proposal(0, 0, 0, 0);
            for (int i : order) {
                x.target(0, ra[i], 0, 3, 0, height[i], 100, 50, 1);
            }
            CHECK.due("9 slots", x.bestOrder(0, 0), 9);
        }
    }

    private static void promise30OfAsManyTargetsAsThereCanBe() {
        CHECK.due("none of 24 has a chance", targets(24, 6).bestOrder(1, 0), 0);
        CHECK.due("all have", targets(24, 4).bestOrder(0, 0), 20);
        Cloudseed x = Skies.one();
        x.proposal(0, 0, 0, 0);
        for (int i = 0; i < 23; i++) {
            x.target(0, 60, 0, 6, 1, 0, 100, 50, 1);
        }
        Skies.easy(x, 0, 3, 1);
        CHECK.due("just the last one has", x.bestOrder(0, 0), 3);
    }

    private static void promise30NoneOfThemTwice() {
        CHECK.due("one of one slot", targets(1, 1).bestOrder(0, 0), 1);
        CHECK.due("two", targets(2, 3).bestOrder(0, 0), 6);
    }

    private static void promise30ANightThatIsGone() {
        Cloudseed x = targets(2, 6);
        Skies.run(x, 720);
        Skies.easy(x, 0, 5, 1);
        CHECK.due("both others have their visits", x.bestOrder(0, 0), 5);
    }

    private static void promise30VisitsThatGoOnAreOfNoAccount() {
        Cloudseed x = targets(2, 6);
        x.run(1);
        CHECK.due("one goes on", x.bestOrder(0, 0), 12);
    }

    private static void promise30IsAQuestion() {
        BEST_ORDER.changesNothing(0, 1);
    }

    // ---- what it is: 512 calls

    private static void promise1The512thCallIsAnsweredLikeTheFirst() {
        Cloudseed x = Skies.three();
        x.proposal(0, 0, 0, 0);
        for (int i = 0; i < 24; i++) {
            Skies.easy(x, 0, 1 + i % 6, 10);
        }
        int calls = 30;
        for (; calls < 44; calls++) {
            x.run(48);
        }
        int first = x.replay(0);
        for (calls++; calls < 511; calls++) {
            CHECK.due("call " + calls, x.replay(0), first);
        }
        CHECK.due("the 512th call", x.run(48), 48);
    }

    private static void promise1The512thCallIsRefusedAsTheFirst() {
        Cloudseed x = new Cloudseed();
        for (int calls = 0; calls < 511; calls++) {
            CHECK.fails("refused", INDEX, () -> x.place(3, 0, 0));
        }
        CHECK.fails("the 512th call", INDEX, () -> x.place(3, 0, 0));
    }
}
