/** Boundary cases of promises 18 to 25, which tell how slots are run: a test for each sentence that names one. */
public final class RunEdgesTest {
    private static final Check CHECK = new Check("RunEdgesTest");
    private static final Class<? extends RuntimeException> INDEX = Check.INDEX;
    private static final Class<? extends RuntimeException> ARGUMENT = Check.ARGUMENT;
    private static final int TARGET = Cloudseed.TARGET;
    private static final int ALERT = Cloudseed.ALERT;

    private static final Asked RUN = new Asked(CHECK, Skies::busy, (x, a) -> x.run(a[0]), 1);
    private static final Asked GOING_ON = new Asked(CHECK, Skies::busy, (x, a) -> x.goingOn(a[0], a[1]), 0, 0);
    private static final Asked VISITS = new Asked(CHECK, Skies::busy, (x, a) -> x.visits(a[0]), 0);
    private static final Asked SERVED = new Asked(CHECK, Skies::busy, (x, a) -> x.served(a[0]), 0);
    private static final Asked SLOTS = new Asked(CHECK, Skies::busy, (x, a) -> x.slots(a[0], a[1] == 1), 0, 0);
    private static final Asked LOST = new Asked(CHECK, Skies::busy, (x, a) -> x.lost(a[0], a[1] == 1), 0, 0);

    public static void main(String[] args) {
        CHECK.runEach(RunEdgesTest.class);
    }

    /** The site 0 can observe, and there are as many proposals of equal rank, each of its own group. */
    private static Cloudseed one(int proposals) {
        return proposed(Skies.one(), proposals);
    }

    private static Cloudseed three(int proposals) {
        return proposed(Skies.three(), proposals);
    }

    private static Cloudseed proposed(Cloudseed x, int proposals) {
        for (int group = 0; group < proposals; group++) {
            x.proposal(group, 5, 0, 0);
        }
        return x;
    }

    // ---- promise 18: how many slots are run

    private static void promise18Slots() {
        RUN.range(0, 1, 48, ARGUMENT);
    }

    private static void promise18OneAnd48AreRun() {
        Cloudseed x = new Cloudseed();
        CHECK.due("one", x.run(1), 1);
        CHECK.due("behind one", x.now(), 1);
        CHECK.due("48", x.run(48), 48);
        CHECK.due("behind 49", x.now(), 49);
    }

    private static void promise18FewerIfThereAreNotSoMany() {
        int[] ahead = {671, 672, 673, 719};
        int[] want = {48, 48, 47, 1};
        for (int i = 0; i < ahead.length; i++) {
            Cloudseed x = new Cloudseed();
            Skies.run(x, ahead[i]);
            CHECK.due("behind " + ahead[i], x.run(48), want[i]);
            CHECK.due("now", x.now(), ahead[i] + want[i]);
        }
    }

    private static void promise18NothingIsRunBehindAll() {
        Cloudseed x = Skies.allNights();
        x.proposal(0, 0, 100, 0);
        Skies.easy(x, 0, 1, 1);
        Skies.run(x, 719);
        int lost = x.lost(1, false);
        CHECK.due("the last one", x.run(1), 1);
        CHECK.due("is lost on the site 1", x.lost(1, false), lost + 1);
        int counted = x.slots(0, false);
        CHECK.due("none", x.run(1), 0);
        CHECK.due("none of 48", x.run(48), 0);
        CHECK.due("now", x.now(), 720);
        CHECK.due("no slot counts", x.slots(0, false), counted);
        CHECK.due("none is lost", x.lost(1, false), lost + 1);
    }

    private static void promise18OutOfRangeBehindAll() {
        Asked run = new Asked(CHECK, () -> {
            Cloudseed x = new Cloudseed();
            Skies.run(x, 720);
            return x;
        }, (x, a) -> x.run(a[0]));
        run.refused(ARGUMENT, 0);
        run.refused(ARGUMENT, 49);
        run.changesNothing(1);
    }

    private static void promise18TheFirstSlotBehindTheLastOneOfANight() {
        Cloudseed x = one(1);
        Skies.easy(x, 0, 1, 9);
        x.weather(0, 0, 0, 22, 0);
        x.run(25);
        CHECK.datum(x, 0, TARGET, 0, 0, 23);
        CHECK.datum(x, 1, TARGET, 0, 0, 24);
    }

    private static void promise18TheSameSlotOnAllSites() {
        Cloudseed x = three(1);
        for (int i = 0; i < 3; i++) {
            Skies.easy(x, 0, 1, 1);
        }
        x.run(1);
        for (int site = 0; site < 3; site++) {
            CHECK.datum(x, site, TARGET, site, site, 0);
        }
    }

    // ---- promise 18: the sites, one behind the other

    private static void promise18TheSite0First() {
        Cloudseed x = three(1);
        Skies.easy(x, 0, 2, 1);
        x.run(1);
        CHECK.going("the site 0", x, 0, TARGET, 0, 1);
        CHECK.idle("the site 1", x, 1);
        CHECK.idle("the site 2", x, 2);
    }

    private static void promise18HandedOverToALaterSiteInTheSameSlot() {
        Cloudseed x = three(1);
        Skies.easy(x, 0, 6, 1);
        x.weather(0, 0, 0, 0, 0);
        x.weather(1, 0, 2, 2, 0);
        x.run(2);
        CHECK.going("on the site 1", x, 1, TARGET, 0, 2);
        x.run(1);
        CHECK.going("on the site 2", x, 2, TARGET, 0, 3);
        CHECK.idle("not on the site 0", x, 0);
        CHECK.due("it does not wait", x.waiting(), 0);
    }

    private static void promise18HandedOverToAnEarlierSiteInTheNextSlot() {
        Cloudseed x = three(1);
        Skies.easy(x, 0, 6, 1);
        x.weather(0, 0, 0, 0, 0);
        x.weather(1, 0, 2, 2, 0);
        x.weather(2, 0, 2, 2, 0);
        x.run(3);
        CHECK.due("it waits", x.waiting(), 1);
        CHECK.idle("the site 0 was run ahead of it", x, 0);
        x.run(1);
        CHECK.going("on the site 0", x, 0, TARGET, 0, 3);
    }

    // ---- promise 18: a closed site (step 1)

    private static void promise18ClosedInJustOneSlot() {
        Cloudseed x = one(1);
        Skies.easy(x, 0, 6, 1);
        x.weather(0, 0, 3, 3, 0);
        x.run(3);
        CHECK.going("ahead of it", x, 0, TARGET, 0, 3);
        x.run(1);
        CHECK.idle("in it", x, 0);
        CHECK.due("it waits", x.waiting(), 1);
        x.run(1);
        CHECK.going("behind it", x, 0, TARGET, 0, 4);
        CHECK.due("none waits", x.waiting(), 0);
    }

    private static void promise18ClosedByAFault() {
        Cloudseed x = one(1);
        Skies.easy(x, 0, 6, 1);
        x.fault(0, 0, 3, 3);
        x.run(4);
        CHECK.due("it waits", x.waiting(), 1);
        x.run(1);
        CHECK.going("behind it", x, 0, TARGET, 0, 4);
    }

    private static void promise18WorseSeeingDoesNotCloseIt() {
        Cloudseed x = one(1);
        x.target(0, 60, 0, 3, 0, 0, 100, 10, 1);
        x.weather(0, 0, 1, 2, 50);
        x.run(3);
        CHECK.datum(x, 0, TARGET, 0, 0, 2, 50);
    }

    private static void promise18AnAlertOnAClosedSiteIsLost() {
        Cloudseed x = Skies.one();
        Skies.alert(x, 2, 1, 6, 0, 23);
        x.weather(0, 0, 5, 5, 0);
        x.run(6);
        CHECK.idle("in it", x, 0);
        CHECK.due("it does not wait", x.waiting(), 0);
        CHECK.due("given back", x.slots(2, true), 5);
        x.run(1);
        CHECK.going("begun again", x, 0, ALERT, 0, 1);
    }

    private static void promise18NothingElseIsDoneOnAClosedSite() {
        Cloudseed x = one(1);
        Skies.easy(x, 0, 1, 1);
        Skies.alert(x, 1, 9, 1, 0, 23);
        x.weather(0, 0, 0, 1, 0);
        x.run(2);
        CHECK.due("nothing is done", x.data(), 0);
        CHECK.due("two closed slots", x.lost(0, true), 2);
        x.run(1);
        CHECK.datum(x, 0, ALERT, 0, 0, 2);
        x.run(1);
        CHECK.datum(x, 1, TARGET, 0, 0, 3);
    }

    private static void promise18OnlyTheVisitOfTheClosedSiteIsBrokenOff() {
        Cloudseed x = three(1);
        for (int i = 0; i < 3; i++) {
            Skies.easy(x, 0, 6, 1);
        }
        x.weather(1, 0, 3, 3, 0);
        x.run(4);
        CHECK.going("the site 0", x, 0, TARGET, 0, 4);
        CHECK.idle("the site 1", x, 1);
        CHECK.going("the site 2", x, 2, TARGET, 2, 4);
        CHECK.due("one waits", x.waiting(), 1);
    }

    // ---- promise 18: alerts (step 2)

    private static void promise18AnAlertWhoseFirstSlotHasCome() {
        Cloudseed x = Skies.one();
        Skies.alert(x, 0, 1, 6, 5, 23);
        x.run(5);
        CHECK.idle("the slot ahead", x, 0);
        x.run(1);
        CHECK.going("the first slot", x, 0, ALERT, 0, 1);
        Cloudseed y = Skies.one();
        Skies.alert(y, 0, 1, 6, 0, 23);
        y.run(1);
        CHECK.going("the slot 0", y, 0, ALERT, 0, 1);
    }

    private static void promise18AnAlertWhoseLastSlotIsNotGone() {
        for (int run = 5; run <= 6; run++) {
            Cloudseed x = Skies.one();
            x.run(run);
            Skies.alert(x, 0, 1, 1, 0, 5);
            x.run(18);
            CHECK.due("told when " + run + " were run", x.served(0), run == 5);
        }
    }

    private static void promise18AnAlertOfJustOneSlot() {
        for (int slot = 0; slot < 24; slot += 23) {
            Cloudseed x = Skies.one();
            Skies.alert(x, 0, 1, 1, slot, slot);
            x.run(24);
            CHECK.datum(x, 0, ALERT, 0, 0, slot);
        }
    }

    private static void promise18AnAlertEndsNotBehindItsLastSlot() {
        int[] last = {7, 8, 9};
        for (int to : last) {
            Cloudseed x = Skies.one();
            Skies.alert(x, 0, 1, 4, 5, to);
            x.run(24);
            CHECK.due("four slots in 5 to " + to, x.served(0), to >= 8);
        }
    }

    private static void promise18AnAlertBegunInTheLastSlotInWhichItEndsInTime() {
        Cloudseed x = Skies.one();
        Skies.alert(x, 0, 1, 4, 5, 10);
        x.weather(0, 0, 5, 6, 0);
        x.run(24);
        CHECK.datum(x, 0, ALERT, 0, 0, 10);
        Cloudseed y = Skies.one();
        Skies.alert(y, 0, 1, 4, 5, 10);
        y.weather(0, 0, 5, 7, 0);
        y.run(24);
        CHECK.due("a slot later is too late", y.data(), 0);
    }

    private static void promise18AnAlertUpToTheEndOfTheNight() {
        Cloudseed x = Skies.one();
        Skies.alert(x, 0, 1, 6, 18, 23);
        x.run(24);
        CHECK.datum(x, 0, ALERT, 0, 0, 23);
        Cloudseed y = Skies.one();
        Skies.alert(y, 0, 1, 6, 19, 23);
        y.run(48);
        CHECK.due("it has no slots of the next night", y.data(), 0);
    }

    private static void promise18AnAlertOfJustItsNight() {
        Cloudseed x = Skies.one();
        x.alert(0, 1, 60, 0, 1, 0, 1, 23, 23);
        x.run(24);
        CHECK.due("not in the slot 23 of the night 0", x.served(0), false);
        x.run(24);
        CHECK.due("in that of the night 1", x.served(0), true);
    }

    private static void promise18AnAlertSuitsInAllSlotsOfItsLength() {
        int[] lengths = {1, 2, 3, 4};
        for (int length : lengths) {
            Cloudseed x = Skies.one();
            // At least 30 degrees high in the slots 0 to 2.
            x.alert(0, 1, 310, 0, length, 0, 0, 0, 23);
            x.run(24);
            CHECK.due("length " + length, x.served(0), length <= 3);
        }
    }

    private static void promise18AnAlertSuitsBySeeingOfAnOpenSite() {
        Cloudseed x = Skies.one();
        Skies.alert(x, 0, 1, 2, 0, 23);
        x.weather(0, 0, 0, 0, 50);
        x.run(1);
        CHECK.going("the worst seeing", x, 0, ALERT, 0, 1);
    }

    private static void promise18AnAlertSuitsByInstrumentAndCalibration() {
        Cloudseed x = Skies.one();
        x.mount(0, 1, 1);
        x.alert(0, 1, 60, 0, 1, 1, 1, 0, 23);
        x.run(48);
        CHECK.due("mounted, but not calibrated", x.served(0), false);
        Cloudseed y = Skies.one();
        y.alert(0, 1, 60, 0, 1, 0, 6, 0, 20);
        y.alert(0, 1, 60, 0, 1, 0, 7, 0, 20);
        Skies.run(y, 192);
        CHECK.due("calibrated 6 nights ago", y.served(0), true);
        CHECK.due("calibrated 7 nights ago", y.served(1), false);
    }

    private static void promise18TheGreatestUrgency() {
        Cloudseed x = Skies.one();
        Skies.alert(x, 0, 1, 2, 0, 23);
        Skies.alert(x, 0, 8, 2, 0, 23);
        Skies.alert(x, 0, 9, 2, 0, 23);
        Skies.alert(x, 0, 2, 2, 0, 23);
        x.run(8);
        int[] order = {2, 1, 3, 0};
        for (int i = 0; i < 4; i++) {
            CHECK.datum(x, i, ALERT, order[i]);
        }
    }

    private static void promise18OfSeveralEqualAlertsTheLowest() {
        Cloudseed x = Skies.one();
        for (int i = 0; i < 10; i++) {
            Skies.alert(x, 0, 5, 2, 0, 23);
        }
        x.run(20);
        for (int i = 0; i < 10; i++) {
            CHECK.datum(x, i, ALERT, i, 0, 2 * i + 1);
        }
    }

    private static void promise18OfThoseThatSuitTheMostUrgent() {
        Cloudseed x = Skies.one();
        x.alert(0, 9, 60, 0, 2, 1, 0, 0, 23);
        x.alert(0, 8, 180, 0, 2, 0, 0, 0, 10);
        Skies.alert(x, 0, 7, 2, 0, 0);
        Skies.alert(x, 0, 6, 2, 1, 23);
        Skies.alert(x, 0, 1, 2, 0, 23);
        x.run(1);
        CHECK.going("the last one", x, 0, ALERT, 4, 1);
    }

    private static void promise18AnAlertPushesAnyTargetAside() {
        Cloudseed x = Skies.one();
        x.proposal(0, 9, 0, 0);
        x.share(0, 100);
        Skies.easy(x, 0, 6, 1);
        x.run(5);
        Skies.alert(x, 1, 1, 1, 5, 5);
        x.run(1);
        CHECK.due("the alert", x.served(0), true);
        CHECK.due("the target lacked one slot", x.visits(0), 0);
        CHECK.due("it does not wait", x.waiting(), 0);
        CHECK.due("given back", x.slots(0, true), 5);
        x.run(1);
        CHECK.going("begun again from its first slot", x, 0, TARGET, 0, 1);
    }

    private static void promise18AnAlertPushesALessUrgentOneAside() {
        int[] urgency = {4, 5, 6};
        for (int later : urgency) {
            Cloudseed x = Skies.one();
            Skies.alert(x, 2, 5, 3, 0, 23);
            x.run(2);
            Skies.alert(x, 3, later, 3, 0, 23);
            x.run(1);
            CHECK.due("pushed by the urgency " + later, x.goingOn(0, 1), later == 6 ? 1 : Cloudseed.NONE);
            CHECK.due("served", x.served(0), later != 6);
            CHECK.due("given back", x.slots(2, true), later == 6 ? 2 : 0);
        }
    }

    private static void promise18AnAlertPushesOnlyWhereItSuits() {
        Cloudseed x = three(1);
        Skies.easy(x, 0, 6, 1);
        x.run(1);
        x.alert(0, 9, 60, 0, 2, 1, 0, 0, 23);
        x.run(1);
        CHECK.going("another instrument", x, 0, TARGET, 0, 2);
    }

    private static void promise18AServedAlertIsNotBegunAgain() {
        Cloudseed x = Skies.three();
        Skies.alert(x, 0, 1, 1, 0, 23);
        x.run(24);
        CHECK.due("once", x.data(), 1);
    }

    private static void promise18AnAlertThatIsObservedOnAnEarlierSite() {
        Cloudseed x = Skies.three();
        Skies.alert(x, 0, 1, 3, 0, 23);
        x.run(2);
        CHECK.going("the site 0", x, 0, ALERT, 0, 2);
        CHECK.idle("the site 1", x, 1);
    }

    private static void promise18AnAlertThatIsObservedOnALaterSite() {
        Cloudseed x = Skies.three();
        Skies.alert(x, 0, 1, 3, 0, 23);
        x.weather(0, 0, 0, 0, 0);
        x.weather(1, 0, 0, 0, 0);
        x.run(2);
        CHECK.idle("the site 0", x, 0);
        CHECK.idle("the site 1", x, 1);
        CHECK.going("the site 2", x, 2, ALERT, 0, 2);
    }

    private static void promise18ThePushedTargetAtOnceOnALaterSite() {
        Cloudseed x = three(1);
        Skies.easy(x, 0, 6, 1);
        x.run(3);
        Skies.alert(x, 1, 1, 2, 3, 23);
        x.run(1);
        CHECK.going("the alert", x, 0, ALERT, 0, 1);
        CHECK.going("the target", x, 1, TARGET, 0, 1);
        CHECK.due("given back", x.slots(0, true), 3);
    }

    private static void promise18ThePushedTargetInTheNextSlotOnAnEarlierSite() {
        Cloudseed x = three(1);
        Skies.easy(x, 0, 6, 1);
        x.weather(0, 0, 0, 0, 0);
        x.weather(1, 0, 0, 0, 0);
        x.run(3);
        Skies.alert(x, 1, 1, 2, 3, 4);
        x.weather(0, 0, 3, 3, 0);
        x.weather(1, 0, 3, 3, 0);
        x.run(1);
        CHECK.going("the alert", x, 2, ALERT, 0, 1);
        CHECK.idle("not yet", x, 0);
        x.run(1);
        CHECK.going("the target", x, 0, TARGET, 0, 1);
    }

    private static void promise18ThePushedAlertAtOnceOnALaterSite() {
        Cloudseed x = Skies.three();
        Skies.alert(x, 1, 1, 4, 0, 23);
        x.run(2);
        Skies.alert(x, 2, 2, 4, 2, 23);
        x.run(1);
        CHECK.going("the urgent one", x, 0, ALERT, 1, 1);
        CHECK.going("the other one, anew", x, 1, ALERT, 0, 1);
        CHECK.due("given back", x.slots(1, true), 2);
    }

    // ---- promise 18: visits that wait (step 3)

    private static void promise18TheOneThatWaitsLongest() {
        Cloudseed x = three(1);
        for (int i = 0; i < 3; i++) {
            Skies.easy(x, 0, 6, 1);
        }
        x.weather(2, 0, 1, 23, 0);
        x.weather(1, 0, 2, 23, 0);
        x.weather(0, 0, 3, 3, 0);
        x.run(5);
        CHECK.going("since the slot 1", x, 0, TARGET, 2, 2);
        x.weather(0, 0, 5, 5, 0);
        x.run(2);
        CHECK.going("since the slot 2, not 3", x, 0, TARGET, 1, 3);
    }

    private static void promise18OfSeveralThatWaitAsLongTheLowestTarget() {
        Cloudseed x = three(1);
        for (int i = 0; i < 3; i++) {
            Skies.easy(x, 0, 6, 1);
        }
        for (int site = 0; site < 3; site++) {
            x.weather(site, 0, 2, 2, 0);
        }
        x.weather(0, 0, 3, 3, 0);
        x.weather(1, 0, 3, 3, 0);
        x.run(4);
        CHECK.going("the target 0, begun on the site 0", x, 2, TARGET, 0, 3);
        CHECK.due("the others wait", x.waiting(), 2);
    }

    private static void promise18TheLongestSinceItWasBrokenOffLast() {
        Cloudseed x = three(1);
        Skies.easy(x, 0, 6, 1);
        Skies.easy(x, 0, 6, 1);
        x.weather(0, 0, 1, 1, 0);
        x.weather(2, 0, 0, 23, 0);
        x.weather(1, 0, 3, 23, 0);
        x.weather(0, 0, 4, 4, 0);
        x.run(2);
        CHECK.due("the target 0 waits since the slot 1", x.waiting(), 1);
        x.run(3);
        CHECK.due("since the slot 4, the target 1 since the slot 3", x.waiting(), 2);
        x.run(1);
        CHECK.going("the target 1", x, 0, TARGET, 1, 4);
    }

    private static void promise18TheHeightInTheSlotsThatItLacks() {
        for (int length = 4; length <= 5; length++) {
            Cloudseed x = one(1);
            // 80 degrees high in the slots 10 to 14.
            x.target(0, 60, 0, length, 0, 80, 100, 50, 1);
            x.weather(0, 0, 13, 13, 0);
            x.run(15);
            CHECK.due("it lacks " + (length - 3) + ", and is high for 1", x.data(), length == 4 ? 1 : 0);
            CHECK.due("it waits", x.waiting(), length - 4);
        }
    }

    private static void promise18TheEndOfTheNightInTheSlotsThatItLacks() {
        for (int lacks = 1; lacks <= 3; lacks++) {
            Cloudseed x = one(1);
            Skies.easy(x, 0, 6, 1);
            x.weather(0, 0, 0, 11, 0);
            x.weather(0, 0, 18 - lacks, 21, 0);
            x.run(23);
            CHECK.due("it waits for " + lacks, x.waiting(), lacks == 3 ? 1 : 0);
            x.run(1);
            CHECK.due("two slots are left", x.visits(0), lacks == 3 ? 0 : 1);
        }
    }

    private static void promise18TheSeeingOfTheFirstSlotThatItLacks() {
        Cloudseed x = one(1);
        x.target(0, 60, 0, 6, 0, 0, 100, 20, 1);
        x.weather(0, 0, 2, 2, 0);
        x.weather(0, 0, 3, 3, 21);
        x.weather(0, 0, 4, 4, 20);
        x.weather(0, 0, 5, 7, 50);
        x.run(4);
        CHECK.due("21 of 20", x.waiting(), 1);
        x.run(1);
        CHECK.going("20 of 20", x, 0, TARGET, 0, 3);
        x.run(3);
        CHECK.datum(x, 0, TARGET, 0, 0, 7, 50);
    }

    private static void promise18OneThatWaitsSuitsTheOtherSite() {
        Cloudseed x = three(1);
        Skies.easy(x, 0, 3, 1);
        x.place(1, 60, 180);
        x.mount(2, 0, 1);
        x.calibrate(2, 1, 0);
        x.weather(0, 0, 2, 2, 0);
        x.run(3);
        CHECK.due("neither high on the site 1 nor the instrument of the site 2", x.waiting(), 1);
    }

    private static void promise18OfThoseThatWaitOneThatSuits() {
        Cloudseed x = three(1);
        x.target(0, 60, 0, 6, 0, 0, 100, 10, 1);
        Skies.easy(x, 0, 6, 1);
        x.weather(2, 0, 0, 23, 0);
        x.weather(0, 0, 1, 1, 0);
        x.weather(1, 0, 1, 23, 0);
        x.weather(0, 0, 2, 2, 11);
        x.run(3);
        CHECK.going("the lowest does not suit", x, 0, TARGET, 1, 2);
        CHECK.due("it waits", x.waiting(), 1);
    }

    private static void promise18WaitingOnesComeAheadOfOthers() {
        Cloudseed x = Skies.one();
        x.proposal(1, 0, 0, 0);
        x.proposal(0, 9, 0, 0);
        Skies.easy(x, 0, 6, 1);
        x.weather(0, 0, 1, 1, 0);
        x.run(2);
        x.share(1, 0);
        x.share(0, 100);
        Skies.easy(x, 1, 1, 1);
        x.run(1);
        CHECK.going("neither group nor rank counts", x, 0, TARGET, 0, 2);
    }

    private static void promise18AlertsComeAheadOfWaitingOnes() {
        Cloudseed x = one(1);
        Skies.easy(x, 0, 6, 1);
        x.weather(0, 0, 1, 1, 0);
        Skies.alert(x, 1, 1, 2, 2, 3);
        x.run(3);
        CHECK.going("the alert", x, 0, ALERT, 0, 1);
        CHECK.due("it still waits", x.waiting(), 1);
        x.run(2);
        CHECK.going("behind it", x, 0, TARGET, 0, 2);
    }

    private static void promise18OneThatGoesOnIsNotExchangedForAWaitingOne() {
        Cloudseed x = three(1);
        Skies.easy(x, 0, 6, 1);
        Skies.easy(x, 0, 6, 1);
        x.weather(2, 0, 0, 23, 0);
        x.weather(0, 0, 1, 23, 0);
        x.run(4);
        CHECK.going("the site 1", x, 1, TARGET, 1, 4);
        CHECK.due("the other waits", x.waiting(), 1);
    }

    // ---- promise 18: targets (step 4)

    /** Which group's target is begun, when one slot of an alert of the group counts. */
    private static void groupBegun(String what, int counts, int share0, int share1, int group) {
        Cloudseed x = one(2);
        Skies.easy(x, 0, 6, 1);
        Skies.easy(x, 1, 6, 1);
        Skies.alert(x, counts, 1, 1, 0, 0);
        x.share(0, share0);
        x.share(1, share1);
        x.run(2);
        CHECK.due(what, x.goingOn(0, 1), group);
    }

    private static void promise18TheGroupForWhichItIsGreatest() {
        groupBegun("10 and 11", 3, 10, 11, 1);
        groupBegun("11 and 10", 3, 11, 10, 0);
        groupBegun("none and 1", 3, 0, 1, 1);
        groupBegun("99 and 100", 3, 99, 100, 1);
    }

    private static void promise18OfSeveralEqualGroupsTheLowest() {
        groupBegun("11 and 11", 3, 11, 11, 0);
        groupBegun("none and none", 3, 0, 0, 0);
        groupBegun("100 and 100", 2, 100, 100, 0);
    }

    private static void promise18Less100TimesTheSlotsOfTheGroup() {
        groupBegun("100 less 100, and none", 0, 100, 0, 0);
        groupBegun("99 less 100, and none", 0, 99, 0, 1);
        groupBegun("100 less 100, and one", 0, 100, 1, 1);
        groupBegun("none, and 100 less 100", 1, 0, 100, 0);
        groupBegun("none less 100, and none", 0, 0, 0, 1);
    }

    private static void promise18TheLowestGroupWhenNoSlotsCount() {
        Cloudseed x = one(4);
        for (int proposal = 3; proposal >= 0; proposal--) {
            Skies.easy(x, proposal, 2, 1);
        }
        x.share(0, 0);
        x.share(3, 100);
        x.run(1);
        CHECK.going("the group 0", x, 0, TARGET, 3, 1);
    }

    private static void promise18SlotsOfLostVisitsDoNotCount() {
        Cloudseed x = one(2);
        Skies.easy(x, 0, 6, 1);
        x.run(5);
        Skies.alert(x, 2, 1, 1, 5, 5);
        Skies.easy(x, 1, 6, 1);
        x.run(2);
        CHECK.due("given back", x.slots(0, true), 5);
        CHECK.due("none count", x.slots(0, false), 0);
        CHECK.going("25 and 25", x, 0, TARGET, 0, 1);
    }

    private static void promise18SlotsOfVisitsThatAreNotGoodCount() {
        Cloudseed x = Skies.one();
        x.proposal(0, 0, 100, 0);
        x.proposal(1, 0, 0, 0);
        Skies.easy(x, 0, 1, 1);
        Skies.easy(x, 1, 2, 1);
        x.run(2);
        CHECK.due("one", x.slots(0, false), 1);
        CHECK.going("25 less 100, and 25", x, 0, TARGET, 1, 1);
    }

    private static void promise18TheGreatestRankOfTheGroup() {
        for (int rank = 0; rank <= 8; rank += 8) {
            Cloudseed x = Skies.one();
            x.proposal(0, rank, 0, 0);
            x.proposal(0, rank + 1, 0, 0);
            Skies.easy(x, 0, 2, 1);
            Skies.easy(x, 1, 2, 1);
            Skies.easy(x, 0, 2, 1);
            x.run(1);
            CHECK.going("the rank " + (rank + 1), x, 0, TARGET, 1, 1);
        }
    }

    private static void promise18OfSeveralEqualRanksTheLowestProposal() {
        Cloudseed x = Skies.one();
        for (int i = 0; i < 8; i++) {
            x.proposal(0, 5, 0, 0);
        }
        for (int proposal = 7; proposal >= 0; proposal--) {
            // The lowest proposal has the most beginnings.
            Skies.easy(x, proposal, proposal == 0 ? 1 : 6, 1);
        }
        Skies.easy(x, 4, 6, 1);
        x.run(1);
        CHECK.datum(x, 0, TARGET, 7);
        x.run(1);
        CHECK.going("then the next one", x, 0, TARGET, 6, 1);
    }

    private static void promise18TheGroupAheadOfTheRank() {
        Cloudseed x = Skies.one();
        x.proposal(1, 9, 0, 0);
        x.proposal(0, 0, 0, 0);
        Skies.easy(x, 0, 2, 1);
        Skies.easy(x, 1, 2, 1);
        x.run(1);
        CHECK.going("the group 0", x, 0, TARGET, 1, 1);
    }

    /** The first of two targets that are begun in the slot 0, when both are from their places on. */
    private static void firstBegun(String what, int[] one, int[] other, int want) {
        Cloudseed x = one(1);
        x.target(0, one[0], 0, one[1], 0, 30, 100, 50, 1);
        x.target(0, other[0], 0, other[1], 0, 30, 100, 50, 1);
        x.run(1);
        CHECK.due(what, x.goingOn(0, 1), want);
    }

    private static void promise18TheFewestSlotsInWhichItCouldBegin() {
        // High from the slot 0 on, up to where the meridian is 60 degrees behind: 13 slots at 0, 14 at 5.
        firstBegun("14 less 1, and 13 less 1", new int[] {5, 2}, new int[] {0, 2}, 1);
        firstBegun("14 less 2, and 13 less 2", new int[] {5, 3}, new int[] {0, 3}, 1);
        firstBegun("13 less 1, and 14 less 1", new int[] {0, 2}, new int[] {5, 2}, 0);
        firstBegun("14 less 3, and 13 less 1", new int[] {5, 4}, new int[] {0, 2}, 0);
    }

    private static void promise18OfSeveralThatCouldBeginAsOftenTheLowest() {
        firstBegun("14 less 2, and 13 less 1", new int[] {5, 3}, new int[] {0, 2}, 0);
        firstBegun("13 less 1, and 14 less 2", new int[] {0, 2}, new int[] {5, 3}, 0);
        firstBegun("equal ones", new int[] {5, 2}, new int[] {5, 2}, 0);
    }

    private static void promise18FromThisSlotOn() {
        Cloudseed x = one(1);
        x.run(10);
        // High in the slots 0 to 15, and in 9 to 16: six, and seven, are left.
        x.target(0, 15, 0, 2, 0, 30, 100, 50, 1);
        x.target(0, 64, 0, 2, 0, 71, 100, 50, 1);
        x.run(1);
        CHECK.going("the slots that are gone do not count", x, 0, TARGET, 0, 1);
    }

    private static void promise18CouldBeginUpToTheEndOfTheNight() {
        Cloudseed x = one(1);
        // High up to the slot 21, and far behind the night: they could begin in 18 to 20, and in 18 alone.
        x.target(0, 60, 0, 2, 0, 45, 100, 50, 1);
        x.target(0, 60, 0, 6, 0, 0, 100, 50, 1);
        x.weather(0, 0, 0, 17, 0);
        x.run(19);
        CHECK.going("the night ends it", x, 0, TARGET, 1, 1);
    }

    private static void promise18TheSlotBehindTheNightDoesNotCount() {
        Cloudseed x = one(1);
        // Both could begin in the slot 18 alone: high far behind the night, and up to the slot 21.
        x.target(0, 60, 0, 6, 0, 0, 100, 50, 1);
        x.target(0, 60, 0, 4, 0, 45, 100, 50, 1);
        x.weather(0, 0, 0, 17, 0);
        x.run(19);
        CHECK.going("the lowest", x, 0, TARGET, 0, 1);
    }

    private static void promise18ByHeightsAlone() {
        Cloudseed x = one(1);
        x.target(0, 60, 0, 2, 0, 30, 100, 10, 1);
        x.target(0, 0, 0, 2, 0, 30, 100, 50, 1);
        x.weather(0, 0, 1, 23, 11);
        x.run(1);
        CHECK.going("the seeing does not count", x, 0, TARGET, 1, 1);
        Cloudseed y = one(1);
        y.target(0, 5, 0, 2, 0, 30, 100, 50, 1);
        y.target(0, 0, 0, 2, 0, 30, 100, 50, 1);
        y.weather(0, 0, 2, 23, 0);
        y.run(1);
        CHECK.going("closed slots do not count", y, 0, TARGET, 1, 1);
    }

    private static void promise18ATargetThatDoesNotWantOneIsNotBegun() {
        Cloudseed x = one(1);
        Skies.easy(x, 0, 1, 1);
        x.run(48);
        CHECK.due("once", x.data(), 1);
    }

    private static void promise18ATargetThatGoesOnIsNotBegunElsewhere() {
        Cloudseed x = three(1);
        Skies.easy(x, 0, 6, 10);
        x.weather(0, 0, 0, 0, 0);
        x.run(5);
        CHECK.idle("ahead of it", x, 0);
        CHECK.going("it", x, 1, TARGET, 0, 5);
        CHECK.idle("behind it", x, 2);
    }

    private static void promise18ATargetThatWaitsIsNotBegun() {
        Cloudseed x = three(1);
        x.target(0, 60, 0, 3, 0, 0, 100, 10, 10);
        x.weather(0, 0, 1, 1, 0);
        x.weather(0, 0, 2, 5, 11);
        x.weather(1, 0, 0, 5, 11);
        x.weather(2, 0, 0, 5, 11);
        x.run(6);
        CHECK.due("it waits", x.waiting(), 1);
        x.run(1);
        CHECK.going("it goes on", x, 0, TARGET, 0, 2);
        CHECK.idle("it is not begun", x, 1);
    }

    private static void promise18ATargetBeginsWhereItsLengthIsLeft() {
        for (int slot = 18; slot <= 19; slot++) {
            Cloudseed x = one(1);
            Skies.easy(x, 0, 6, 1);
            x.weather(0, 0, 0, slot - 1, 0);
            x.run(24);
            CHECK.due("from the slot " + slot, x.visits(0), slot == 18 ? 1 : 0);
            CHECK.due("no slot is given back", x.slots(0, true), 0);
        }
    }

    // ---- promise 18: the slots of a visit (step 5), and the end of the night

    private static void promise18DoneWhenItHasAsManyAsItsLength() {
        for (int length = 1; length <= 6; length++) {
            Cloudseed x = one(1);
            Skies.easy(x, 0, length, 1);
            for (int had = 1; had < length; had++) {
                x.run(1);
                CHECK.going("length " + length, x, 0, TARGET, 0, had);
                CHECK.due("no data yet", x.data(), 0);
            }
            x.run(1);
            CHECK.idle("done", x, 0);
            CHECK.datum(x, 0, TARGET, 0, 0, length - 1);
            CHECK.due("all count", x.slots(0, false), length);
        }
    }

    private static void promise18AnAlertIsDoneWhenItHasAsManyAsItsLength() {
        for (int length = 1; length <= 6; length++) {
            Cloudseed x = Skies.one();
            Skies.alert(x, 3, 1, length, 0, 23);
            for (int had = 1; had < length; had++) {
                x.run(1);
                CHECK.going("length " + length, x, 0, ALERT, 0, had);
            }
            x.run(1);
            CHECK.due("served", x.served(0), true);
            CHECK.due("all count", x.slots(3, false), length);
        }
    }

    private static void promise18OneThatIsDoneInTheLastSlotIsNotLost() {
        Cloudseed x = one(1);
        Skies.easy(x, 0, 6, 1);
        x.weather(0, 0, 0, 17, 0);
        x.run(24);
        CHECK.datum(x, 0, TARGET, 0, 0, 23);
        CHECK.due("none is given back", x.slots(0, true), 0);
    }

    private static void promise18OneThatWaitsIsLostBehindTheLastSlot() {
        Cloudseed x = one(1);
        Skies.easy(x, 0, 6, 10);
        x.weather(0, 0, 5, 23, 0);
        x.run(23);
        CHECK.due("in the last slot", x.waiting(), 1);
        CHECK.due("not yet given back", x.slots(0, true), 0);
        x.run(1);
        CHECK.due("behind it", x.waiting(), 0);
        CHECK.due("given back", x.slots(0, true), 5);
        CHECK.due("not made", x.data(), 0);
        x.run(1);
        CHECK.going("a new one", x, 0, TARGET, 0, 1);
    }

    private static void promise18OneThatIsBrokenOffInTheLastSlotIsLost() {
        Cloudseed x = one(1);
        Skies.easy(x, 0, 2, 10);
        x.weather(0, 0, 0, 21, 0);
        x.weather(0, 0, 23, 23, 0);
        x.run(24);
        CHECK.due("it does not wait", x.waiting(), 0);
        CHECK.due("given back", x.slots(0, true), 1);
    }

    private static void promise18AllThatWaitAreLostBehindTheLastSlotOfAll() {
        Cloudseed x = three(2);
        x.calibrate(0, 0, 29);
        x.calibrate(1, 0, 29);
        Skies.run(x, 690);
        x.target(0, 90, 0, 6, 0, 0, 100, 50, 1);
        x.target(1, 90, 0, 6, 0, 0, 100, 50, 1);
        Skies.run(x, 8);
        x.weather(0, 29, 2, 23, 0);
        x.weather(1, 29, 2, 23, 0);
        x.weather(2, 29, 2, 23, 0);
        x.run(21);
        CHECK.due("two wait", x.waiting(), 2);
        x.run(1);
        CHECK.due("none", x.waiting(), 0);
        CHECK.due("given back", x.slots(0, true), 2);
        CHECK.due("to the other group", x.slots(1, true), 2);
    }

    // ---- promise 19: now

    private static void promise19FromZeroTo720() {
        int[] slots = {0, 1, 23, 24, 25, 695, 696, 719, 720, 768};
        for (int run : slots) {
            Cloudseed x = new Cloudseed();
            Skies.run(x, run);
            CHECK.due("behind " + run, x.now(), Math.min(run, 720));
        }
    }

    // ---- promise 20: goingOn

    private static void promise20Site() {
        GOING_ON.range(0, 0, 2, INDEX);
    }

    private static void promise20What() {
        GOING_ON.range(1, 0, 2, ARGUMENT);
    }

    private static void promise20NoSiteIsThrownFirst() {
        GOING_ON.refused(INDEX, 3, 3);
        GOING_ON.refused(INDEX, -1, -1);
    }

    private static void promise20NoneWithoutAVisit() {
        CHECK.idle("at first", new Cloudseed(), 0);
        Cloudseed x = one(1);
        Skies.easy(x, 0, 1, 1);
        x.run(1);
        CHECK.idle("when it is done", x, 0);
    }

    private static void promise20TheGreatestNumbers() {
        Cloudseed x = Skies.one();
        x.proposal(0, 0, 0, 0);
        x.proposal(0, 1, 0, 0);
        for (int i = 0; i < 23; i++) {
            Skies.easy(x, 0, 6, 1);
        }
        Skies.easy(x, 1, 6, 1);
        x.run(5);
        CHECK.going("the target 23", x, 0, TARGET, 23, 5);
        for (int i = 0; i < 9; i++) {
            Skies.alert(x, 0, 8, 6, 5, 23);
        }
        Skies.alert(x, 0, 9, 6, 5, 23);
        x.run(5);
        CHECK.going("the alert 9", x, 0, ALERT, 9, 5);
    }

    private static void promise20AllSlotsOfAllSites() {
        Cloudseed x = three(1);
        Skies.easy(x, 0, 6, 1);
        x.weather(0, 0, 2, 23, 0);
        x.weather(1, 0, 4, 23, 0);
        x.run(5);
        CHECK.going("2, 2 and 1", x, 2, TARGET, 0, 5);
    }

    // ---- promise 21: waiting

    private static void promise21NoneAndTheMost() {
        Cloudseed x = three(1);
        for (int target = 0; target < 24; target++) {
            x.target(0, 60, 0, 6, 0, 0, 100, 1 + target / 3, 1);
        }
        CHECK.due("at first", x.waiting(), 0);
        for (int slot = 0; slot < 16; slot += 2) {
            for (int site = 0; site < 3; site++) {
                // Too bad a seeing for those that wait already.
                x.weather(site, 0, slot, slot, 1 + slot / 2);
                x.weather(site, 0, slot + 1, slot + 1, 0);
            }
            x.run(1);
            CHECK.due("in an open slot", x.waiting(), 3 * slot / 2);
            x.run(1);
            CHECK.due("in a closed one", x.waiting(), 3 * slot / 2 + 3);
        }
        for (int site = 0; site < 3; site++) {
            x.weather(site, 0, 16, 16, 50);
        }
        x.run(1);
        CHECK.due("all wait", x.waiting(), 24);
        x.run(7);
        CHECK.due("behind the night", x.waiting(), 0);
        CHECK.due("each had one slot", x.slots(0, true), 24);
    }

    private static void promise21OneThatGoesOnDoesNotWait() {
        Cloudseed x = one(1);
        Skies.easy(x, 0, 6, 1);
        x.run(1);
        CHECK.due("it goes on", x.waiting(), 0);
    }

    // ---- promise 22: visits

    private static void promise22Target() {
        VISITS.range(0, 0, 6, INDEX);
    }

    private static void promise22NoTargetAtFirst() {
        Asked first = new Asked(CHECK, Cloudseed::new, (x, a) -> x.visits(a[0]));
        first.refused(INDEX, 0);
    }

    private static void promise22NoneAndTheMost() {
        Cloudseed x = Skies.allNights();
        x.proposal(0, 0, 0, 0);
        Skies.easy(x, 0, 1, 10);
        CHECK.due("none", x.visits(0), 0);
        Skies.run(x, 241);
        CHECK.due("ten", x.visits(0), 10);
        x.series(0, 10, 2, 0);
        Skies.run(x, 479);
        CHECK.due("ten more for each j", x.visits(0), 20);
    }

    private static void promise22OnlyGoodOnes() {
        Cloudseed x = Skies.one();
        x.proposal(0, 0, 91, 0);
        Skies.easy(x, 0, 1, 9);
        x.weather(0, 0, 3, 3, 9);
        x.run(3);
        CHECK.due("three of the quality 90", x.visits(0), 0);
        x.run(1);
        CHECK.due("one of 91", x.visits(0), 1);
    }

    // ---- promise 23: served

    private static void promise23Alert() {
        SERVED.range(0, 0, 2, INDEX);
    }

    private static void promise23NoAlertAtFirst() {
        Asked first = new Asked(CHECK, Cloudseed::new, (x, a) -> x.served(a[0]));
        first.refused(INDEX, 0);
    }

    private static void promise23WhenItIsDone() {
        Cloudseed x = Skies.one();
        Skies.alert(x, 0, 1, 2, 0, 23);
        Skies.alert(x, 0, 1, 2, 0, 2);
        CHECK.due("told", x.served(0), false);
        x.run(1);
        CHECK.due("it goes on", x.served(0), false);
        x.run(1);
        CHECK.due("it is done", x.served(0), true);
        CHECK.due("the other one is not", x.served(1), false);
        x.run(48);
        CHECK.due("it stays so", x.served(0), true);
        CHECK.due("the other one was too late", x.served(1), false);
    }

    // ---- promise 24: slots

    private static void promise24Group() {
        SLOTS.range(0, 0, 3, INDEX);
        new Asked(CHECK, Skies::busy, (x, a) -> x.slots(a[0], true), 0).range(0, 0, 3, INDEX);
    }

    private static void promise24OfVisitsThatAreDone() {
        Cloudseed x = one(4);
        for (int proposal = 0; proposal < 4; proposal++) {
            Skies.easy(x, proposal, proposal + 1, 1);
        }
        x.run(24);
        for (int group = 0; group < 4; group++) {
            CHECK.due("count of the group " + group, x.slots(group, false), group + 1);
            CHECK.due("back of the group " + group, x.slots(group, true), 0);
        }
    }

    private static void promise24AsManyAsItHad() {
        for (int had = 1; had <= 5; had++) {
            Cloudseed x = Skies.one();
            x.proposal(3, 0, 0, 0);
            Skies.easy(x, 0, 6, 1);
            x.run(had);
            Skies.alert(x, 1, 1, 1, had, had);
            x.run(1);
            CHECK.due("back", x.slots(3, true), had);
            CHECK.due("none count", x.slots(3, false), 0);
            CHECK.due("those of the alert count", x.slots(1, false), 1);
            CHECK.due("and are not given back", x.slots(1, true), 0);
        }
    }

    /** A visit that has two slots of the site 0 and one of the site 1, on which it goes on, as long as that is open. */
    private static Cloudseed handedOver() {
        Cloudseed x = three(1);
        Skies.easy(x, 0, 6, 1);
        x.weather(0, 0, 2, 23, 0);
        x.weather(2, 0, 0, 23, 0);
        x.run(3);
        CHECK.going("on the site 1", x, 1, TARGET, 0, 3);
        return x;
    }

    private static void promise24AsManyAsItHadOnAllSites() {
        Cloudseed waits = handedOver();
        waits.weather(1, 0, 3, 23, 0);
        waits.run(21);
        CHECK.due("lost behind the night", waits.slots(0, true), 3);
        Cloudseed pushed = handedOver();
        Skies.alert(pushed, 1, 1, 1, 3, 3);
        pushed.run(1);
        CHECK.due("pushed aside", pushed.slots(0, true), 3);
        Cloudseed done = handedOver();
        done.run(3);
        CHECK.due("done", done.slots(0, false), 6);
        CHECK.due("none back", done.slots(0, true), 0);
    }

    private static void promise24AddedToWhatItHasGotBack() {
        Cloudseed x = one(1);
        Skies.easy(x, 0, 6, 10);
        Skies.alert(x, 1, 1, 1, 3, 3);
        Skies.alert(x, 1, 1, 1, 6, 6);
        x.run(7);
        CHECK.due("3 and 2", x.slots(0, true), 5);
        x.weather(0, 0, 11, 23, 0);
        x.run(17);
        CHECK.due("and 4 behind the night", x.slots(0, true), 9);
    }

    // ---- promise 25: lost

    private static void promise25Site() {
        LOST.range(0, 0, 2, INDEX);
        new Asked(CHECK, Skies::busy, (x, a) -> x.lost(a[0], true), 0).range(0, 0, 2, INDEX);
    }

    private static void promise25NoneAndAllSlots() {
        Cloudseed x = new Cloudseed();
        for (int night = 0; night < 30; night++) {
            x.weather(1, night, 0, 23, 0);
            x.fault(2, night, 0, 22);
        }
        CHECK.due("none at first", x.lost(0, false) + x.lost(1, true), 0);
        Skies.run(x, 720);
        CHECK.due("never closed", x.lost(0, true), 0);
        CHECK.due("no visit", x.lost(0, false), 720);
        CHECK.due("always closed", x.lost(1, true), 720);
        CHECK.due("never just without one", x.lost(1, false), 0);
        CHECK.due("closed for 23 slots", x.lost(2, true), 690);
        CHECK.due("open for one", x.lost(2, false), 30);
    }

    private static void promise25NotThoseOfVisits() {
        Cloudseed x = one(1);
        Skies.easy(x, 0, 1, 1);
        Skies.easy(x, 0, 3, 1);
        x.weather(0, 0, 2, 2, 0);
        x.run(6);
        CHECK.due("closed", x.lost(0, true), 1);
        CHECK.due("behind the slots 0, 1, 3 and 4", x.lost(0, false), 1);
    }

    private static void promise25ByWhatWasToldWhenItWasRun() {
        Cloudseed x = new Cloudseed();
        x.weather(0, 0, 0, 0, 0);
        x.run(3);
        x.weather(0, 0, 0, 0, 10);
        CHECK.due("closed, though told as open later", x.lost(0, true), 1);
        CHECK.due("open", x.lost(0, false), 2);
        x.weather(0, 0, 1, 2, 0);
        CHECK.due("closed", x.lost(0, true), 1);
        CHECK.due("open, though told as closed later", x.lost(0, false), 2);
    }

    private static void promise25QuestionsChangeNothing() {
        GOING_ON.changesNothing(1, 2);
        VISITS.changesNothing(1);
        SERVED.changesNothing(1);
        SLOTS.changesNothing(1, 1);
        LOST.changesNothing(1, 1);
    }
}
