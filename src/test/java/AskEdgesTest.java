import java.util.function.IntPredicate;

/** Boundary cases of promises 11 to 17: a test for each sentence that names one. */
public final class AskEdgesTest {
    private static final Check CHECK = new Check("AskEdgesTest");
    private static final Class<? extends RuntimeException> INDEX = Check.INDEX;
    private static final Class<? extends RuntimeException> ARGUMENT = Check.ARGUMENT;
    private static final Class<? extends RuntimeException> STATE = Check.STATE;

    private static final Asked.Call MAKE_PROPOSAL = (x, a) -> x.proposal(a[0], a[1], a[2], a[3]);
    private static final Asked.Call MAKE_TARGET =
            (x, a) -> x.target(a[0], a[1], a[2], a[3], a[4], a[5], a[6], a[7], a[8]);
    private static final Asked.Call MAKE_ALERT =
            (x, a) -> x.alert(a[0], a[1], a[2], a[3], a[4], a[5], a[6], a[7], a[8]);

    private static final Asked SHARE = new Asked(CHECK, Skies::busy, (x, a) -> x.share(a[0], a[1]), 0, 50);
    private static final Asked PROPOSAL = new Asked(CHECK, Skies::busy, MAKE_PROPOSAL, 0, 0, 0, 0);
    private static final Asked NINTH_PROPOSAL = new Asked(CHECK, Skies::full, MAKE_PROPOSAL, 0, 0, 0, 0);
    private static final Asked TARGET = new Asked(CHECK, Skies::busy, MAKE_TARGET, 0, 0, 0, 1, 0, 0, 0, 1, 1);
    private static final Asked LAST_TARGET = new Asked(CHECK, Skies::full, MAKE_TARGET, 0, 0, 0, 1, 0, 0, 0, 1, 1);
    private static final Asked SERIES = new Asked(CHECK, Skies::busy,
            (x, a) -> x.series(a[0], a[1], a[2], a[3]), 0, 0, 30, 0);
    private static final Asked ALERT = new Asked(CHECK, Skies::busy, MAKE_ALERT, 0, 1, 0, 0, 1, 0, 0, 0, 23);
    private static final Asked LAST_ALERT = new Asked(CHECK, Skies::full, MAKE_ALERT, 0, 1, 0, 0, 1, 0, 0, 0, 23);
    private static final Asked WANTS = new Asked(CHECK, Skies::busy, (x, a) -> x.wants(a[0], a[1]), 0, 0);
    private static final Asked CHANCES = new Asked(CHECK, Skies::busy,
            (x, a) -> x.chances(a[0], a[1], a[2]), 0, 0, 0);

    public static void main(String[] args) {
        CHECK.runEach(AskEdgesTest.class);
    }

    // ---- promise 11: share

    private static void promise11Group() {
        SHARE.range(0, 0, 3, INDEX);
    }

    private static void promise11Share() {
        SHARE.range(1, 0, 100, ARGUMENT);
    }

    private static void promise11NoGroupIsThrownFirst() {
        SHARE.refused(INDEX, 4, 101);
        SHARE.refused(INDEX, -1, -1);
    }

    private static void promise11ShareBefore() {
        Cloudseed x = new Cloudseed();
        CHECK.due("at first", x.share(3, 100), 25);
        CHECK.due("the most", x.share(3, 0), 100);
        CHECK.due("none", x.share(3, 1), 0);
        CHECK.due("another group", x.share(2, 1), 25);
    }

    // ---- promise 12: proposal

    private static void promise12Group() {
        PROPOSAL.range(0, 0, 3, INDEX);
    }

    private static void promise12Rank() {
        PROPOSAL.range(1, 0, 9, ARGUMENT);
    }

    private static void promise12Quality() {
        PROPOSAL.range(2, 0, 100, ARGUMENT);
    }

    private static void promise12Nights() {
        PROPOSAL.range(3, 0, 30, ARGUMENT);
    }

    private static void promise12AtMost8() {
        Cloudseed x = new Cloudseed();
        for (int number = 0; number < 8; number++) {
            CHECK.due("number", x.proposal(3, 9, 100, 30), number);
            int last = number;
            CHECK.due("it is there", x.target(last, 0, 0, 1, 0, 0, 0, 1, 1), number);
            CHECK.fails("not the next one", INDEX, () -> x.target(last + 1, 0, 0, 1, 0, 0, 0, 1, 1));
        }
        NINTH_PROPOSAL.refused(STATE, 0, 0, 0, 0);
    }

    private static void promise12NoGroupIsThrownFirst() {
        PROPOSAL.refused(INDEX, 4, 10, 0, 0);
        PROPOSAL.refused(INDEX, -1, 0, 101, 0);
        PROPOSAL.refused(INDEX, 4, 0, 0, 31);
        NINTH_PROPOSAL.refused(INDEX, 4, 0, 0, 0);
        NINTH_PROPOSAL.refused(INDEX, -1, -1, -1, -1);
    }

    private static void promise12OutOfRangeIsThrownAheadOfTooMany() {
        NINTH_PROPOSAL.refused(ARGUMENT, 0, 10, 0, 0);
        NINTH_PROPOSAL.refused(ARGUMENT, 0, 0, 101, 0);
        NINTH_PROPOSAL.refused(ARGUMENT, 0, 0, 0, 31);
    }

    private static void promise12ARefusedOneHasNoNumber() {
        Cloudseed x = new Cloudseed();
        CHECK.due("first", x.proposal(0, 0, 0, 0), 0);
        CHECK.fails("rank", ARGUMENT, () -> x.proposal(0, -1, 0, 0));
        CHECK.fails("group", INDEX, () -> x.proposal(4, 0, 0, 0));
        CHECK.due("second", x.proposal(0, 0, 0, 0), 1);
    }

    // ---- promise 13: target

    private static void promise13Proposal() {
        TARGET.range(0, 0, 2, INDEX);
    }

    private static void promise13NoProposalAtFirst() {
        Asked first = new Asked(CHECK, Cloudseed::new, MAKE_TARGET);
        first.refused(INDEX, 0, 0, 0, 1, 0, 0, 0, 1, 1);
        Asked last = new Asked(CHECK, Skies::full, MAKE_TARGET);
        last.refused(INDEX, 8, 0, 0, 1, 0, 0, 0, 1, 1);
    }

    private static void promise13Ra() {
        TARGET.range(1, 0, 359, ARGUMENT);
    }

    private static void promise13Dec() {
        TARGET.range(2, -90, 90, ARGUMENT);
    }

    private static void promise13Length() {
        TARGET.range(3, 1, 6, ARGUMENT);
    }

    private static void promise13Instrument() {
        TARGET.range(4, 0, 2, INDEX);
    }

    private static void promise13Height() {
        TARGET.range(5, 0, 90, ARGUMENT);
    }

    private static void promise13Light() {
        TARGET.range(6, 0, 100, ARGUMENT);
    }

    private static void promise13Seeing() {
        TARGET.range(7, 1, 50, ARGUMENT);
    }

    private static void promise13Visits() {
        TARGET.range(8, 1, 10, ARGUMENT);
    }

    private static void promise13AtMost24() {
        Cloudseed x = new Cloudseed();
        x.proposal(0, 0, 0, 0);
        for (int number = 0; number < 24; number++) {
            CHECK.due("number", x.target(0, 359, 90, 6, 2, 90, 100, 50, 10), number);
            int last = number;
            CHECK.due("it is there", x.visits(last), 0);
            CHECK.fails("not the next one", INDEX, () -> x.visits(last + 1));
        }
        LAST_TARGET.refused(STATE, 0, 0, 0, 1, 0, 0, 0, 1, 1);
    }

    /** Each argument of a target, but for the proposal and the instrument, out of range. */
    private static final int[][] WRONG_TARGETS = {
        {0, -1, 0, 1, 0, 0, 0, 1, 1}, {0, 0, 91, 1, 0, 0, 0, 1, 1}, {0, 0, 0, 7, 0, 0, 0, 1, 1},
        {0, 0, 0, 1, 0, 91, 0, 1, 1}, {0, 0, 0, 1, 0, 0, 101, 1, 1}, {0, 0, 0, 1, 0, 0, 0, 0, 1},
        {0, 0, 0, 1, 0, 0, 0, 1, 11},
    };

    private static void promise13NoProposalOrInstrumentIsThrownFirst() {
        for (int[] wrong : WRONG_TARGETS) {
            int[] proposal = wrong.clone();
            proposal[0] = 3;
            TARGET.refused(INDEX, proposal);
            int[] instrument = wrong.clone();
            instrument[4] = 3;
            TARGET.refused(INDEX, instrument);
        }
        LAST_TARGET.refused(INDEX, 8, 0, 0, 1, 0, 0, 0, 1, 1);
        LAST_TARGET.refused(INDEX, 0, 0, 0, 1, 3, 0, 0, 1, 1);
    }

    private static void promise13OutOfRangeIsThrownAheadOfTooMany() {
        for (int[] wrong : WRONG_TARGETS) {
            LAST_TARGET.refused(ARGUMENT, wrong);
        }
    }

    private static void promise13ARefusedOneHasNoNumber() {
        Cloudseed x = new Cloudseed();
        x.proposal(0, 0, 0, 0);
        CHECK.due("first", x.target(0, 0, 0, 1, 0, 0, 0, 1, 1), 0);
        CHECK.fails("length", ARGUMENT, () -> x.target(0, 0, 0, 0, 0, 0, 0, 1, 1));
        CHECK.fails("proposal", INDEX, () -> x.target(1, 0, 0, 1, 0, 0, 0, 1, 1));
        CHECK.due("second", x.target(0, 0, 0, 1, 0, 0, 0, 1, 1), 1);
    }

    private static void promise13IsNoSeries() {
        Cloudseed x = new Cloudseed();
        x.proposal(0, 0, 0, 0);
        Skies.easy(x, 0, 1, 1);
        CHECK.due("in the first night", x.wants(0, 0), true);
        CHECK.due("in the last night", x.wants(0, 29), true);
    }

    // ---- promise 14: series

    private static void promise14Target() {
        SERIES.range(0, 0, 6, INDEX);
    }

    private static void promise14NoTargetAtFirst() {
        Asked first = new Asked(CHECK, Cloudseed::new, (x, a) -> x.series(a[0], a[1], a[2], a[3]));
        first.refused(INDEX, 0, 0, 30, 0);
    }

    private static void promise14First() {
        SERIES.range(1, 0, 29, INDEX);
    }

    private static void promise14Period() {
        SERIES.range(2, 1, 30, ARGUMENT);
    }

    private static void promise14Tolerance() {
        SERIES.range(3, 0, 5, ARGUMENT);
    }

    private static void promise14ToleranceIsLessThanHalfOfThePeriod() {
        int[] most = {0, 0, 0, 1, 1, 2, 2, 3, 3, 4, 4, 5, 5, 5};
        for (int period = 1; period < most.length; period++) {
            SERIES.taken(0, 0, period, most[period]);
            SERIES.refused(ARGUMENT, 0, 0, period, most[period] + 1);
        }
    }

    private static void promise14ASeriesAlready() {
        SERIES.taken(3, 5, 9, 2);
        SERIES.refused(STATE, 2, 5, 9, 2);
        SERIES.refused(STATE, 2, 0, 3, 1);
    }

    private static void promise14NoTargetOrNightIsThrownFirst() {
        SERIES.refused(INDEX, 7, 0, 0, 0);
        SERIES.refused(INDEX, -1, 0, 9, 6);
        SERIES.refused(INDEX, 0, 30, 31, 0);
        SERIES.refused(INDEX, 0, -1, 9, -1);
        SERIES.refused(INDEX, 2, 30, 9, 2);
        SERIES.refused(INDEX, 2, 30, 9, 5);
    }

    private static void promise14OutOfRangeIsThrownAheadOfASeriesAlready() {
        SERIES.refused(ARGUMENT, 2, 0, 0, 0);
        SERIES.refused(ARGUMENT, 2, 0, 9, 5);
        SERIES.refused(ARGUMENT, 2, 0, 30, 6);
        SERIES.refused(ARGUMENT, 2, 0, 30, -1);
    }

    /** A series that was never observed is wanted in just these nights. */
    private static void wanted(int visits, int first, int period, int tolerance, IntPredicate nights) {
        Cloudseed x = new Cloudseed();
        x.proposal(0, 0, 0, 0);
        Skies.easy(x, 0, 1, visits);
        x.series(0, first, period, tolerance);
        for (int night = 0; night < 30; night++) {
            CHECK.due("night " + night, x.wants(0, night), nights.test(night));
        }
    }

    private static void promise14NightsAtMostTheToleranceAway() {
        wanted(1, 10, 5, 2, night -> night >= 8 && night <= 12);
        wanted(1, 10, 5, 0, night -> night == 10);
        wanted(1, 10, 30, 5, night -> night >= 5 && night <= 15);
    }

    private static void promise14VisitsFromZeroToTheNumberLessOne() {
        wanted(2, 4, 6, 1, night -> night >= 3 && night <= 5 || night >= 9 && night <= 11);
        wanted(10, 0, 2, 0, night -> night % 2 == 0 && night <= 18);
        wanted(10, 20, 1, 0, night -> night >= 20);
        wanted(9, 20, 1, 0, night -> night >= 20 && night <= 28);
    }

    private static void promise14NightsOneBehindTheOther() {
        wanted(2, 10, 5, 2, night -> night >= 8 && night <= 17);
        wanted(2, 10, 6, 2, night -> night >= 8 && night <= 18 && night != 13);
    }

    private static void promise14NightsAtBothEnds() {
        wanted(1, 0, 30, 5, night -> night <= 5);
        wanted(1, 29, 30, 5, night -> night >= 24);
        wanted(2, 0, 30, 5, night -> night <= 5 || night >= 25);
        wanted(2, 4, 30, 5, night -> night <= 9 || night == 29);
        wanted(2, 5, 30, 5, night -> night <= 10);
        wanted(10, 29, 30, 0, night -> night == 29);
    }

    private static void promise14GoodVisitsForAJ() {
        Cloudseed x = Skies.one();
        x.proposal(0, 0, 0, 0);
        Skies.easy(x, 0, 1, 3);
        x.series(0, 1, 3, 1);
        x.run(1);
        CHECK.due("the first night of j 0", x.visits(0), 1);
        for (int night = 0; night < 30; night++) {
            CHECK.due("night " + night, x.wants(0, night), night >= 3 && night <= 8);
        }
        x.run(48);
        CHECK.due("its other nights", x.visits(0), 1);
        x.run(48);
        CHECK.due("the first night of j 1", x.datum(1, 3), 72);
        for (int night = 0; night < 30; night++) {
            CHECK.due("night " + night, x.wants(0, night), night >= 6 && night <= 8);
        }
    }

    private static void promise14TheLowestJThatIsNotMade() {
        Cloudseed x = Skies.one();
        x.proposal(0, 0, 0, 0);
        Skies.easy(x, 0, 1, 3);
        x.series(0, 0, 2, 0);
        x.weather(0, 0, 0, 23, 0);
        Skies.run(x, 49);
        CHECK.due("one in the night 2", x.visits(0), 1);
        CHECK.due("j 0 was not made", x.wants(0, 0), true);
        CHECK.due("j 1 was", x.wants(0, 2), false);
        CHECK.due("j 2 was not", x.wants(0, 4), true);
    }

    private static void promise14OneThatIsNotGoodIsNotForAJ() {
        Cloudseed x = Skies.one();
        x.proposal(0, 0, 91, 0);
        Skies.easy(x, 0, 1, 1);
        x.series(0, 0, 1, 0);
        x.run(2);
        CHECK.due("two data", x.data(), 2);
        CHECK.due("still wanted", x.wants(0, 0), true);
    }

    private static void promise14GoodVisitsThatWereMadeStayWithoutAJ() {
        Cloudseed x = Skies.one();
        x.proposal(0, 0, 0, 0);
        Skies.easy(x, 0, 1, 1);
        x.run(1);
        CHECK.due("it has all its visits", x.wants(0, 1), false);
        x.series(0, 0, 1, 0);
        CHECK.due("they stay", x.visits(0), 1);
        CHECK.due("they are for no j, nor of the night", x.wants(0, 0), true);
        x.run(1);
        CHECK.due("one for j 0, in the same night", x.visits(0), 2);
        CHECK.due("that j is made", x.wants(0, 0), false);
        CHECK.due("there is no j 1", x.wants(0, 1), false);
    }

    // ---- promise 15: alert

    private static void promise15Group() {
        ALERT.range(0, 0, 3, INDEX);
    }

    private static void promise15Urgency() {
        ALERT.range(1, 1, 9, ARGUMENT);
    }

    private static void promise15Ra() {
        ALERT.range(2, 0, 359, ARGUMENT);
    }

    private static void promise15Dec() {
        ALERT.range(3, -90, 90, ARGUMENT);
    }

    private static void promise15Length() {
        ALERT.range(4, 1, 6, ARGUMENT);
    }

    private static void promise15Instrument() {
        ALERT.range(5, 0, 2, INDEX);
    }

    private static void promise15Night() {
        ALERT.range(6, 0, 29, INDEX);
    }

    private static void promise15From() {
        ALERT.range(7, 0, 23, INDEX);
    }

    private static void promise15To() {
        ALERT.range(8, 0, 23, INDEX);
    }

    private static void promise15ToNotAheadOfFrom() {
        ALERT.taken(0, 1, 0, 0, 6, 0, 0, 5, 5);
        ALERT.refused(ARGUMENT, 0, 1, 0, 0, 1, 0, 0, 5, 4);
        ALERT.refused(ARGUMENT, 0, 1, 0, 0, 1, 0, 0, 23, 0);
    }

    private static void promise15AtMost10() {
        Cloudseed x = new Cloudseed();
        for (int number = 0; number < 10; number++) {
            CHECK.due("number", x.alert(3, 9, 359, 90, 6, 2, 29, 23, 23), number);
            int last = number;
            CHECK.due("it is there", x.served(last), false);
            CHECK.fails("not the next one", INDEX, () -> x.served(last + 1));
        }
        LAST_ALERT.refused(STATE, 0, 1, 0, 0, 1, 0, 0, 0, 23);
    }

    /** Each number of an alert that says what there is, with one that is not there. */
    private static final int[][] MISSING = {{0, 4}, {5, 3}, {6, 30}, {7, 24}, {8, -1}, {7, -1}, {8, 24}};
    /** Each other argument of an alert out of range; the last one is a to ahead of from. */
    private static final int[][] WRONG = {{1, 0}, {1, 10}, {2, 360}, {3, -91}, {4, 0}, {4, 7}, {7, 23}};

    private static void promise15NoneOfThemIsThrownFirst() {
        for (int[] wrong : WRONG) {
            for (int[] missing : MISSING) {
                int[] both = {0, 1, 0, 0, 1, 0, 0, 22, 22};
                both[wrong[0]] = wrong[1];
                both[missing[0]] = missing[1];
                ALERT.refused(INDEX, both);
            }
        }
        for (int[] missing : MISSING) {
            int[] one = {0, 1, 0, 0, 1, 0, 0, 22, 22};
            one[missing[0]] = missing[1];
            LAST_ALERT.refused(INDEX, one);
        }
    }

    private static void promise15OutOfRangeIsThrownAheadOfTooMany() {
        for (int[] wrong : WRONG) {
            int[] one = {0, 1, 0, 0, 1, 0, 0, 22, 22};
            one[wrong[0]] = wrong[1];
            LAST_ALERT.refused(ARGUMENT, one);
        }
    }

    private static void promise15ARefusedOneHasNoNumber() {
        Cloudseed x = new Cloudseed();
        CHECK.due("first", Skies.alert(x, 0, 1, 1, 0, 0), 0);
        CHECK.fails("order", ARGUMENT, () -> Skies.alert(x, 0, 1, 1, 1, 0));
        CHECK.fails("group", INDEX, () -> Skies.alert(x, 4, 1, 1, 0, 0));
        CHECK.due("second", Skies.alert(x, 0, 1, 1, 0, 0), 1);
    }

    /** Whether an alert of the slot 0 of the night 0 alone is served. */
    private static boolean isServed(Cloudseed x, int ra, int dec) {
        int alert = x.alert(0, 1, ra, dec, 1, 0, 0, 0, 0);
        x.run(1);
        return x.served(alert);
    }

    private static void promise15TheLeastHeightIs30() {
        CHECK.due("30", isServed(Skies.one(), 60, 0), true);
        CHECK.due("29", isServed(Skies.one(), 61, 0), false);
        CHECK.due("30 by declination", isServed(Skies.one(), 0, -60), true);
        CHECK.due("29 by declination", isServed(Skies.one(), 0, -61), false);
    }

    private static void promise15TheMostLightIs100() {
        Cloudseed x = Skies.one();
        x.moon(15);
        CHECK.due("at the full moon", isServed(x, 0, 0), true);
    }

    private static void promise15TheMostSeeingIs50() {
        Cloudseed x = Skies.one();
        x.weather(0, 0, 0, 0, 50);
        CHECK.due("the worst", isServed(x, 0, 0), true);
    }

    private static void promise15OfANightThatIsGone() {
        Cloudseed x = Skies.one();
        x.run(24);
        CHECK.due("told", Skies.alert(x, 0, 9, 1, 0, 23), 0);
        x.run(48);
        CHECK.due("never observed", x.served(0), false);
    }

    // ---- promise 16: wants

    private static void promise16Target() {
        WANTS.range(0, 0, 6, INDEX);
    }

    private static void promise16Night() {
        WANTS.range(1, 0, 29, INDEX);
    }

    private static void promise16FewerGoodVisitsThanItsNumber() {
        int[] numbers = {1, 2, 10};
        for (int number : numbers) {
            Cloudseed x = Skies.allNights();
            x.proposal(0, 0, 0, 0);
            x.target(0, 60, 0, 1, 0, 0, 100, 50, number);
            Skies.run(x, 24 * (number - 1));
            CHECK.due("one less than " + number, x.visits(0), number - 1);
            CHECK.due("is wanted", x.wants(0, 29), true);
            x.run(1);
            CHECK.due("its number", x.visits(0), number);
            CHECK.due("is not", x.wants(0, 29), false);
            x.run(48);
            CHECK.due("none more is made", x.visits(0), number);
        }
    }

    private static void promise16NoneThatIsGoodInThisNight() {
        Cloudseed x = Skies.one();
        x.proposal(0, 0, 0, 0);
        Skies.easy(x, 0, 1, 10);
        x.weather(0, 0, 0, 23, 0);
        Skies.run(x, 48);
        CHECK.due("the night ahead", x.wants(0, 0), true);
        CHECK.due("that night", x.wants(0, 1), false);
        CHECK.due("the night behind", x.wants(0, 2), true);
        CHECK.due("made once in a night", x.visits(0), 1);
    }

    private static void promise16EachNightWithAGoodOne() {
        Cloudseed x = Skies.one();
        x.proposal(0, 0, 0, 0);
        Skies.easy(x, 0, 1, 3);
        x.run(25);
        CHECK.due("the first one", x.wants(0, 0), false);
        CHECK.due("the second one", x.wants(0, 1), false);
        CHECK.due("the third one comes", x.wants(0, 2), true);
    }

    private static void promise16VisitsThatAreNotGoodDoNotCount() {
        Cloudseed x = Skies.one();
        x.proposal(0, 0, 91, 0);
        Skies.easy(x, 0, 1, 1);
        x.run(24);
        CHECK.due("one in each slot", x.data(), 24);
        CHECK.due("in that night", x.wants(0, 0), true);
        CHECK.due("in the next one", x.wants(0, 1), true);
    }

    private static void promise16AVisitThatGoesOnDoesNotCount() {
        Cloudseed x = Skies.one();
        x.proposal(0, 0, 0, 0);
        Skies.easy(x, 0, 2, 1);
        x.run(1);
        CHECK.due("it goes on", x.wants(0, 0), true);
        x.run(1);
        CHECK.due("it is done", x.wants(0, 0), false);
    }

    private static void promise16FirstAndLastNight() {
        Cloudseed x = Skies.allNights();
        x.proposal(0, 0, 0, 0);
        Skies.easy(x, 0, 1, 10);
        x.run(1);
        CHECK.due("the night 0", x.wants(0, 0), false);
        x.series(0, 29, 1, 0);
        Skies.run(x, 719);
        CHECK.due("the night 29", x.wants(0, 29), false);
        CHECK.due("and no other one", x.visits(0), 2);
    }

    // ---- promise 17: chances

    private static void promise17Target() {
        CHANCES.range(0, 0, 6, INDEX);
    }

    private static void promise17Site() {
        CHANCES.range(1, 0, 2, INDEX);
    }

    private static void promise17Night() {
        CHANCES.range(2, 0, 29, INDEX);
    }

    /** An object whose target 0 is as told. */
    private static Cloudseed with(int ra, int dec, int length, int height, int light, int seeing) {
        Cloudseed x = Skies.allNights();
        x.proposal(0, 0, 0, 0);
        x.target(0, ra, dec, length, 0, height, light, seeing, 1);
        return x;
    }

    private static void promise17NoneAndAllSlots() {
        CHECK.due("all", with(60, 0, 1, 30, 100, 50).chances(0, 0, 0), 24);
        CHECK.due("none", with(60, 0, 1, 30, 100, 50).chances(0, 1, 0), 0);
    }

    private static void promise17AllSlotsOfThisNight() {
        for (int length = 1; length <= 6; length++) {
            CHECK.due("length " + length, with(60, 0, length, 0, 100, 50).chances(0, 0, 0), 25 - length);
            Cloudseed x = with(60, 0, length, 0, 100, 50);
            x.weather(0, 0, 0, 24 - length, 0);
            CHECK.due("none behind the slot " + (24 - length), x.chances(0, 0, 0), 0);
            x.weather(0, 0, 24 - length, 24 - length, 10);
            CHECK.due("in the slot " + (24 - length), x.chances(0, 0, 0), 1);
        }
    }

    private static void promise17NotClosedInTheFirstSlot() {
        Cloudseed x = with(60, 0, 2, 0, 100, 50);
        x.weather(0, 0, 23, 23, 0);
        CHECK.due("closed in the second slot of the last one", x.chances(0, 0, 0), 23);
        x.weather(0, 0, 5, 5, 0);
        CHECK.due("closed in the slot 5", x.chances(0, 0, 0), 22);
        x.fault(0, 0, 0, 0);
        CHECK.due("a fault in the slot 0", x.chances(0, 0, 0), 21);
    }

    private static void promise17TheInstrument() {
        for (int instrument = 0; instrument < 3; instrument++) {
            Cloudseed x = new Cloudseed();
            x.proposal(0, 0, 0, 0);
            x.target(0, 60, 0, 1, instrument, 0, 100, 50, 1);
            x.calibrate(0, instrument, 0);
            x.mount(0, 0, (instrument + 1) % 3);
            x.mount(0, 2, instrument);
            x.mount(0, 4, (instrument + 2) % 3);
            int[] want = {0, 0, 24, 24, 0};
            for (int night = 0; night < 5; night++) {
                CHECK.due("instrument " + instrument + ", night " + night, x.chances(0, 0, night), want[night]);
            }
        }
    }

    /** Whether a calibration of that night is told, the target of the night 10 has chances. */
    private static void calibrated(int night, boolean suits) {
        Cloudseed x = new Cloudseed();
        x.proposal(0, 0, 0, 0);
        x.target(0, 60, 0, 1, 0, 0, 100, 50, 1);
        x.calibrate(0, 0, night);
        CHECK.due("calibrated in the night " + night, x.chances(0, 0, 10) > 0, suits);
    }

    private static void promise17ACalibrationAtMost6NightsOld() {
        calibrated(0, false);
        calibrated(3, false);
        calibrated(4, true);
        calibrated(9, true);
    }

    private static void promise17ACalibrationOfThisNightOrAnEarlierOne() {
        calibrated(10, true);
        calibrated(11, false);
        calibrated(29, false);
    }

    private static void promise17TheFirstNightCalibratedForTheNight6() {
        Cloudseed x = Skies.one();
        x.proposal(0, 0, 0, 0);
        x.target(0, 60, 0, 1, 0, 0, 100, 50, 1);
        CHECK.due("0 nights old", x.chances(0, 0, 0), 24);
        CHECK.due("6 nights old", x.chances(0, 0, 6), 24);
        CHECK.due("7 nights old", x.chances(0, 0, 7), 0);
    }

    private static void promise17TheNewestCalibration() {
        Cloudseed x = new Cloudseed();
        x.proposal(0, 0, 0, 0);
        x.target(0, 60, 0, 1, 0, 0, 100, 50, 1);
        x.calibrate(0, 0, 8);
        x.calibrate(0, 0, 1);
        CHECK.due("told ahead of an older one", x.chances(0, 0, 14), 24);
        x.calibrate(0, 0, 20);
        CHECK.due("one of a later night does not hide it", x.chances(0, 0, 14), 24);
        CHECK.due("between them", x.chances(0, 0, 15), 0);
    }

    private static void promise17ACalibrationOfThatSiteAndInstrument() {
        Cloudseed x = new Cloudseed();
        x.proposal(0, 0, 0, 0);
        x.target(0, 60, 0, 1, 1, 0, 100, 50, 1);
        x.mount(0, 0, 1);
        x.calibrate(1, 1, 0);
        x.calibrate(2, 1, 0);
        CHECK.due("of other sites", x.chances(0, 0, 0), 0);
        x.calibrate(0, 0, 0);
        x.calibrate(0, 2, 0);
        CHECK.due("of other instruments", x.chances(0, 0, 0), 0);
        x.calibrate(0, 1, 0);
        CHECK.due("of it", x.chances(0, 0, 0), 24);
    }

    private static void promise17AtLeastTheLeastHeight() {
        CHECK.due("80: the slots 10 to 14", with(60, 0, 1, 80, 100, 50).chances(0, 0, 0), 5);
        CHECK.due("81: the slots 11 to 13", with(60, 0, 1, 81, 100, 50).chances(0, 0, 0), 3);
        CHECK.due("85: the slots 11 to 13", with(60, 0, 1, 85, 100, 50).chances(0, 0, 0), 3);
        CHECK.due("86: the slot 12", with(60, 0, 1, 86, 100, 50).chances(0, 0, 0), 1);
    }

    private static void promise17TheLeastHeightsOfAll() {
        CHECK.due("90", with(60, 0, 1, 90, 100, 50).chances(0, 0, 0), 1);
        CHECK.due("90, but never above 89", with(60, 0, 1, 90, 100, 50).chances(0, 0, 1), 0);
        CHECK.due("0: from the slot 18 on", with(180, 0, 1, 0, 100, 50).chances(0, 0, 0), 6);
        CHECK.due("1: from the slot 19 on", with(180, 0, 1, 1, 100, 50).chances(0, 0, 0), 5);
    }

    private static void promise17HighInAllOfTheseSlots() {
        CHECK.due("two: 10 to 13", with(60, 0, 2, 80, 100, 50).chances(0, 0, 0), 4);
        CHECK.due("five: 10", with(60, 0, 5, 80, 100, 50).chances(0, 0, 0), 1);
        CHECK.due("six", with(60, 0, 6, 80, 100, 50).chances(0, 0, 0), 0);
        CHECK.due("rising, three: 21", with(115, 0, 3, 80, 100, 50).chances(0, 0, 0), 1);
        CHECK.due("rising, four", with(115, 0, 4, 80, 100, 50).chances(0, 0, 0), 0);
        CHECK.due("setting, three: 0", with(0, 0, 3, 80, 100, 50).chances(0, 0, 0), 1);
        CHECK.due("setting, four", with(0, 0, 4, 80, 100, 50).chances(0, 0, 0), 0);
    }

    private static void promise17AtMostTheMostLight() {
        CHECK.due("34 of 34, at the moon", with(60, 0, 1, 0, 34, 50).chances(0, 0, 5), 24);
        CHECK.due("34 of 33", with(60, 0, 1, 0, 33, 50).chances(0, 0, 5), 0);
        CHECK.due("none of none", with(0, 0, 1, 0, 0, 50).chances(0, 0, 0) > 0, true);
        CHECK.due("7 of none", with(12, 0, 1, 0, 0, 50).chances(0, 0, 1), 0);
        CHECK.due("100 of 100", with(180, 0, 1, 0, 100, 50).chances(0, 0, 15) > 0, true);
        CHECK.due("100 of 99", with(180, 0, 1, 0, 99, 50).chances(0, 0, 15), 0);
    }

    /** In the night 5 the moon is at 60, 0, and lighter than the target takes. */
    private static void awayFromTheMoon(int ra, int dec, boolean suits) {
        CHECK.due(ra + ", " + dec, with(ra, dec, 1, 0, 33, 50).chances(0, 0, 5) > 0, suits);
    }

    private static void promise17TheMoon60DegreesAwayOrMore() {
        awayFromTheMoon(1, 0, false);
        awayFromTheMoon(0, 0, true);
        awayFromTheMoon(119, 0, false);
        awayFromTheMoon(120, 0, true);
        awayFromTheMoon(121, 0, true);
    }

    private static void promise17TheMoon60DegreesAwayByDeclination() {
        awayFromTheMoon(60, 59, false);
        awayFromTheMoon(60, 60, true);
        awayFromTheMoon(60, -59, false);
        awayFromTheMoon(60, -60, true);
        awayFromTheMoon(60, -61, true);
    }

    private static void promise17TheGreaterOneOfBothDistances() {
        awayFromTheMoon(1, 59, false);
        awayFromTheMoon(119, -59, false);
        awayFromTheMoon(0, 59, true);
        awayFromTheMoon(1, 60, true);
    }

    private static void promise17TheMoonAround360() {
        // In the night 29 the moon is at 348, 0, and so is the meridian of a site at the longitude 319.
        int[] ra = {289, 288, 47, 48, 168};
        boolean[] suits = {false, true, false, true, true};
        for (int i = 0; i < ra.length; i++) {
            Cloudseed x = with(ra[i], 0, 1, 0, 6, 50);
            x.calibrate(0, 0, 29);
            x.place(0, 0, 319);
            CHECK.due("the light is 7", x.light(29), 7);
            CHECK.due("the place " + ra[i], x.chances(0, 0, 29) > 0, suits[i]);
        }
        Cloudseed y = with(300, 0, 1, 0, 6, 50);
        y.moon(1);
        CHECK.due("60 degrees west of the moon at 0", y.chances(0, 0, 0) > 0, true);
        Cloudseed z = with(301, 0, 1, 0, 6, 50);
        z.moon(1);
        CHECK.due("59 degrees west of the moon at 0", z.chances(0, 0, 0), 0);
    }

    private static void promise17AtMostTheMostSeeing() {
        Cloudseed x = with(60, 0, 1, 0, 100, 20);
        x.weather(0, 0, 5, 5, 20);
        CHECK.due("20 of 20", x.chances(0, 0, 0), 24);
        x.weather(0, 0, 5, 5, 21);
        CHECK.due("21 of 20", x.chances(0, 0, 0), 23);
        Cloudseed y = with(60, 0, 1, 0, 100, 1);
        CHECK.due("10 of 1", y.chances(0, 0, 0), 0);
        y.weather(0, 0, 5, 5, 1);
        CHECK.due("1 of 1", y.chances(0, 0, 0), 1);
        Cloudseed z = with(60, 0, 1, 0, 100, 50);
        z.weather(0, 0, 5, 5, 50);
        CHECK.due("50 of 50", z.chances(0, 0, 0), 24);
    }

    private static void promise17TheSeeingOfTheFirstSlot() {
        Cloudseed x = with(60, 0, 2, 0, 100, 20);
        x.weather(0, 0, 5, 5, 21);
        CHECK.due("only the slot 5 is lost", x.chances(0, 0, 0), 22);
        x.weather(0, 0, 23, 23, 50);
        CHECK.due("not the slot ahead of a worse one", x.chances(0, 0, 0), 22);
    }

    private static void promise17WhateverIsWantedAndRun() {
        Cloudseed x = with(60, 0, 1, 0, 100, 50);
        x.run(48);
        CHECK.due("it wants none", x.wants(0, 0), false);
        CHECK.due("but could begin", x.chances(0, 0, 0), 24);
    }

    private static void promise17IsAQuestion() {
        WANTS.changesNothing(0, 1);
        CHANCES.changesNothing(1, 0, 1);
    }
}
