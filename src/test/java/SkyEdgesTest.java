import java.util.ArrayList;
import java.util.List;

/** Boundary cases of the constants and of promises 1 to 10: a test for each sentence that names one. */
public final class SkyEdgesTest {
    private static final Check CHECK = new Check("SkyEdgesTest");
    private static final Class<? extends RuntimeException> INDEX = Check.INDEX;
    private static final Class<? extends RuntimeException> ARGUMENT = Check.ARGUMENT;
    private static final Class<? extends RuntimeException> STATE = Check.STATE;

    private static final Asked PLACE = new Asked(CHECK, Skies::busy, (x, a) -> x.place(a[0], a[1], a[2]), 0, 0, 0);
    private static final Asked MOON = new Asked(CHECK, Skies::busy, (x, a) -> x.moon(a[0]), 0);
    private static final Asked WEATHER = new Asked(CHECK, Skies::busy,
            (x, a) -> x.weather(a[0], a[1], a[2], a[3], a[4]), 0, 1, 0, 23, 20);
    private static final Asked FAULT = new Asked(CHECK, Skies::busy,
            (x, a) -> x.fault(a[0], a[1], a[2], a[3]), 0, 1, 0, 23);
    private static final Asked MOUNT = new Asked(CHECK, Skies::busy, (x, a) -> x.mount(a[0], a[1], a[2]), 0, 2, 1);
    private static final Asked CALIBRATE = new Asked(CHECK, Skies::busy,
            (x, a) -> x.calibrate(a[0], a[1], a[2]), 0, 1, 1);
    private static final Asked HEIGHT = new Asked(CHECK, Skies::busy,
            (x, a) -> x.height(a[0], a[1], a[2], a[3], a[4]), 0, 0, 0, 0, 0);
    private static final Asked LIGHT = new Asked(CHECK, Skies::busy, (x, a) -> x.light(a[0]), 0);
    private static final Asked SEEING = new Asked(CHECK, Skies::busy, (x, a) -> x.seeing(a[0], a[1], a[2]), 0, 0, 0);

    public static void main(String[] args) {
        CHECK.runEach(SkyEdgesTest.class);
    }

    // ---- the constants

    private static void constantNone() {
        CHECK.due("NONE", Cloudseed.NONE, -1);
        CHECK.due("the number of no visit", new Cloudseed().goingOn(0, 1), Cloudseed.NONE);
    }

    private static void constantIdle() {
        CHECK.due("IDLE", Cloudseed.IDLE, 0);
        CHECK.due("no visit", new Cloudseed().goingOn(2, 0), Cloudseed.IDLE);
    }

    private static void constantTarget() {
        Cloudseed x = Skies.one();
        x.proposal(0, 0, 0, 0);
        Skies.easy(x, 0, 2, 1);
        x.run(1);
        CHECK.due("TARGET", Cloudseed.TARGET, 1);
        CHECK.due("a visit of a target", x.goingOn(0, 0), Cloudseed.TARGET);
        x.run(1);
        CHECK.due("data of a target", x.datum(0, 0), Cloudseed.TARGET);
    }

    private static void constantAlert() {
        Cloudseed x = Skies.one();
        Skies.alert(x, 0, 1, 2, 0, 23);
        x.run(1);
        CHECK.due("ALERT", Cloudseed.ALERT, 2);
        CHECK.due("a visit of an alert", x.goingOn(0, 0), Cloudseed.ALERT);
        x.run(1);
        CHECK.due("data of an alert", x.datum(0, 0), Cloudseed.ALERT);
    }

    // ---- promise 1: a new object

    private static void promise1ThreeSites() {
        CHECK.due("the site 2", new Cloudseed().goingOn(2, 0), Cloudseed.IDLE);
        CHECK.fails("no site 3", INDEX, () -> new Cloudseed().goingOn(3, 0));
    }

    private static void promise1InstrumentZeroInAllNights() {
        Cloudseed x = new Cloudseed();
        for (int i = 0; i < 90; i++) {
            CHECK.due("instrument", x.mount(i % 3, 29 - i / 3, 2), 0);
        }
    }

    private static void promise1NoCalibrations() {
        Cloudseed x = new Cloudseed();
        for (int i = 0; i < 270; i++) {
            CHECK.due("not told already", x.calibrate(i % 3, i / 3 % 3, i / 9), true);
        }
    }

    private static void promise1LatitudeIsZero() {
        Cloudseed x = new Cloudseed();
        for (int site = 0; site < 3; site++) {
            CHECK.due("at its zenith", x.height(site, 0, 0, 120 * site, 0), 90);
            CHECK.due("a degree north of it", x.height(site, 0, 0, 120 * site, 1), 89);
            CHECK.due("a degree south of it", x.height(site, 0, 0, 120 * site, -1), 89);
        }
    }

    private static void promise1LongitudeIs120TimesTheNumber() {
        Cloudseed x = new Cloudseed();
        for (int site = 0; site < 3; site++) {
            CHECK.due("a degree west of it", x.height(site, 0, 0, (120 * site + 359) % 360, 0), 89);
            CHECK.due("a degree east of it", x.height(site, 0, 0, 120 * site + 1, 0), 89);
        }
    }

    private static void promise1PhaseIsZero() {
        CHECK.due("light of the age 0", new Cloudseed().light(0), 0);
        CHECK.due("phase", new Cloudseed().moon(1), 0);
    }

    private static void promise1SeeingIs10WhereNothingWasTold() {
        for (int site = 0; site < 3; site++) {
            for (int night = 0; night < 30; night++) {
                Cloudseed x = new Cloudseed();
                for (int slot = 0; slot < 24; slot++) {
                    CHECK.due("seeing", x.seeing(site, night, slot), 10);
                }
            }
        }
    }

    private static void promise1SharesAre25() {
        Cloudseed x = new Cloudseed();
        for (int group = 0; group < 4; group++) {
            CHECK.due("share", x.share(group, 0), 25);
        }
    }

    private static void promise1NowIsTheFirstSlot() {
        CHECK.due("now", new Cloudseed().now(), 0);
    }

    private static void promise1NothingIsThere() {
        Cloudseed x = new Cloudseed();
        CHECK.due("waiting", x.waiting(), 0);
        CHECK.due("data", x.data(), 0);
        for (int i = 0; i < 4; i++) {
            CHECK.due("slots", x.slots(i, false) + x.slots(i, true), 0);
        }
        for (int i = 0; i < 3; i++) {
            CHECK.idle("nothing goes on", x, i);
            CHECK.due("lost", x.lost(i, false) + x.lost(i, true), 0);
        }
        CHECK.fails("no proposal", INDEX, () -> x.target(0, 0, 0, 1, 0, 0, 0, 1, 1));
        CHECK.fails("no target", INDEX, () -> x.visits(0));
        CHECK.fails("no alert", INDEX, () -> x.served(0));
        CHECK.fails("no datum", INDEX, () -> x.datum(0, 0));
        CHECK.fails("no night was begun", STATE, () -> x.replay(0));
    }

    // ---- promise 2: place

    private static void promise2Site() {
        PLACE.range(0, 0, 2, INDEX);
    }

    private static void promise2Latitude() {
        PLACE.range(1, -60, 60, ARGUMENT);
    }

    private static void promise2Longitude() {
        PLACE.range(2, 0, 359, ARGUMENT);
    }

    private static void promise2NoSiteIsThrownFirst() {
        PLACE.refused(INDEX, 3, 61, 0);
        PLACE.refused(INDEX, 3, 0, 360);
        PLACE.refused(INDEX, -1, -61, -1);
    }

    private static void promise2TheUtmostPlaces() {
        Cloudseed x = new Cloudseed();
        x.place(0, -60, 0);
        x.place(1, 60, 359);
        CHECK.due("latitude -60", x.height(0, 0, 0, 0, -60), 90);
        CHECK.due("longitude 0", x.height(0, 0, 0, 1, -60), 89);
        CHECK.due("latitude 60", x.height(1, 0, 0, 359, 60), 90);
        CHECK.due("longitude 359", x.height(1, 0, 0, 358, 60), 89);
        CHECK.due("another site stays", x.height(2, 0, 0, 240, 0), 90);
    }

    private static void promise2PlacedAgain() {
        Cloudseed x = new Cloudseed();
        x.place(0, 60, 359);
        x.place(0, 0, 0);
        CHECK.due("the latest place", x.height(0, 0, 0, 0, 0), 90);
    }

    private static void promise2BehindAllSlots() {
        Cloudseed x = new Cloudseed();
        Skies.run(x, 720);
        x.place(2, 1, 2);
        CHECK.due("placed", x.height(2, 0, 0, 2, 1), 90);
    }

    // ---- promise 3: moon

    private static void promise3Phase() {
        MOON.range(0, 0, 29, ARGUMENT);
    }

    private static void promise3PhaseBefore() {
        Cloudseed x = new Cloudseed();
        CHECK.due("at first", x.moon(29), 0);
        CHECK.due("the greatest", x.moon(0), 29);
        CHECK.due("the least", x.moon(0), 0);
    }

    private static void promise3AgeBy30() {
        Cloudseed x = new Cloudseed();
        x.moon(1);
        CHECK.due("the age 29", x.light(28), 7);
        CHECK.due("the age 30, that is 0", x.light(29), 0);
        x.moon(29);
        CHECK.due("the age 29 at first", x.light(0), 7);
        CHECK.due("the age 0 behind it", x.light(1), 0);
        CHECK.due("the age 58, that is 28", x.light(29), 14);
    }

    // ---- promise 4: weather

    private static void promise4Site() {
        WEATHER.range(0, 0, 2, INDEX);
    }

    private static void promise4Night() {
        WEATHER.range(1, 0, 29, INDEX);
    }

    private static void promise4From() {
        WEATHER.range(2, 0, 23, INDEX);
    }

    private static void promise4To() {
        WEATHER.range(3, 0, 23, INDEX);
    }

    private static void promise4ToNotAheadOfFrom() {
        WEATHER.taken(0, 1, 5, 5, 20);
        WEATHER.refused(ARGUMENT, 0, 1, 5, 4, 20);
        WEATHER.refused(ARGUMENT, 0, 1, 23, 0, 20);
    }

    private static void promise4Seeing() {
        WEATHER.range(4, 0, 50, ARGUMENT);
    }

    private static void promise4NoSiteNightOrSlotIsThrownFirst() {
        WEATHER.refused(INDEX, 3, 1, 5, 4, 20);
        WEATHER.refused(INDEX, 0, 30, 5, 4, 20);
        WEATHER.refused(INDEX, 0, 1, 24, 4, 20);
        WEATHER.refused(INDEX, 0, 1, 5, -1, 20);
        WEATHER.refused(INDEX, -1, 1, 0, 23, 51);
        WEATHER.refused(INDEX, 0, -1, 0, 23, -1);
        WEATHER.refused(INDEX, 0, 1, -1, 23, 51);
        WEATHER.refused(INDEX, 0, 1, 0, 24, -1);
    }

    private static void promise4FromTheFirstSlotToTheLastOne() {
        Cloudseed x = new Cloudseed();
        x.weather(1, 3, 5, 7, 20);
        int[] want = {10, 20, 20, 20, 10};
        for (int i = 0; i < 5; i++) {
            CHECK.due("slot " + (4 + i), x.seeing(1, 3, 4 + i), want[i]);
        }
        CHECK.due("the night ahead", x.seeing(1, 2, 5), 10);
        CHECK.due("the night behind", x.seeing(1, 4, 5), 10);
        CHECK.due("the site ahead", x.seeing(0, 3, 5), 10);
        CHECK.due("the site behind", x.seeing(2, 3, 5), 10);
    }

    private static void promise4OneSlot() {
        Cloudseed x = new Cloudseed();
        x.weather(0, 0, 5, 5, 20);
        CHECK.due("ahead", x.seeing(0, 0, 4), 10);
        CHECK.due("it", x.seeing(0, 0, 5), 20);
        CHECK.due("behind", x.seeing(0, 0, 6), 10);
    }

    private static void promise4AWholeNightAlone() {
        Cloudseed x = new Cloudseed();
        x.weather(0, 28, 0, 23, 20);
        CHECK.due("the last slot of the night ahead", x.seeing(0, 27, 23), 10);
        CHECK.due("the first slot", x.seeing(0, 28, 0), 20);
        CHECK.due("the last slot", x.seeing(0, 28, 23), 20);
        CHECK.due("the first slot of the night behind", x.seeing(0, 29, 0), 10);
        x.weather(2, 29, 0, 23, 30);
        CHECK.due("the last slot of all", x.seeing(2, 29, 23), 30);
    }

    private static void promise4TheLatestToldCounts() {
        Cloudseed x = new Cloudseed();
        x.weather(0, 0, 0, 10, 20);
        x.weather(0, 0, 5, 23, 30);
        CHECK.due("told once", x.seeing(0, 0, 4), 20);
        CHECK.due("told again", x.seeing(0, 0, 5), 30);
        CHECK.due("up to there", x.seeing(0, 0, 10), 30);
        x.weather(0, 0, 5, 5, 0);
        CHECK.due("closed", x.seeing(0, 0, 5), 0);
        x.weather(0, 0, 5, 5, 40);
        CHECK.due("open again", x.seeing(0, 0, 5), 40);
        x.weather(0, 0, 5, 5, 1);
        CHECK.due("neither the worst nor the best", x.seeing(0, 0, 5), 1);
    }

    private static void promise4OfASlotThatIsGone() {
        Cloudseed x = new Cloudseed();
        Skies.run(x, 720);
        x.weather(0, 0, 0, 0, 50);
        CHECK.due("told all the same", x.seeing(0, 0, 0), 50);
        CHECK.due("but it was not closed", x.lost(0, false), 720);
    }

    // ---- promise 5: fault

    private static void promise5Site() {
        FAULT.range(0, 0, 2, INDEX);
    }

    private static void promise5Night() {
        FAULT.range(1, 0, 29, INDEX);
    }

    private static void promise5From() {
        FAULT.range(2, 0, 23, INDEX);
    }

    private static void promise5To() {
        FAULT.range(3, 0, 23, INDEX);
    }

    private static void promise5ToNotAheadOfFrom() {
        FAULT.taken(0, 1, 5, 5);
        FAULT.refused(ARGUMENT, 0, 1, 5, 4);
        FAULT.refused(ARGUMENT, 0, 1, 23, 0);
    }

    private static void promise5NoSiteNightOrSlotIsThrownFirst() {
        FAULT.refused(INDEX, 3, 1, 5, 4);
        FAULT.refused(INDEX, 0, 30, 5, 4);
        FAULT.refused(INDEX, 0, 1, 24, 4);
        FAULT.refused(INDEX, 0, 1, 5, -1);
    }

    private static void promise5FromTheFirstSlotToTheLastOne() {
        Cloudseed x = new Cloudseed();
        x.fault(1, 3, 5, 7);
        int[] want = {10, 0, 0, 0, 10};
        for (int i = 0; i < 5; i++) {
            CHECK.due("slot " + (4 + i), x.seeing(1, 3, 4 + i), want[i]);
        }
        CHECK.due("the night ahead", x.seeing(1, 2, 5), 10);
        CHECK.due("the night behind", x.seeing(1, 4, 5), 10);
        CHECK.due("the site ahead", x.seeing(0, 3, 5), 10);
        CHECK.due("the site behind", x.seeing(2, 3, 5), 10);
    }

    private static void promise5AWholeNightAlone() {
        Cloudseed x = new Cloudseed();
        x.fault(2, 28, 0, 23);
        CHECK.due("the last slot of the night ahead", x.seeing(2, 27, 23), 10);
        CHECK.due("the first slot", x.seeing(2, 28, 0), 0);
        CHECK.due("the last slot", x.seeing(2, 28, 23), 0);
        CHECK.due("the first slot of the night behind", x.seeing(2, 29, 0), 10);
        x.fault(2, 29, 23, 23);
        CHECK.due("the last slot of all", x.seeing(2, 29, 23), 0);
    }

    private static void promise5ClosesWhateverWeatherIsTold() {
        Cloudseed x = new Cloudseed();
        x.weather(0, 0, 0, 23, 1);
        x.fault(0, 0, 5, 5);
        CHECK.due("weather told earlier", x.seeing(0, 0, 5), 0);
        x.weather(0, 0, 0, 23, 50);
        CHECK.due("weather told later", x.seeing(0, 0, 5), 0);
        CHECK.due("beside it", x.seeing(0, 0, 6), 50);
    }

    private static void promise5ClosesASiteThatIsRun() {
        Cloudseed x = new Cloudseed();
        x.fault(1, 0, 1, 1);
        x.run(3);
        CHECK.due("one slot", x.lost(1, true), 1);
        CHECK.due("not the others", x.lost(1, false), 2);
    }

    // ---- promise 6: mount

    private static void promise6Site() {
        MOUNT.range(0, 0, 2, INDEX);
    }

    private static void promise6Night() {
        Asked mount = new Asked(CHECK, Cloudseed::new, (x, a) -> x.mount(a[0], a[1], a[2]), 0, 0, 1);
        mount.range(1, 0, 29, INDEX);
    }

    private static void promise6Instrument() {
        MOUNT.range(2, 0, 2, INDEX);
    }

    private static void promise6TheNightIsGoneOrASlotOfItWasRun() {
        for (int slots = 23; slots <= 25; slots++) {
            int run = slots;
            Asked mount = new Asked(CHECK, () -> {
                Cloudseed x = Skies.one();
                x.run(run);
                return x;
            }, (x, a) -> x.mount(a[0], a[1], a[2]));
            mount.refused(STATE, 0, 0, 1);
            if (slots < 25) {
                mount.taken(0, 1, 1);
            } else {
                mount.refused(STATE, 0, 1, 1);
            }
            mount.taken(0, 2, 1);
        }
    }

    private static void promise6TheFirstNightBeforeItIsRun() {
        Cloudseed x = new Cloudseed();
        CHECK.due("no slot was run", x.mount(0, 0, 1), 0);
        x.run(1);
        CHECK.fails("one was", STATE, () -> x.mount(0, 0, 2));
        CHECK.due("it stays", x.mount(0, 1, 0), 1);
    }

    private static void promise6AllNightsAreGone() {
        Cloudseed x = new Cloudseed();
        Skies.run(x, 696);
        CHECK.due("the night 29 comes", x.mount(2, 29, 1), 0);
        x.run(24);
        CHECK.fails("it is gone", STATE, () -> x.mount(2, 29, 2));
    }

    private static void promise6NoSiteNightOrInstrumentIsThrownFirst() {
        MOUNT.refused(INDEX, 3, 0, 1);
        MOUNT.refused(INDEX, -1, 1, 1);
        MOUNT.refused(INDEX, 0, -1, 1);
        MOUNT.refused(INDEX, 0, 0, 3);
        MOUNT.refused(INDEX, 0, 1, -1);
        MOUNT.refused(STATE, 0, 1, 2);
    }

    /** The instruments of all nights of the site 0. */
    private static List<Integer> mounted(Cloudseed x) {
        List<Integer> all = new ArrayList<>();
        for (int night = 29; night >= 0; night--) {
            all.add(0, x.mount(0, night, 0));
        }
        return all;
    }

    private static void promise6ForANightAndAllLaterOnes() {
        Cloudseed x = new Cloudseed();
        x.mount(0, 10, 2);
        List<Integer> all = mounted(x);
        CHECK.due("the night ahead", all.get(9), 0);
        CHECK.due("the night", all.get(10), 2);
        CHECK.due("the last night", all.get(29), 2);
        CHECK.due("another site", x.mount(1, 10, 0), 0);
    }

    private static void promise6UpToTheNextOneToldEarlier() {
        Cloudseed x = new Cloudseed();
        x.mount(0, 20, 1);
        x.mount(0, 10, 2);
        List<Integer> all = mounted(x);
        CHECK.due("ahead", all.get(9), 0);
        CHECK.due("from it", all.get(10), 2);
        CHECK.due("up to the next one", all.get(19), 2);
        CHECK.due("not it", all.get(20), 1);
        CHECK.due("nor behind it", all.get(29), 1);
    }

    private static void promise6UpToTheNextOneToldLater() {
        Cloudseed x = new Cloudseed();
        x.mount(0, 10, 2);
        x.mount(0, 20, 1);
        List<Integer> all = mounted(x);
        CHECK.due("up to the next one", all.get(19), 2);
        CHECK.due("not it", all.get(20), 1);
    }

    private static void promise6UpToTheInstrumentZeroToldForANight() {
        Cloudseed x = new Cloudseed();
        x.mount(0, 20, 0);
        x.mount(0, 10, 2);
        List<Integer> all = mounted(x);
        CHECK.due("up to it", all.get(19), 2);
        CHECK.due("not it", all.get(20), 0);
    }

    private static void promise6NightsOneBehindTheOther() {
        Cloudseed x = new Cloudseed();
        x.mount(0, 11, 1);
        x.mount(0, 10, 2);
        x.mount(0, 29, 2);
        x.mount(0, 28, 0);
        List<Integer> all = mounted(x);
        CHECK.due("just the one night", all.get(10), 2);
        CHECK.due("the next one", all.get(11), 1);
        CHECK.due("up to the 27th", all.get(27), 1);
        CHECK.due("the last but one", all.get(28), 0);
        CHECK.due("the last one", all.get(29), 2);
    }

    private static void promise6TheSameNightAgain() {
        Cloudseed x = new Cloudseed();
        CHECK.due("before", x.mount(0, 10, 2), 0);
        CHECK.due("before again", x.mount(0, 10, 1), 2);
        List<Integer> all = mounted(x);
        CHECK.due("the latest", all.get(10), 1);
        CHECK.due("for later ones too", all.get(29), 1);
    }

    // ---- promise 7: calibrate

    private static void promise7Site() {
        CALIBRATE.range(0, 0, 2, INDEX);
    }

    private static void promise7Instrument() {
        CALIBRATE.range(1, 0, 2, INDEX);
    }

    private static void promise7Night() {
        CALIBRATE.range(2, 0, 29, INDEX);
    }

    private static void promise7NotToldAlready() {
        Cloudseed x = new Cloudseed();
        int[][] told = {{0, 0, 0}, {2, 2, 29}, {1, 0, 0}, {0, 1, 0}, {0, 0, 1}, {1, 2, 29}, {2, 1, 29}, {2, 2, 28}};
        for (int[] t : told) {
            CHECK.due("told once", x.calibrate(t[0], t[1], t[2]), true);
            CHECK.due("told twice", x.calibrate(t[0], t[1], t[2]), false);
        }
    }

    private static void promise7NightsThatAreGoneAndToCome() {
        Cloudseed x = new Cloudseed();
        Skies.run(x, 30);
        CHECK.due("gone", x.calibrate(0, 0, 0), true);
        CHECK.due("to come", x.calibrate(0, 0, 2), true);
        CHECK.due("told already", x.calibrate(0, 0, 0), false);
    }

    // ---- promise 8: height

    private static void promise8Site() {
        HEIGHT.range(0, 0, 2, INDEX);
    }

    private static void promise8Night() {
        HEIGHT.range(1, 0, 29, INDEX);
    }

    private static void promise8Slot() {
        HEIGHT.range(2, 0, 23, INDEX);
    }

    private static void promise8Ra() {
        HEIGHT.range(3, 0, 359, ARGUMENT);
    }

    private static void promise8Dec() {
        HEIGHT.range(4, -90, 90, ARGUMENT);
    }

    private static void promise8NoSiteNightOrSlotIsThrownFirst() {
        HEIGHT.refused(INDEX, 3, 0, 0, 360, 0);
        HEIGHT.refused(INDEX, 0, 30, 0, -1, 0);
        HEIGHT.refused(INDEX, 0, 0, 24, 0, 91);
        HEIGHT.refused(INDEX, 0, 0, -1, 0, -91);
    }

    private static void promise8MeridianAddsLongitudeNightAndSlots() {
        Cloudseed x = new Cloudseed();
        x.place(0, 0, 100);
        CHECK.due("the longitude", x.height(0, 0, 0, 100, 0), 90);
        CHECK.due("a night", x.height(0, 1, 0, 101, 0), 90);
        CHECK.due("a slot", x.height(0, 0, 1, 105, 0), 90);
        CHECK.due("the last night and slot", x.height(0, 29, 23, 244, 0), 90);
    }

    private static void promise8MeridianBy360() {
        Cloudseed x = new Cloudseed();
        x.place(0, 0, 359);
        CHECK.due("359", x.height(0, 0, 0, 359, 0), 90);
        CHECK.due("360, that is 0", x.height(0, 1, 0, 0, 0), 90);
        CHECK.due("361, that is 1", x.height(0, 2, 0, 1, 0), 90);
        CHECK.due("503, that is 143", x.height(0, 29, 23, 143, 0), 90);
    }

    private static void promise8AngleIsTheLesserWay() {
        Cloudseed x = new Cloudseed();
        CHECK.due("none", x.height(0, 0, 0, 0, 0), 90);
        CHECK.due("one", x.height(0, 0, 0, 1, 0), 89);
        CHECK.due("179", x.height(0, 0, 0, 179, 0), -89);
        CHECK.due("180", x.height(0, 0, 0, 180, 0), -90);
        CHECK.due("181, that is 179", x.height(0, 0, 0, 181, 0), -89);
        CHECK.due("359, that is 1", x.height(0, 0, 0, 359, 0), 89);
        x.place(0, 0, 359);
        CHECK.due("-359, that is 1", x.height(0, 0, 0, 0, 0), 89);
        CHECK.due("-181, that is 179", x.height(0, 0, 0, 178, 0), -89);
        CHECK.due("-180", x.height(0, 0, 0, 179, 0), -90);
        CHECK.due("-179", x.height(0, 0, 0, 180, 0), -89);
    }

    private static void promise8HalfTheLesserOneRoundedDown() {
        Cloudseed x = new Cloudseed();
        int[] half = {0, 0, 1, 1, 2, 2, 3};
        for (int lesser = 0; lesser < half.length; lesser++) {
            CHECK.due("declination " + lesser, x.height(0, 0, 0, 10, lesser), 80 - half[lesser]);
            CHECK.due("angle " + lesser, x.height(0, 0, 0, lesser, 10), 80 - half[lesser]);
        }
    }

    private static void promise8TheGreaterOneOfBoth() {
        Cloudseed x = new Cloudseed();
        CHECK.due("the angle by one", x.height(0, 0, 0, 21, 20), 59);
        CHECK.due("both", x.height(0, 0, 0, 20, 20), 60);
        CHECK.due("the declination by one", x.height(0, 0, 0, 20, 21), 59);
    }

    private static void promise8TheSizeOfTheDeclinationLessTheLatitude() {
        Cloudseed x = new Cloudseed();
        x.place(0, 60, 0);
        x.place(1, -60, 0);
        CHECK.due("above", x.height(0, 0, 0, 0, 90), 60);
        CHECK.due("the same", x.height(0, 0, 0, 0, 60), 90);
        CHECK.due("below", x.height(0, 0, 0, 0, -90), -60);
        CHECK.due("below, in the south", x.height(1, 0, 0, 0, -90), 60);
        CHECK.due("above, in the south", x.height(1, 0, 0, 0, 90), -60);
    }

    private static void promise8PerhapsBelowMinus90() {
        Cloudseed x = new Cloudseed();
        CHECK.due("-90", x.height(0, 0, 0, 180, 0), -90);
        CHECK.due("the half of 1 is none", x.height(0, 0, 0, 180, 1), -90);
        CHECK.due("-91", x.height(0, 0, 0, 180, 2), -91);
        x.place(0, 60, 0);
        CHECK.due("the least", x.height(0, 0, 0, 180, -90), -165);
    }

    // ---- promise 9: light

    private static void promise9Night() {
        LIGHT.range(0, 0, 29, INDEX);
    }

    private static void promise9LightByAge() {
        int[] want = {0, 7, 14, 20, 27, 34, 40, 47, 54, 60, 67, 74, 80, 87, 94, 100,
            94, 87, 80, 74, 67, 60, 54, 47, 40, 34, 27, 20, 14, 7};
        Cloudseed x = new Cloudseed();
        for (int night = 0; night < 30; night++) {
            CHECK.due("night " + night, x.light(night), want[night]);
        }
        x.moon(17);
        for (int night = 0; night < 30; night++) {
            CHECK.due("night " + night + " and 17", x.light(night), want[(night + 17) % 30]);
        }
    }

    private static void promise9NoneAndTheMost() {
        Cloudseed x = new Cloudseed();
        CHECK.due("new moon", x.light(0), 0);
        CHECK.due("ahead of the full moon", x.light(14), 94);
        CHECK.due("full moon", x.light(15), 100);
        CHECK.due("behind the full moon", x.light(16), 94);
    }

    // ---- promise 10: seeing

    private static void promise10Site() {
        SEEING.range(0, 0, 2, INDEX);
    }

    private static void promise10Night() {
        SEEING.range(1, 0, 29, INDEX);
    }

    private static void promise10Slot() {
        SEEING.range(2, 0, 23, INDEX);
    }

    private static void promise10LeastMostAndClosed() {
        Cloudseed x = new Cloudseed();
        x.weather(0, 0, 0, 0, 1);
        x.weather(1, 29, 23, 23, 50);
        x.weather(2, 0, 23, 23, 0);
        CHECK.due("the least", x.seeing(0, 0, 0), 1);
        CHECK.due("the most", x.seeing(1, 29, 23), 50);
        CHECK.due("closed by weather", x.seeing(2, 0, 23), 0);
        x.fault(0, 0, 0, 0);
        CHECK.due("closed by a fault", x.seeing(0, 0, 0), 0);
    }
}
