/** Promises 1 to 10: a new object, sites, sky and weather. */
public final class SkyTest {
    private static final Check CHECK = new Check("SkyTest");

    public static void main(String[] args) {
        newObject();
        place();
        moon();
        weather();
        fault();
        mount();
        mountWhileNightsAreRun();
        calibrate();
        height();
        light();
        seeing();
        CHECK.end();
    }

    private static void newObject() {
        Cloudseed x = new Cloudseed();
        for (int site = 0; site < 3; site++) {
            for (int night = 29; night >= 0; night--) {
                CHECK.due("1: instrument of a new object", x.mount(site, night, 1), 0);
                CHECK.due("1: seeing of a new object", x.seeing(site, night, night % 24), 10);
            }
            for (int instrument = 0; instrument < 3; instrument++) {
                CHECK.due("1: no calibration", x.calibrate(site, instrument, 29 * site / 2), true);
            }
            CHECK.due("1: longitude", x.height(site, 0, 0, 120 * site, 0), 90);
            CHECK.due("1: idle", x.goingOn(site, 0), Cloudseed.IDLE);
        }
        CHECK.due("1: now", x.now(), 0);
        CHECK.due("1: data", x.data(), 0);
        CHECK.due("1: waiting", x.waiting(), 0);
        CHECK.due("1: phase", x.moon(3), 0);
        for (int group = 0; group < 4; group++) {
            CHECK.due("1: share", x.share(group, 1), 25);
            CHECK.due("1: slots", x.slots(group, false) + x.slots(group, true), 0);
        }
        CHECK.fails("1: no targets", Check.INDEX, () -> x.visits(0));
        CHECK.fails("1: no alerts", Check.INDEX, () -> x.served(0));
        CHECK.fails("1: no proposals", Check.INDEX, () -> x.target(0, 0, 0, 1, 0, 0, 0, 1, 1));
    }

    private static void place() {
        Cloudseed x = new Cloudseed();
        x.place(1, -60, 359);
        CHECK.due("2: placed", x.height(1, 0, 0, 359, -60), 90);
        CHECK.due("2: others stay", x.height(0, 0, 0, 0, 0), 90);
        x.place(2, 60, 0);
        CHECK.due("2: placed again", x.height(2, 0, 0, 0, 60), 90);
        CHECK.fails("2: site -1", Check.INDEX, () -> x.place(-1, 0, 0));
        CHECK.fails("2: site 3, ahead of the rest", Check.INDEX, () -> x.place(3, 61, 360));
        CHECK.fails("2: latitude 61", Check.ARGUMENT, () -> x.place(1, 61, 0));
        CHECK.fails("2: latitude -61", Check.ARGUMENT, () -> x.place(1, -61, 0));
        CHECK.fails("2: longitude 360", Check.ARGUMENT, () -> x.place(1, 0, 360));
        CHECK.fails("2: longitude -1", Check.ARGUMENT, () -> x.place(1, 0, -1));
        CHECK.due("2: wrong ones change nothing", x.height(1, 0, 0, 359, -60), 90);
    }

    private static void moon() {
        Cloudseed x = new Cloudseed();
        CHECK.due("3: phase before", x.moon(29), 0);
        CHECK.due("3: light of the age 29", x.light(0), 7);
        CHECK.due("3: light of the age 30, by 30", x.light(1), 0);
        CHECK.fails("3: phase 30", Check.ARGUMENT, () -> x.moon(30));
        CHECK.fails("3: phase -1", Check.ARGUMENT, () -> x.moon(-1));
        CHECK.due("3: wrong ones change nothing", x.moon(0), 29);
    }

    private static void weather() {
        Cloudseed x = new Cloudseed();
        x.weather(1, 3, 5, 7, 50);
        x.weather(1, 3, 7, 23, 0);
        x.weather(1, 3, 8, 8, 1);
        CHECK.due("4: ahead of it", x.seeing(1, 3, 4), 10);
        CHECK.due("4: first slot", x.seeing(1, 3, 5), 50);
        CHECK.due("4: the latest told counts", x.seeing(1, 3, 7), 0);
        CHECK.due("4: one slot alone", x.seeing(1, 3, 8), 1);
        CHECK.due("4: last slot", x.seeing(1, 3, 23), 0);
        CHECK.due("4: another night", x.seeing(1, 4, 0), 10);
        CHECK.due("4: another site", x.seeing(0, 3, 7), 10);
        CHECK.fails("4: site", Check.INDEX, () -> x.weather(3, 0, 0, 1, 99));
        CHECK.fails("4: night", Check.INDEX, () -> x.weather(0, 30, 0, 1, 99));
        CHECK.fails("4: night -1", Check.INDEX, () -> x.weather(0, -1, 0, 1, 9));
        CHECK.fails("4: from", Check.INDEX, () -> x.weather(0, 0, -1, 1, 9));
        CHECK.fails("4: from 24", Check.INDEX, () -> x.weather(0, 0, 24, 1, 9));
        CHECK.fails("4: to", Check.INDEX, () -> x.weather(0, 0, 0, 24, 9));
        CHECK.fails("4: to -1", Check.INDEX, () -> x.weather(0, 0, 0, -1, 9));
        CHECK.fails("4: order", Check.ARGUMENT, () -> x.weather(0, 0, 2, 1, 9));
        CHECK.fails("4: seeing 51", Check.ARGUMENT, () -> x.weather(0, 0, 1, 1, 51));
        CHECK.fails("4: seeing -1", Check.ARGUMENT, () -> x.weather(0, 0, 1, 1, -1));
        CHECK.due("4: wrong ones change nothing", x.seeing(0, 0, 1), 10);
    }

    private static void fault() {
        Cloudseed x = new Cloudseed();
        x.weather(2, 29, 0, 23, 7);
        x.fault(2, 29, 20, 22);
        CHECK.due("5: ahead of it", x.seeing(2, 29, 19), 7);
        CHECK.due("5: first slot", x.seeing(2, 29, 20), 0);
        CHECK.due("5: last slot", x.seeing(2, 29, 22), 0);
        CHECK.due("5: behind it", x.seeing(2, 29, 23), 7);
        x.weather(2, 29, 0, 23, 8);
        CHECK.due("5: weather does not mend it", x.seeing(2, 29, 21), 0);
        CHECK.due("5: another site", x.seeing(1, 29, 20), 10);
        CHECK.fails("5: site", Check.INDEX, () -> x.fault(-1, 0, 2, 1));
        CHECK.fails("5: night", Check.INDEX, () -> x.fault(0, 30, 2, 1));
        CHECK.fails("5: from", Check.INDEX, () -> x.fault(0, 0, 24, 1));
        CHECK.fails("5: to", Check.INDEX, () -> x.fault(0, 0, 2, -1));
        CHECK.fails("5: order", Check.ARGUMENT, () -> x.fault(0, 0, 2, 1));
        CHECK.due("5: wrong ones change nothing", x.seeing(0, 0, 2), 10);
    }

    private static void mount() {
        Cloudseed x = new Cloudseed();
        CHECK.due("6: before", x.mount(0, 10, 1), 0);
        CHECK.due("6: of later nights", x.mount(0, 20, 0), 1);
        CHECK.due("6: told later for an earlier one", x.mount(0, 5, 2), 0);
        CHECK.due("6: up to the next", x.mount(0, 9, 2), 2);
        CHECK.due("6: not behind it", x.mount(0, 10, 1), 1);
        CHECK.due("6: up to the last one", x.mount(0, 19, 1), 1);
        CHECK.due("6: the same one ends it too", x.mount(0, 29, 0), 0);
        CHECK.due("6: another site", x.mount(1, 29, 0), 0);
        CHECK.fails("6: site", Check.INDEX, () -> x.mount(3, 0, 0));
        CHECK.fails("6: night", Check.INDEX, () -> x.mount(0, 30, 0));
        CHECK.fails("6: instrument", Check.INDEX, () -> x.mount(0, 0, 3));
        CHECK.fails("6: instrument -1", Check.INDEX, () -> x.mount(0, 0, -1));
    }

    private static void mountWhileNightsAreRun() {
        Cloudseed x = new Cloudseed();
        CHECK.due("6: ahead of its first slot", x.mount(0, 0, 2), 0);
        x.run(1);
        CHECK.fails("6: a slot was run", Check.STATE, () -> x.mount(0, 0, 1));
        CHECK.fails("6: no instrument, ahead of the night", Check.INDEX, () -> x.mount(0, 0, 3));
        CHECK.due("6: next night", x.mount(0, 1, 1), 2);
        x.run(23);
        CHECK.fails("6: the night is gone", Check.STATE, () -> x.mount(1, 0, 1));
        CHECK.due("6: the night comes now", x.mount(0, 1, 0), 1);
        CHECK.due("6: what was thrown changes nothing", x.mount(1, 1, 0), 0);
    }

    private static void calibrate() {
        Cloudseed x = new Cloudseed();
        CHECK.due("7: new", x.calibrate(0, 2, 29), true);
        CHECK.due("7: told already", x.calibrate(0, 2, 29), false);
        CHECK.due("7: another instrument", x.calibrate(0, 1, 29), true);
        CHECK.due("7: another site", x.calibrate(1, 2, 29), true);
        CHECK.due("7: another night", x.calibrate(0, 2, 28), true);
        CHECK.fails("7: site", Check.INDEX, () -> x.calibrate(3, 0, 0));
        CHECK.fails("7: instrument", Check.INDEX, () -> x.calibrate(0, 3, 0));
        CHECK.fails("7: night", Check.INDEX, () -> x.calibrate(0, 0, 30));
        CHECK.fails("7: night -1", Check.INDEX, () -> x.calibrate(0, 1, -1));
        CHECK.due("7: wrong ones change nothing", x.calibrate(0, 1, 0), true);
    }

    private static void height() {
        Cloudseed x = new Cloudseed();
        CHECK.due("8: half of the lesser one, rounded down", x.height(0, 0, 0, 7, 3), 82);
        CHECK.due("8: the greater one may be the declination", x.height(0, 0, 0, 3, -7), 82);
        CHECK.due("8: the night moves the meridian", x.height(0, 20, 0, 20, 0), 90);
        CHECK.due("8: five for a slot", x.height(0, 0, 23, 115, 0), 90);
        CHECK.due("8: around 360", x.height(2, 29, 23, 24, 0), 90);
        CHECK.due("8: the lesser way", x.height(0, 0, 0, 350, 0), 80);
        CHECK.due("8: opposite", x.height(0, 0, 0, 180, 0), -90);
        x.place(0, 60, 0);
        CHECK.due("8: below -90", x.height(0, 0, 0, 180, -90), -165);
        CHECK.fails("8: site", Check.INDEX, () -> x.height(3, 0, 0, 360, 0));
        CHECK.fails("8: night", Check.INDEX, () -> x.height(0, 30, 0, 360, 0));
        CHECK.fails("8: slot", Check.INDEX, () -> x.height(0, 0, 24, 360, 0));
        CHECK.fails("8: slot -1", Check.INDEX, () -> x.height(0, 0, -1, 0, 0));
        CHECK.fails("8: ra 360", Check.ARGUMENT, () -> x.height(0, 0, 0, 360, 0));
        CHECK.fails("8: ra -1", Check.ARGUMENT, () -> x.height(0, 0, 0, -1, 0));
        CHECK.fails("8: dec 91", Check.ARGUMENT, () -> x.height(0, 0, 0, 0, 91));
        CHECK.fails("8: dec -91", Check.ARGUMENT, () -> x.height(0, 0, 0, 0, -91));
    }

    private static void light() {
        Cloudseed x = new Cloudseed();
        CHECK.due("9: new moon", x.light(0), 0);
        CHECK.due("9: 93.3 rounded down", x.light(1), 7);
        CHECK.due("9: 86.6 rounded down", x.light(2), 14);
        CHECK.due("9: full moon", x.light(15), 100);
        CHECK.due("9: behind it", x.light(16), 94);
        CHECK.fails("9: night 30", Check.INDEX, () -> x.light(30));
        CHECK.fails("9: night -1", Check.INDEX, () -> x.light(-1));
    }

    private static void seeing() {
        Cloudseed x = new Cloudseed();
        x.weather(0, 0, 23, 23, 50);
        CHECK.due("10: usual", x.seeing(0, 0, 0), 10);
        CHECK.due("10: told", x.seeing(0, 0, 23), 50);
        CHECK.fails("10: site", Check.INDEX, () -> x.seeing(3, 0, 0));
        CHECK.fails("10: night", Check.INDEX, () -> x.seeing(0, -1, 0));
        CHECK.fails("10: slot", Check.INDEX, () -> x.seeing(0, 0, 24));
    }
}
