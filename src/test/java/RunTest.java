/** Promises 18 to 25: how slots are run, and what is told of them. */
public final class RunTest {
    private static final Check CHECK = new Check("RunTest");

    public static void main(String[] args) {
        runAndNow();
        goingOn();
        closedSiteBreaksOff();
        handedOver();
        longestWaitsFirst();
        waitingNeedsOnlyWhatItLacks();
        closedSiteLosesAnAlert();
        alertPushesTargetAside();
        alertsByUrgency();
        alertWithinItsSlots();
        alertIsObservedOnce();
        groupsByShare();
        countedSlotsOfGroups();
        ranksAndNumbersOfProposals();
        fewestBeginningsFirst();
        oneVisitAtATime();
        waitingIsLostBehindTheNight();
        visitsAndServed();
        slotsAndLost();
        CHECK.end();
    }

    private static void runAndNow() {
        Cloudseed x = new Cloudseed();
        CHECK.fails("18: 0 slots", Check.ARGUMENT, () -> x.run(0));
        CHECK.fails("18: 49 slots", Check.ARGUMENT, () -> x.run(49));
        CHECK.fails("18: -1 slots", Check.ARGUMENT, () -> x.run(-1));
        CHECK.due("19: wrong ones change nothing", x.now(), 0);
        CHECK.due("18: one", x.run(1), 1);
        CHECK.due("19: night 0", x.now(), 1);
        for (int i = 0; i < 14; i++) {
            CHECK.due("18: 48", x.run(48), 48);
        }
        CHECK.due("19: 24 times the night, and the slot", x.now(), 673);
        CHECK.due("18: fewer at the end", x.run(48), 47);
        CHECK.due("19: behind all", x.now(), 720);
        CHECK.due("18: nothing any more", x.run(1), 0);
        CHECK.fails("18: still thrown", Check.ARGUMENT, () -> x.run(49));
        CHECK.due("19: stays", x.now(), 720);
    }

    private static void goingOn() {
        Cloudseed x = Skies.one();
        x.proposal(0, 0, 0, 0);
        CHECK.idle("20: at first", x, 0);
        x.run(1);
        Skies.easy(x, 0, 2, 1);
        x.run(1);
        CHECK.going("20: begun", x, 0, Cloudseed.TARGET, 0, 1);
        x.run(1);
        CHECK.idle("20: done", x, 0);
        Skies.alert(x, 1, 1, 3, 3, 23);
        x.run(2);
        CHECK.going("20: an alert", x, 0, Cloudseed.ALERT, 0, 2);
        CHECK.fails("20: site 3", Check.INDEX, () -> x.goingOn(3, 3));
        CHECK.fails("20: site -1", Check.INDEX, () -> x.goingOn(-1, 0));
        CHECK.fails("20: what 3", Check.ARGUMENT, () -> x.goingOn(0, 3));
        CHECK.fails("20: what -1", Check.ARGUMENT, () -> x.goingOn(0, -1));
    }

    private static void closedSiteBreaksOff() {
        Cloudseed x = Skies.one();
        x.proposal(0, 0, 0, 0);
        Skies.easy(x, 0, 4, 1);
        x.weather(0, 0, 2, 2, 0);
        x.fault(0, 0, 4, 5);
        x.run(3);
        CHECK.idle("20: closed", x, 0);
        CHECK.due("21: it waits", x.waiting(), 1);
        x.run(1);
        CHECK.going("20: it goes on", x, 0, Cloudseed.TARGET, 0, 3);
        CHECK.due("21: none waits", x.waiting(), 0);
        x.run(1);
        CHECK.due("21: a fault breaks it off", x.waiting(), 1);
        x.run(2);
        CHECK.due("27: done in the slot 6", x.datum(0, 3), 6);
        CHECK.due("24: nothing is given back", x.slots(0, true), 0);
        CHECK.due("24: all count", x.slots(0, false), 4);
        CHECK.due("25: closed", x.lost(0, true), 3);
        CHECK.due("25: none", x.lost(0, false), 0);
    }

    private static void handedOver() {
        Cloudseed x = Skies.three();
        x.proposal(0, 0, 0, 0);
        Skies.easy(x, 0, 5, 1);
        x.weather(0, 0, 2, 5, 0);
        x.weather(1, 0, 3, 9, 0);
        x.run(2);
        CHECK.going("20: on the site 0", x, 0, Cloudseed.TARGET, 0, 2);
        x.run(1);
        CHECK.going("20: in the same slot on the site 1", x, 1, Cloudseed.TARGET, 0, 3);
        x.run(1);
        CHECK.going("20: then on the site 2", x, 2, Cloudseed.TARGET, 0, 4);
        x.run(1);
        CHECK.due("27: the site where it was done", x.datum(0, 2), 2);
        CHECK.due("24: of all sites", x.slots(0, false), 5);
    }

    private static void longestWaitsFirst() {
        Cloudseed x = Skies.three();
        x.proposal(0, 0, 0, 0);
        for (int target = 0; target < 3; target++) {
            Skies.easy(x, 0, 6, 1);
        }
        x.run(1);
        x.weather(1, 0, 1, 23, 0);
        x.run(1);
        x.weather(0, 0, 2, 2, 0);
        x.weather(2, 0, 2, 3, 0);
        x.run(1);
        CHECK.due("21: all wait", x.waiting(), 3);
        x.run(1);
        CHECK.going("20: the target 1 waits longest", x, 0, Cloudseed.TARGET, 1, 2);
        x.run(1);
        CHECK.going("20: the lowest of the others", x, 2, Cloudseed.TARGET, 0, 3);
        x.weather(0, 0, 5, 5, 0);
        x.weather(2, 0, 6, 6, 0);
        x.run(2);
        CHECK.going("20: since it was broken off last", x, 0, Cloudseed.TARGET, 2, 3);
        CHECK.due("21: two wait", x.waiting(), 2);
    }

    private static void waitingNeedsOnlyWhatItLacks() {
        Cloudseed x = Skies.one();
        x.proposal(0, 0, 0, 0);
        x.target(0, 60, 0, 5, 0, 80, 100, 50, 1);
        x.target(0, 60, 0, 4, 0, 0, 100, 5, 1);
        x.weather(0, 0, 13, 13, 0);
        x.run(14);
        CHECK.due("21: it waits in the slot 14", x.waiting(), 1);
        x.run(1);
        CHECK.going("20: it lacks 2, and is high for 1", x, 0, Cloudseed.IDLE, Cloudseed.NONE, 0);
        CHECK.due("21: it still waits", x.waiting(), 1);
        Cloudseed y = Skies.one();
        y.proposal(0, 0, 0, 0);
        y.target(0, 60, 0, 4, 0, 80, 100, 50, 1);
        y.weather(0, 0, 13, 13, 0);
        y.run(15);
        CHECK.due("26: it lacks 1, and is high for it", y.data(), 1);
        CHECK.due("27: there", y.datum(0, 3), 14);
    }

    private static void closedSiteLosesAnAlert() {
        Cloudseed x = Skies.three();
        Skies.alert(x, 2, 1, 3, 0, 23);
        x.weather(0, 0, 2, 23, 0);
        x.run(2);
        CHECK.going("20: an alert", x, 0, Cloudseed.ALERT, 0, 2);
        x.run(1);
        CHECK.due("21: alerts do not wait", x.waiting(), 0);
        CHECK.due("24: given back", x.slots(2, true), 2);
        CHECK.going("20: begun again at once", x, 1, Cloudseed.ALERT, 0, 1);
        x.run(2);
        CHECK.due("23: served", x.served(0), true);
        CHECK.due("24: count", x.slots(2, false), 3);
        CHECK.due("25: closed", x.lost(0, true), 3);
    }

    private static void alertPushesTargetAside() {
        Cloudseed x = Skies.three();
        x.proposal(1, 0, 0, 0);
        Skies.easy(x, 0, 6, 1);
        x.run(2);
        Skies.alert(x, 2, 1, 3, 2, 23);
        x.run(1);
        CHECK.going("20: the alert", x, 0, Cloudseed.ALERT, 0, 1);
        CHECK.going("20: the target at once on another site", x, 1, Cloudseed.TARGET, 0, 1);
        CHECK.due("21: it does not wait", x.waiting(), 0);
        CHECK.due("24: given back", x.slots(1, true), 2);
        CHECK.due("24: to nobody else", x.slots(2, true), 0);
    }

    private static void alertsByUrgency() {
        Cloudseed x = Skies.one();
        Skies.alert(x, 0, 4, 6, 0, 23);
        Skies.alert(x, 1, 5, 2, 0, 23);
        Skies.alert(x, 2, 5, 2, 0, 23);
        x.run(1);
        CHECK.going("20: the most urgent, the lowest of several", x, 0, Cloudseed.ALERT, 1, 1);
        x.run(2);
        CHECK.going("20: the next, not pushing the equal one", x, 0, Cloudseed.ALERT, 2, 1);
        x.run(2);
        CHECK.going("20: the less urgent one last", x, 0, Cloudseed.ALERT, 0, 1);
        Skies.alert(x, 3, 4, 1, 0, 23);
        x.run(1);
        CHECK.going("20: an equal one waits", x, 0, Cloudseed.ALERT, 0, 2);
        Skies.alert(x, 3, 9, 1, 0, 23);
        x.run(1);
        CHECK.due("23: a more urgent one pushes", x.served(4), true);
        CHECK.due("24: given back", x.slots(0, true), 2);
        x.run(6);
        CHECK.due("23: the other is begun again, from the beginning", x.served(0), true);
        CHECK.due("24: all of it counts", x.slots(0, false), 6);
        CHECK.due("23: the equal one not yet", x.served(3), false);
        x.run(1);
        CHECK.due("23: at last", x.served(3), true);
    }

    private static void alertWithinItsSlots() {
        Cloudseed x = Skies.one();
        Skies.alert(x, 0, 1, 3, 4, 6);
        Skies.alert(x, 0, 2, 3, 2, 3);
        Skies.alert(x, 0, 1, 1, 3, 3);
        x.alert(0, 9, 60, 0, 1, 0, 1, 0, 23);
        x.alert(0, 9, 60, 0, 1, 1, 0, 0, 23);
        x.alert(0, 9, 180, 0, 1, 0, 0, 0, 12);
        x.run(3);
        CHECK.idle("20: none has come", x, 0);
        x.run(1);
        CHECK.due("23: one slot", x.served(2), true);
        CHECK.due("23: too long for its slots", x.served(1), false);
        x.run(3);
        CHECK.due("23: ends in its last slot", x.served(0), true);
        x.run(17);
        CHECK.due("23: of another night", x.served(3), false);
        x.run(1);
        CHECK.due("23: in that night", x.served(3), true);
        CHECK.due("23: another instrument", x.served(4), false);
        CHECK.due("23: 30 degrees in the slot 12 for the first time", x.served(5), false);
        Cloudseed y = Skies.one();
        Skies.alert(y, 0, 1, 3, 4, 6);
        y.weather(0, 0, 4, 4, 0);
        y.run(24);
        CHECK.due("23: it would end behind its last slot", y.served(0), false);
        Cloudseed z = Skies.one();
        z.alert(0, 1, 100, 0, 1, 0, 0, 7, 7);
        z.alert(0, 1, 100, 0, 1, 0, 0, 8, 8);
        z.run(24);
        CHECK.due("23: 25 degrees high", z.served(0), false);
        CHECK.due("23: 30 degrees high", z.served(1), true);
    }

    private static void alertIsObservedOnce() {
        Cloudseed x = Skies.three();
        Skies.alert(x, 0, 1, 2, 0, 23);
        x.run(1);
        CHECK.going("20: on the site 0", x, 0, Cloudseed.ALERT, 0, 1);
        CHECK.idle("20: not on another one", x, 1);
        x.run(2);
        CHECK.due("26: served once", x.data(), 1);
        CHECK.idle("20: not again", x, 0);
        CHECK.fails("23: alert 1", Check.INDEX, () -> x.served(1));
        CHECK.fails("23: alert -1", Check.INDEX, () -> x.served(-1));
    }

    private static void groupsByShare() {
        Cloudseed x = Skies.one();
        x.proposal(3, 9, 0, 0);
        x.proposal(1, 0, 0, 0);
        x.proposal(2, 5, 0, 0);
        Skies.easy(x, 0, 1, 9);
        Skies.easy(x, 1, 2, 9);
        Skies.easy(x, 2, 1, 9);
        x.run(1);
        CHECK.going("20: of equal groups the lowest, not the rank", x, 0, Cloudseed.TARGET, 1, 1);
        x.run(2);
        CHECK.due("24: then the group 2", x.slots(2, false), 1);
        x.run(1);
        CHECK.due("24: then the group 3", x.slots(3, false), 1);
        // In the next night 4 slots count, 2 of the group 1, 1 of the groups 2 and 3.
        x.run(20);
        x.share(1, 80);
        x.share(2, 20);
        x.share(3, 21);
        x.run(1);
        CHECK.going("20: 320 - 200 is more than 84 - 100", x, 0, Cloudseed.TARGET, 1, 1);
        x.run(2);
        CHECK.due("24: 6 * 21 - 100 is more than 6 * 20 - 100", x.slots(3, false), 2);
    }

    private static void countedSlotsOfGroups() {
        Cloudseed x = Skies.one();
        x.proposal(0, 0, 0, 0);
        x.proposal(1, 0, 0, 0);
        x.proposal(2, 0, 0, 0);
        Skies.easy(x, 0, 6, 1);
        Skies.easy(x, 1, 1, 1);
        Skies.easy(x, 2, 1, 1);
        Skies.alert(x, 1, 1, 1, 0, 0);
        x.run(1);
        CHECK.due("24: slots of alerts count", x.slots(1, false), 1);
        x.run(1);
        CHECK.going("20: the group 0 now", x, 0, Cloudseed.TARGET, 0, 1);
        CHECK.due("24: slots of one that goes on do not count yet", x.slots(0, false), 0);
        x.run(5);
        CHECK.due("24: when it is done", x.slots(0, false), 6);
        x.run(1);
        CHECK.due("24: the group 2 has 0 of 7", x.slots(2, false), 1);
        x.run(1);
        CHECK.due("24: the group 1 has 1 of 8", x.slots(1, false), 2);
        CHECK.fails("24: group 4", Check.INDEX, () -> x.slots(4, true));
        CHECK.fails("24: group -1", Check.INDEX, () -> x.slots(-1, false));
    }

    private static void ranksAndNumbersOfProposals() {
        Cloudseed x = Skies.one();
        x.proposal(0, 4, 0, 0);
        x.proposal(0, 5, 0, 0);
        x.proposal(0, 5, 0, 0);
        Skies.easy(x, 0, 1, 1);
        Skies.easy(x, 2, 3, 1);
        Skies.easy(x, 1, 2, 1);
        x.run(1);
        CHECK.going("20: the greatest rank, the lowest proposal", x, 0, Cloudseed.TARGET, 2, 1);
        x.run(2);
        CHECK.going("20: then the other of the rank", x, 0, Cloudseed.TARGET, 1, 1);
        x.run(3);
        CHECK.due("22: then the lower rank", x.visits(0), 1);
    }

    private static void fewestBeginningsFirst() {
        Cloudseed x = Skies.one();
        x.proposal(0, 0, 0, 0);
        // High from the slot 0 on for 18, 16 and 16 slots, and 16 to the end of the night.
        x.target(0, 25, 0, 2, 0, 30, 100, 50, 1);
        x.target(0, 25, 0, 4, 0, 30, 100, 50, 1);
        x.target(0, 15, 0, 2, 0, 30, 100, 50, 1);
        x.target(0, 15, 0, 2, 0, 30, 100, 50, 1);
        x.weather(0, 0, 3, 4, 50);
        x.run(1);
        CHECK.going("20: 14 beginnings are fewer than 15 and 17", x, 0, Cloudseed.TARGET, 1, 1);
        x.run(4);
        CHECK.going("20: of equal ones the lowest", x, 0, Cloudseed.TARGET, 2, 1);
        x.run(2);
        CHECK.going("20: then the other one", x, 0, Cloudseed.TARGET, 3, 1);
        Cloudseed y = Skies.one();
        y.proposal(0, 0, 0, 0);
        y.target(0, 115, 0, 1, 0, 30, 100, 50, 1);
        y.target(0, 115, 0, 2, 0, 30, 100, 50, 1);
        y.run(11);
        CHECK.due("20: neither is high", y.goingOn(0, 0), Cloudseed.IDLE);
        y.run(1);
        CHECK.going("20: the end of the night leaves one less", y, 0, Cloudseed.TARGET, 1, 1);
        Cloudseed z = Skies.one();
        z.proposal(0, 0, 0, 0);
        z.target(0, 60, 0, 1, 0, 0, 100, 50, 1);
        z.target(0, 0, 0, 1, 0, 30, 100, 9, 1);
        z.target(0, 0, 0, 1, 0, 30, 100, 10, 1);
        z.weather(0, 0, 1, 23, 50);
        z.run(1);
        CHECK.due("22: by heights alone, not by the seeing", z.visits(2), 1);
    }

    private static void oneVisitAtATime() {
        Cloudseed x = Skies.three();
        x.proposal(0, 0, 0, 0);
        Skies.easy(x, 0, 4, 5);
        x.run(1);
        CHECK.idle("20: it goes on elsewhere", x, 1);
        x.weather(0, 0, 1, 23, 0);
        x.weather(1, 0, 1, 23, 11);
        x.target(0, 60, 0, 4, 0, 0, 100, 10, 5);
        x.run(1);
        CHECK.going("20: on the site 1", x, 1, Cloudseed.TARGET, 0, 2);
        CHECK.going("20: the other one suits only the site 2", x, 2, Cloudseed.TARGET, 1, 1);
        x.weather(2, 0, 2, 2, 0);
        x.run(2);
        CHECK.due("22: done", x.visits(0), 1);
        CHECK.going("20: it went on", x, 2, Cloudseed.TARGET, 1, 2);
        Cloudseed y = Skies.three();
        y.proposal(0, 0, 0, 0);
        y.target(0, 60, 0, 4, 0, 0, 100, 10, 5);
        y.run(2);
        y.weather(0, 0, 2, 23, 0);
        y.weather(1, 0, 2, 23, 11);
        y.weather(2, 0, 2, 23, 11);
        y.run(2);
        CHECK.due("21: it waits", y.waiting(), 1);
        y.weather(2, 0, 4, 23, 10);
        y.run(1);
        CHECK.going("20: it is not begun anew", y, 2, Cloudseed.TARGET, 0, 3);
    }

    private static void waitingIsLostBehindTheNight() {
        Cloudseed x = Skies.one();
        x.proposal(3, 0, 0, 0);
        x.proposal(1, 0, 0, 0);
        Skies.easy(x, 0, 6, 9);
        x.weather(0, 0, 4, 23, 0);
        x.run(23);
        CHECK.due("21: it waits", x.waiting(), 1);
        CHECK.due("24: not yet given back", x.slots(3, true), 0);
        x.run(1);
        CHECK.due("21: lost", x.waiting(), 0);
        CHECK.due("24: given back", x.slots(3, true), 4);
        CHECK.due("24: not to another group", x.slots(1, true), 0);
        x.run(6);
        CHECK.due("24: all slots are made anew", x.slots(3, false), 6);
        CHECK.due("27: in the night 1", x.datum(0, 3), 29);
        CHECK.due("24: given back once", x.slots(3, true), 4);
    }

    private static void visitsAndServed() {
        Cloudseed x = Skies.one();
        x.proposal(0, 0, 90, 0);
        x.proposal(0, 0, 91, 0);
        Skies.easy(x, 0, 1, 3);
        Skies.easy(x, 1, 1, 3);
        x.run(3);
        CHECK.due("22: a good one", x.visits(0), 1);
        CHECK.due("22: none is good", x.visits(1), 0);
        CHECK.due("26: it is tried again", x.data(), 3);
        CHECK.fails("22: target 2", Check.INDEX, () -> x.visits(2));
        CHECK.fails("22: target -1", Check.INDEX, () -> x.visits(-1));
    }

    private static void slotsAndLost() {
        Cloudseed x = Skies.one();
        x.proposal(0, 0, 0, 0);
        Skies.easy(x, 0, 2, 1);
        x.fault(1, 0, 3, 23);
        x.fault(0, 0, 23, 23);
        x.run(24);
        CHECK.due("25: closed once", x.lost(0, true), 1);
        CHECK.due("25: not in slots of visits", x.lost(0, false), 21);
        CHECK.due("25: closed by a fault", x.lost(1, true), 21);
        CHECK.due("25: nothing suited", x.lost(1, false), 3);
        CHECK.due("25: never closed", x.lost(2, true), 0);
        CHECK.due("25: all", x.lost(2, false), 24);
        CHECK.fails("25: site 3", Check.INDEX, () -> x.lost(3, true));
        CHECK.fails("25: site -1", Check.INDEX, () -> x.lost(-1, false));
    }
}
