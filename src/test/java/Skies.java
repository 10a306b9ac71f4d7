/** Objects that are ready for visits: the sky's place 60, 0 is high in all their slots. */
final class Skies {
    private Skies() {
    }

    /** Just the site 0 can observe, in the nights 0 to 6. */
    static Cloudseed one() {
        Cloudseed x = new Cloudseed();
        x.calibrate(0, 0, 0);
        return x;
    }

    /** The three sites stand at the same place, and can observe in the nights 0 to 6. */
    static Cloudseed three() {
        Cloudseed x = one();
        for (int site = 1; site < 3; site++) {
            x.place(site, 0, 0);
            x.calibrate(site, 0, 0);
        }
        return x;
    }

    /** The site 0 can observe in all nights. */
    static Cloudseed allNights() {
        Cloudseed x = one();
        for (int night = 6; night < 30; night += 6) {
            x.calibrate(0, 0, night);
        }
        return x;
    }

    /** A target that suits in all slots that leave its length. */
    static int easy(Cloudseed x, int proposal, int length, int visits) {
        return x.target(proposal, 60, 0, length, 0, 0, 100, 50, visits);
    }

    /** An alert of the night 0, in all slots of which its place is at least 30 degrees high. */
    static int alert(Cloudseed x, int group, int urgency, int length, int from, int to) {
        return x.alert(group, urgency, 60, 0, length, 0, 0, from, to);
    }

    /** More slots than one call runs. */
    static void run(Cloudseed x, int slots) {
        for (int left = slots; left > 0; left -= 48) {
            x.run(Math.min(48, left));
        }
    }

    /**
     * The slot 10 of the night 1 comes: an alert is observed on the site 0, a target on the site 1, another
     * one waits, others were lost, and data of both kinds are kept.
     */
    static Cloudseed busy() {
        Cloudseed x = three();
        x.place(2, 10, 350);
        x.moon(3);
        x.share(1, 40);
        x.mount(2, 3, 1);
        x.calibrate(2, 1, 2);
        x.calibrate(1, 2, 3);
        x.proposal(0, 5, 0, 2);
        x.proposal(1, 6, 91, 30);
        x.proposal(3, 5, 60, 0);
        easy(x, 0, 2, 2);
        easy(x, 1, 6, 3);
        easy(x, 2, 6, 10);
        easy(x, 0, 5, 10);
        x.target(2, 60, 0, 4, 0, 30, 90, 20, 1);
        x.target(2, 30, 20, 3, 1, 10, 100, 50, 2);
        easy(x, 1, 5, 3);
        x.series(2, 0, 3, 1);
        alert(x, 2, 3, 2, 2, 8);
        x.alert(1, 5, 60, 0, 6, 0, 1, 7, 20);
        x.alert(3, 9, 60, 0, 1, 0, 2, 0, 23);
        x.weather(0, 0, 3, 5, 0);
        x.weather(2, 1, 9, 12, 0);
        x.weather(1, 2, 0, 3, 30);
        x.fault(0, 0, 21, 23);
        x.fault(1, 0, 22, 23);
        x.fault(2, 0, 23, 23);
        x.weather(1, 1, 3, 6, 0);
        x.run(24);
        x.run(10);
        return x;
    }

    /** As many proposals, targets and alerts as there can be. */
    static Cloudseed full() {
        Cloudseed x = one();
        for (int i = 0; i < 8; i++) {
            x.proposal(i % 4, i, 10 * i, i);
        }
        for (int i = 0; i < 24; i++) {
            easy(x, i % 8, 1 + i % 6, 1 + i % 10);
        }
        for (int i = 0; i < 10; i++) {
            x.alert(i % 4, 1 + i % 9, 60, 0, 1 + i % 6, 0, i / 2, 3 * i % 7, 23 - i);
        }
        x.run(3);
        return x;
    }
}
