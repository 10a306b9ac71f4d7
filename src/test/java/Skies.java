/** Objects that are ready for visits: the sky's place 60, 0 is high in all their slots. */
final class Skies {
    private Skies() {
    }

    /** Just the site 0 can observe, in the nights 0 to 6. */
    static Cloudseed one() {
        Cloudseed x = new Cloudseed();
        x.calibrate(0, 0, 0);
        return x;
    }

    /** The three sites stand at the same place, and can observe in the nights 0 to 6. */
    static Cloudseed three() {
        Cloudseed x = one();
        for (int site = 1; site < 3; site++) {
            x.place(site, 0, 0);
            x.calibrate(site, 0, 0);
        }
        return x;
    }

    /** A target that suits in all slots that leave its length. */
    static int easy(Cloudseed x, int proposal, int length, int visits) {
        return x.target(proposal, 60, 0, length, 0, 0, 100, 50, visits);
    }

    /** An alert of the night 0, in all slots of which its place is at least 30 degrees high. */
    static int alert(Cloudseed x, int group, int urgency, int length, int from, int to) {
        return x.alert(group, urgency, 60, 0, length, 0, 0, from, to);
    }
}
