import java.util.ArrayList;
import java.util.List;
import java.util.function.Supplier;
import java.util.function.ToLongFunction;

/**
 * All that an object answers. It is made anew for each portion of the questions, since an object is
 * used for 512 calls, and since some of the questions change it.
 */
final class Whole {
    private record Question(String name, ToLongFunction<Cloudseed> ask) {
    }

    private static final int PORTION = 350;
    private static final long THROWN = Long.MIN_VALUE;
    private static final List<List<Question>> PORTIONS = new ArrayList<>();
    private static List<Question> portion = new ArrayList<>();

    static {
        sky();
        asked();
        running();
        data();
        endPortion();
        instruments();
        calibrations();
        counts();
        future();
    }

    private Whole() {
    }

    static List<Long> of(Supplier<Cloudseed> made) {
        List<Long> all = new ArrayList<>();
        for (List<Question> one : PORTIONS) {
            Cloudseed x = made.get();
            for (Question question : one) {
                all.add(answer(question, x));
            }
        }
        return all;
    }

    /** The first question that is answered otherwise, and empty if there is none. */
    static String difference(List<Long> one, List<Long> other) {
        int at = 0;
        for (List<Question> questions : PORTIONS) {
            for (Question question : questions) {
                if (!one.get(at).equals(other.get(at))) {
                    return question.name + " answers " + other.get(at) + ", it was " + one.get(at);
                }
                at++;
            }
        }
        return "";
    }

    private static long answer(Question question, Cloudseed x) {
        try {
            return question.ask.applyAsLong(x);
        } catch (IndexOutOfBoundsException e) {
            return THROWN;
        } catch (IllegalArgumentException e) {
            return THROWN + 1;
        } catch (IllegalStateException e) {
            return THROWN + 2;
        }
    }

    private static void ask(String name, ToLongFunction<Cloudseed> question) {
        portion.add(new Question(name, question));
    }

    /** Asked only where the order of the questions does not matter. */
    private static void askApart(String name, ToLongFunction<Cloudseed> question) {
        ask(name, question);
        if (portion.size() == PORTION) {
            endPortion();
        }
    }

    private static void endPortion() {
        PORTIONS.add(portion);
        portion = new ArrayList<>();
    }

    private static void sky() {
        for (int i = 0; i < 3 * 30 * 24; i++) {
            int site = i / 720;
            int night = i / 24 % 30;
            int slot = i % 24;
            askApart("seeing " + site + " " + night + " " + slot, x -> x.seeing(site, night, slot));
        }
        for (int i = 0; i < 3 * 12; i++) {
            int site = i % 3;
            int ra = i / 3 * 30;
            askApart("height " + site + " " + ra, x -> x.height(site, 0, 0, ra, 0));
            askApart("height of the pole " + site, x -> x.height(site, 0, 0, ra, 90));
        }
        for (int i = 0; i < 30; i++) {
            int night = i;
            askApart("light " + night, x -> x.light(night));
        }
    }

    private static void asked() {
        for (int i = 0; i < 24 * 30; i++) {
            int target = i / 30;
            int night = i % 30;
            askApart("wants " + target + " " + night, x -> x.wants(target, night) ? 1 : 0);
        }
        for (int i = 0; i < 24 * 3 * 6; i++) {
            int target = i / 18;
            int site = i / 6 % 3;
            int night = i % 6;
            askApart("chances " + target + " " + site + " " + night, x -> x.chances(target, site, night));
        }
        for (int i = 0; i < 3 * 30; i++) {
            int site = i % 3;
            int night = i / 3;
            askApart("bestOrder " + site + " " + night, x -> x.bestOrder(site, night));
            askApart("replay " + night, x -> x.replay(night));
        }
    }

    private static void running() {
        for (int i = 0; i < 3 * 5; i++) {
            int site = i / 5;
            int what = i % 5;
            askApart("going on or lost " + site + " " + what,
                    x -> what < 3 ? x.goingOn(site, what) : x.lost(site, what == 3));
        }
        for (int i = 0; i < 8; i++) {
            int group = i / 2;
            boolean back = i % 2 == 0;
            askApart("slots " + group + " " + back, x -> x.slots(group, back));
        }
        for (int i = 0; i < 24; i++) {
            int number = i;
            askApart("visits " + number, x -> x.visits(number));
            askApart("served " + number, x -> x.served(number) ? 1 : 0);
        }
        askApart("now", Cloudseed::now);
        askApart("waiting", Cloudseed::waiting);
    }

    private static void data() {
        askApart("data", Cloudseed::data);
        for (int i = 0; i < 16 * 7; i++) {
            int data = i / 7;
            int what = i % 7;
            askApart("datum " + data + " " + what, x -> x.datum(data, what));
        }
        for (int i = 0; i < 4 * 16 * 30; i++) {
            int group = i % 4;
            int data = i / 4 % 16;
            int night = i / 64;
            askApart("reads " + group + " " + data + " " + night, x -> x.reads(group, data, night) ? 1 : 0);
        }
    }

    /** From the last night on, so that what is mounted to learn what was before changes no later answer. */
    private static void instruments() {
        for (int i = 0; i < 3 * 30; i++) {
            int site = i % 3;
            int night = 29 - i / 3;
            ask("mounted " + site + " " + night, x -> x.mount(site, night, 2));
        }
        endPortion();
    }

    private static void calibrations() {
        for (int i = 0; i < 3 * 3 * 30; i++) {
            int site = i % 3;
            int instrument = i / 3 % 3;
            int night = i / 9;
            ask("calibrated " + site + " " + instrument + " " + night,
                    x -> x.calibrate(site, instrument, night) ? 1 : 0);
        }
        endPortion();
    }

    private static void counts() {
        ask("phase", x -> x.moon(0));
        for (int i = 0; i < 4; i++) {
            int group = i;
            ask("share " + group, x -> x.share(group, 50));
        }
        for (int i = 0; i < 24; i++) {
            int target = i;
            ask("series " + target, x -> {
                x.series(target, 0, 1, 0);
                return 0;
            });
        }
        for (int i = 0; i < 9; i++) {
            ask("next proposal", x -> x.proposal(0, 0, 0, 0));
        }
        for (int i = 0; i < 25; i++) {
            ask("next target", x -> x.target(0, 0, 0, 1, 0, 0, 0, 1, 1));
        }
        for (int i = 0; i < 11; i++) {
            ask("next alert", x -> x.alert(0, 1, 0, 0, 1, 0, 0, 0, 0));
        }
        endPortion();
    }

    /** What comes of it when all slots are run: it tells of proposals, targets and alerts, too. */
    private static void future() {
        for (int i = 0; i < 30; i++) {
            ask("later run", x -> x.run(24));
            for (int site = 0; site < 3; site++) {
                int at = site;
                ask("later at " + site, x -> x.goingOn(at, 1));
            }
            ask("later data", Cloudseed::data);
        }
        for (int i = 0; i < 4; i++) {
            int group = i;
            ask("later slots " + group, x -> x.slots(group, false));
            ask("later slots back " + group, x -> x.slots(group, true));
        }
        for (int i = 0; i < 100; i++) {
            int data = i;
            ask("later datum " + data, x -> x.datum(data, 1) + 100 * x.datum(data, 4));
        }
        endPortion();
    }
}
