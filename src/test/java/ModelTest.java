import java.util.Arrays;

/**
 * Makes the same calls, drawn by a fixed rule, of the class and of the model, and compares the answers.
 * No object is asked more than it may be, nor what the document leaves open.
 */
public final class ModelTest {
    private static final int OBJECTS = 1500;
    private static final int CALLS = 512;
    private static final int CALLS_AT_THE_END = 90;
    private static final Check CHECK = new Check("ModelTest");

    private static long seed;
    private static Cloudseed x;
    private static Model model;
    private static int object;
    private static int calls;
    private static int pace;
    private static int targets;
    private static int alerts;

    public static void main(String[] args) {
        for (object = 0; object < OBJECTS; object++) {
            seed = 7919L * object + 17;
            x = new Cloudseed();
            model = new Model();
            calls = 0;
            targets = 0;
            alerts = 0;
            pace = some(0, 9);
            prepare();
            while (calls < CALLS - CALLS_AT_THE_END) {
                someCall();
            }
            compareState();
        }
        CHECK.end();
    }

    /** A number from least to most. */
    private static int some(int least, int most) {
        seed = seed * 6364136223846793005L + 1442695040888963407L;
        return least + (int) ((seed >>> 33) % (most - least + 1));
    }

    /** Mostly a number from least to most, at times one just outside of it, or far away. */
    private static int arg(int least, int most) {
        int chance = some(0, 399);
        if (chance > 2) {
            return some(least, most);
        }
        int[] wrong = {least - 1, most + 1, some(0, 1) == 0 ? Integer.MIN_VALUE : Integer.MAX_VALUE};
        return wrong[chance];
    }

    /** Skies in which most of the calls have something to do. */
    private static void prepare() {
        int apart = some(0, 2) * 20;
        for (int site = 0; site < 3; site++) {
            ask("place", site, some(-20, 20), site * apart);
            for (int night = 0; night < 30; night += some(3, 8)) {
                ask("calibrate", site, 0, night);
                ask("calibrate", site, some(1, 2), night);
            }
        }
        int proposals = some(2, 8);
        for (int i = 0; i < proposals; i++) {
            ask("proposal", some(0, 3), some(0, 2) * 3, some(0, 3) == 0 ? some(80, 95) : some(0, 75), some(0, 9));
        }
        int made = some(3, 20);
        for (int i = 0; i < made; i++) {
            makeTarget();
        }
    }

    private static void makeTarget() {
        ask("target", arg(0, 7), arg(0, 120), some(-40, 40), arg(1, 6), some(0, 3) == 0 ? arg(0, 2) : 0,
                arg(0, 40), some(0, 2) == 0 ? arg(0, 100) : 100, some(0, 1) == 0 ? arg(8, 50) : 50, arg(1, 10));
        targets++;
    }

    private static void makeAlert() {
        int now = model.now();
        int night = some(0, 4) == 0 ? arg(0, 29) : Math.min(29, now / 24 + some(0, 1));
        int from = some(0, 1) == 0 ? arg(0, 23) : now % 24;
        ask("alert", arg(0, 3), arg(1, 9), arg(20, 110), some(-40, 40), arg(1, 6), some(0, 5) == 0 ? arg(0, 2) : 0,
                night, from, some(0, 9) == 0 ? arg(0, 23) : Math.min(23, from + some(0, 9)));
        alerts++;
    }

    private static void makeWeather() {
        int now = model.now();
        int night = some(0, 2) == 0 ? arg(0, 29) : Math.min(29, (now + some(0, 5)) / 24);
        int from = some(0, 2) == 0 ? arg(0, 23) : (now + some(0, 2)) % 24;
        // What is told of the slots that a visit has already, while it is made, is left open.
        if (night == now / 24 && model.isAnyVisitMade()) {
            from = Math.max(from, now % 24);
        }
        int to = some(0, 9) == 0 ? arg(0, 23) : Math.min(23, from + some(0, 5));
        if (some(0, 9) == 0) {
            ask("fault", arg(0, 2), night, from, to);
        } else {
            ask("weather", arg(0, 2), night, from, to, some(0, 2) == 0 ? 0 : arg(0, 50));
        }
    }

    private static void makeSeries() {
        int target = arg(0, targets);
        // For which j a visit is that was begun ahead of the series is left open.
        if (!model.isVisitMade(target)) {
            ask("series", target, arg(0, 29), arg(1, 12), arg(0, 5));
        }
    }

    private static void someRun() {
        ask("run", pace < 6 ? arg(1, 3) : pace < 9 ? arg(1, 9) : arg(1, 48));
        for (int i = 0; i < 3; i++) {
            compareSome();
        }
    }

    private static void someCall() {
        int kind = some(0, 99);
        if (kind < 30) {
            someRun();
        } else if (kind < 42) {
            makeWeather();
        } else if (kind < 47) {
            makeAlert();
        } else if (kind < 49) {
            makeTarget();
        } else if (kind < 52) {
            makeSeries();
        } else if (kind < 55) {
            ask("share", arg(0, 3), arg(0, 100));
        } else if (kind < 58) {
            ask("mount", arg(0, 2), some(0, 2) == 0 ? arg(0, 29) : Math.min(29, model.now() / 24 + 1), arg(0, 2));
        } else if (kind < 63) {
            ask("calibrate", arg(0, 2), some(0, 1) == 0 ? 0 : arg(0, 2),
                    some(0, 1) == 0 ? arg(0, 29) : Math.min(29, model.now() / 24));
        } else if (kind < 65) {
            ask("moon", arg(0, 29));
        } else if (kind < 67) {
            ask("place", arg(0, 2), arg(-60, 60), arg(0, 359));
        } else if (kind < 68) {
            ask("proposal", arg(0, 3), arg(0, 9), arg(0, 100), arg(0, 30));
        } else {
            someQuestion(kind);
        }
    }

    private static void someQuestion(int kind) {
        int data = (int) ask("data");
        int last = Math.min(29, model.now() / 24);
        if (kind < 74) {
            ask("replay", some(0, 9) == 0 ? arg(0, 29) : some(0, last));
        } else if (kind < 79) {
            ask("bestOrder", arg(0, 2), some(0, 1) == 0 ? arg(0, 29) : last);
        } else if (kind < 84) {
            ask("chances", arg(0, targets), arg(0, 2), some(0, 1) == 0 ? arg(0, 29) : last);
        } else if (kind < 88) {
            ask("wants", arg(0, targets), arg(0, 29));
        } else if (kind < 92) {
            ask("reads", arg(0, 3), arg(0, data), arg(0, 29));
        } else if (kind < 95) {
            ask("datum", arg(0, data), arg(0, 6));
        } else if (kind < 97) {
            ask("height", arg(0, 2), arg(0, 29), arg(0, 23), arg(0, 359), arg(-90, 90));
        } else if (kind < 98) {
            ask("light", arg(0, 29));
        } else {
            ask("seeing", arg(0, 2), arg(0, 29), arg(0, 23));
        }
    }

    /** One of the questions that the running of slots answers. */
    private static void compareSome() {
        switch (some(0, 9)) {
            case 0: ask("waiting"); break;
            case 1: ask("goingOn", arg(0, 2), 0); break;
            case 2: ask("goingOn", arg(0, 2), 1); break;
            case 3: ask("goingOn", arg(0, 2), 2); break;
            case 4: ask("lost", arg(0, 2), some(0, 1)); break;
            case 5: ask("slots", arg(0, 3), some(0, 1)); break;
            case 6: ask("visits", arg(0, targets)); break;
            case 7: ask("wants", arg(0, targets), Math.min(29, model.now() / 24)); break;
            case 8: ask("served", arg(0, alerts)); break;
            default: ask("datum", (int) ask("data") - 1, arg(0, 6));
        }
    }

    private static void compareState() {
        ask("now");
        ask("waiting");
        for (int site = 0; site < 3; site++) {
            for (int what = 0; what < 3; what++) {
                ask("goingOn", site, what);
            }
            ask("lost", site, 0);
            ask("lost", site, 1);
        }
        for (int group = 0; group < 4; group++) {
            ask("slots", group, 0);
            ask("slots", group, 1);
        }
        for (int target = 0; target < 24; target++) {
            ask("visits", target);
        }
        for (int alert = 0; alert < 10; alert++) {
            ask("served", alert);
        }
        int data = (int) ask("data");
        while (calls < CALLS) {
            ask("datum", some(0, data), some(0, 6));
        }
    }

    private static long ask(String name, int... a) {
        if (calls == CALLS) {
            return 0;
        }
        calls++;
        long want = 0;
        Class<?> thrown = null;
        try {
            want = model.call(name, a);
        } catch (IndexOutOfBoundsException | IllegalArgumentException | IllegalStateException e) {
            thrown = e.getClass();
        }
        String call = "object " + object + ", " + name + Arrays.toString(a);
        if (thrown != null) {
            CHECK.fails(call, thrown.asSubclass(RuntimeException.class), () -> answer(name, a));
            return 0;
        }
        long got = 0;
        try {
            got = answer(name, a);
        } catch (RuntimeException e) {
            CHECK.fails(call, null, () -> {
                throw e;
            });
            return want;
        }
        CHECK.due(call, got, want);
        return want;
    }

    private static long answer(String name, int[] a) {
        switch (name) {
            case "place": x.place(a[0], a[1], a[2]); return 0;
            case "moon": return x.moon(a[0]);
            case "weather": x.weather(a[0], a[1], a[2], a[3], a[4]); return 0;
            case "fault": x.fault(a[0], a[1], a[2], a[3]); return 0;
            case "mount": return x.mount(a[0], a[1], a[2]);
            case "calibrate": return x.calibrate(a[0], a[1], a[2]) ? 1 : 0;
            case "height": return x.height(a[0], a[1], a[2], a[3], a[4]);
            case "light": return x.light(a[0]);
            case "seeing": return x.seeing(a[0], a[1], a[2]);
            case "share": return x.share(a[0], a[1]);
            case "proposal": return x.proposal(a[0], a[1], a[2], a[3]);
            case "target": return x.target(a[0], a[1], a[2], a[3], a[4], a[5], a[6], a[7], a[8]);
            case "series": x.series(a[0], a[1], a[2], a[3]); return 0;
            case "alert": return x.alert(a[0], a[1], a[2], a[3], a[4], a[5], a[6], a[7], a[8]);
            case "wants": return x.wants(a[0], a[1]) ? 1 : 0;
            case "chances": return x.chances(a[0], a[1], a[2]);
            case "run": return x.run(a[0]);
            case "now": return x.now();
            case "goingOn": return x.goingOn(a[0], a[1]);
            case "waiting": return x.waiting();
            case "visits": return x.visits(a[0]);
            case "served": return x.served(a[0]) ? 1 : 0;
            case "slots": return x.slots(a[0], a[1] == 1);
            case "lost": return x.lost(a[0], a[1] == 1);
            case "data": return x.data();
            case "datum": return x.datum(a[0], a[1]);
            case "reads": return x.reads(a[0], a[1], a[2]) ? 1 : 0;
            case "replay": return x.replay(a[0]);
            case "bestOrder": return x.bestOrder(a[0], a[1]);
            default: throw new UnsupportedOperationException(name);
        }
    }
}
