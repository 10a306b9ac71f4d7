import java.util.ArrayList;
import java.util.List;

/**
 * The document's words once more, as plainly as can be and without regard to cost: all that was told
 * is kept in lists, and each answer is made from these lists anew. ModelTest compares the class with it.
 */
final class Model {
    private static final class Made {
        int kind;
        int number;
        int proposal;
        int group;
        int ra;
        int dec;
        int length;
        int instrument;
        int height;
        int light;
        int seeing;
        int visits;
        int[] series;
        int urgency;
        int from;
        int to;
    }

    private static final class Visit {
        final Made of;
        final List<int[]> slots = new ArrayList<>();
        int brokenOff;

        Visit(Made of) {
            this.of = of;
        }
    }

    /** A good visit of a target, with its j or -1; slots that count; or a served alert. */
    private record Event(int time, Made of, int j, int slots, boolean good) {
    }

    private final class World {
        int now;
        final Visit[] on = new Visit[3];
        final List<Visit> waiting = new ArrayList<>();
        final List<Event> events = new ArrayList<>();
        final List<int[]> data = new ArrayList<>();
        final int[] back = new int[4];
        final int[][] lost = new int[3][2];

        boolean busy(Made m) {
            for (Visit v : on) {
                if (v != null && v.of == m) {
                    return true;
                }
            }
            return false;
        }

        int good(Made m) {
            int n = 0;
            for (Event e : events) {
                n += e.of == m && e.good ? 1 : 0;
            }
            return n;
        }

        int counted(int group) {
            int n = 0;
            for (Event e : events) {
                n += e.of.group == group ? e.slots : 0;
            }
            return n;
        }

        boolean made(Made m, int j) {
            for (Event e : events) {
                if (e.of == m && e.good && e.j == j) {
                    return true;
                }
            }
            return false;
        }

        int phaseIn(Made m, int night) {
            for (int j = 0; m.series != null && j < m.visits; j++) {
                if (Math.abs(night - (m.series[0] + j * m.series[1])) <= m.series[2] && !made(m, j)) {
                    return j;
                }
            }
            return -1;
        }

        boolean wants(Made m, int night) {
            if (m.series != null) {
                return phaseIn(m, night) >= 0;
            }
            for (Event e : events) {
                if (e.of == m && e.good && e.time / 24 == night) {
                    return false;
                }
            }
            return good(m) < m.visits;
        }

        void lose(Visit v) {
            if (v != null) {
                back[v.of.group] += v.slots.size();
            }
        }

        void slot() {
            for (int s = 0; s < 3; s++) {
                site(s);
            }
            now++;
            if (now % 24 == 0) {
                for (int s = 0; s < 3; s++) {
                    lose(on[s]);
                    on[s] = null;
                }
                waiting.forEach(this::lose);
                waiting.clear();
            }
        }

        void site(int s) {
            if (seeingOf(s, now) == 0) {
                lost[s][1]++;
                if (on[s] != null && on[s].of.kind == 1) {
                    on[s].brokenOff = now;
                    waiting.add(on[s]);
                } else {
                    lose(on[s]);
                }
                on[s] = null;
                return;
            }
            Made alert = nextAlert(s);
            if (alert != null && (on[s] == null || on[s].of.kind == 1 || on[s].of.urgency < alert.urgency)) {
                lose(on[s]);
                on[s] = new Visit(alert);
            }
            if (on[s] == null) {
                on[s] = nextWaiting(s);
                waiting.remove(on[s]);
            }
            if (on[s] == null) {
                Made target = nextTarget(s);
                on[s] = target == null ? null : new Visit(target);
            }
            if (on[s] == null) {
                lost[s][0]++;
                return;
            }
            on[s].slots.add(new int[] {s, now, seeingOf(s, now)});
            if (on[s].slots.size() == on[s].of.length) {
                done(s, on[s]);
                on[s] = null;
            }
        }

        Made nextAlert(int s) {
            Made best = null;
            for (Made m : alerts) {
                boolean can = good(m) == 0 && !busy(m) && m.from <= now && now <= m.to
                        && now + m.length - 1 <= m.to && suits(m, s, now, m.length);
                if (can && (best == null || m.urgency > best.urgency)) {
                    best = m;
                }
            }
            return best;
        }

        Visit nextWaiting(int s) {
            Visit best = null;
            for (Visit v : waiting) {
                if (!suits(v.of, s, now, v.of.length - v.slots.size())) {
                    continue;
                }
                if (best == null || v.brokenOff < best.brokenOff
                        || v.brokenOff == best.brokenOff && v.of.number < best.of.number) {
                    best = v;
                }
            }
            return best;
        }

        Made nextTarget(int s) {
            List<Made> left = new ArrayList<>();
            for (Made m : targets) {
                boolean waits = waiting.stream().anyMatch(v -> v.of == m);
                if (wants(m, now / 24) && !busy(m) && !waits && suits(m, s, now, m.length)) {
                    left.add(m);
                }
            }
            keepGreatest(left, m -> share[m.group] * (counted(0) + counted(1) + counted(2) + counted(3))
                    - 100 * counted(m.group));
            keepGreatest(left, m -> -m.group);
            keepGreatest(left, m -> proposals.get(m.proposal)[1]);
            keepGreatest(left, m -> -m.proposal);
            keepGreatest(left, m -> -beginnings(m, s, now));
            keepGreatest(left, m -> -m.number);
            return left.isEmpty() ? null : left.get(0);
        }

        void keepGreatest(List<Made> left, java.util.function.ToIntFunction<Made> by) {
            int greatest = left.stream().mapToInt(by).max().orElse(0);
            left.removeIf(m -> by.applyAsInt(m) != greatest);
        }

        void done(int s, Visit v) {
            int night = now / 24;
            int worst = 0;
            for (int[] slot : v.slots) {
                worst = Math.max(worst, slot[2]);
            }
            int calibration = calibrationOf(s, v.of.instrument, night);
            int quality = Math.max(0, 100 - worst - 5 * (night - calibration));
            boolean good = v.of.kind == 2 || quality >= proposals.get(v.of.proposal)[2];
            if (data.size() < 100) {
                data.add(new int[] {v.of.kind, v.of.number, s, now, quality, good ? 1 : 0, calibration});
            }
            events.add(new Event(now, v.of, good ? phaseIn(v.of, night) : -1, v.of.length, good));
        }
    }

    private final int[][] place = {{0, 0}, {0, 120}, {0, 240}};
    private final List<int[]> weather = new ArrayList<>();
    private final List<int[]> faults = new ArrayList<>();
    private final List<int[]> mounts = new ArrayList<>();
    private final boolean[][][] calibrated = new boolean[3][3][30];
    private final int[] share = {25, 25, 25, 25};
    private final List<int[]> proposals = new ArrayList<>();
    private final List<Made> targets = new ArrayList<>();
    private final List<Made> alerts = new ArrayList<>();
    private final World world = new World();
    private int phase;

    int now() {
        return world.now;
    }

    /** Whether a visit goes on or waits. */
    boolean isAnyVisitMade() {
        return !world.waiting.isEmpty() || world.on[0] != null || world.on[1] != null || world.on[2] != null;
    }

    boolean isVisitMade(int target) {
        if (!in(target, 0, targets.size() - 1)) {
            return false;
        }
        Made m = targets.get(target);
        return world.busy(m) || world.waiting.stream().anyMatch(v -> v.of == m);
    }

    private static int angle(int a, int b) {
        int way = ((a - b) % 360 + 360) % 360;
        return way < 360 - way ? way : 360 - way;
    }

    private int heightOf(int s, int time, int ra, int dec) {
        int a = angle((place[s][1] + time / 24 + 5 * (time % 24)) % 360, ra);
        int b = Math.abs(dec - place[s][0]);
        return a > b ? 90 - a - b / 2 : 90 - b - a / 2;
    }

    private int seeingOf(int s, int time) {
        int told = 10;
        for (int[] w : weather) {
            if (w[0] == s && w[1] * 24 + w[2] <= time && time <= w[1] * 24 + w[3]) {
                told = w[4];
            }
        }
        for (int[] f : faults) {
            if (f[0] == s && f[1] * 24 + f[2] <= time && time <= f[1] * 24 + f[3]) {
                told = 0;
            }
        }
        return told;
    }

    private int instrumentOf(int s, int night) {
        int[] last = {s, -1, 0};
        for (int[] m : mounts) {
            if (m[0] == s && m[1] <= night && m[1] >= last[1]) {
                last = m;
            }
        }
        return last[2];
    }

    private int calibrationOf(int s, int instrument, int night) {
        int newest = -1;
        for (int n = 0; n <= night; n++) {
            newest = calibrated[s][instrument][n] ? n : newest;
        }
        return newest;
    }

    private int lightOf(int night) {
        return 100 - Math.abs(15 - (night + phase) % 30) * 100 / 15;
    }

    private boolean high(Made m, int s, int time, int slots) {
        if (time / 24 != (time + slots - 1) / 24) {
            return false;
        }
        for (int t = time; t < time + slots; t++) {
            if (heightOf(s, t, m.ra, m.dec) < m.height) {
                return false;
            }
        }
        return true;
    }

    private int beginnings(Made m, int s, int time) {
        int n = 0;
        while ((time + n) / 24 == time / 24 && high(m, s, time + n, m.length)) {
            n++;
        }
        return n;
    }

    private boolean suits(Made m, int s, int time, int slots) {
        int night = time / 24;
        int seeing = seeingOf(s, time);
        int calibration = calibrationOf(s, m.instrument, night);
        boolean dark = lightOf(night) <= m.light
                || angle(12 * night % 360, m.ra) >= 60 || Math.abs(m.dec) >= 60;
        return high(m, s, time, slots) && seeing > 0 && seeing <= m.seeing && dark
                && instrumentOf(s, night) == m.instrument && calibration >= 0 && night - calibration <= 6;
    }

    private static void index(boolean there) {
        if (!there) {
            throw new IndexOutOfBoundsException();
        }
    }

    private static void range(boolean inside) {
        if (!inside) {
            throw new IllegalArgumentException();
        }
    }

    private static void state(boolean fits) {
        if (!fits) {
            throw new IllegalStateException();
        }
    }

    private static boolean in(int value, int least, int most) {
        return least <= value && value <= most;
    }

    private static boolean slots(int site, int night, int from, int to) {
        return in(site, 0, 2) && in(night, 0, 29) && in(from, 0, 23) && in(to, 0, 23);
    }

    /** The answer of a call by its name and arguments, a boolean as 1 or 0, and 0 of void. */
    long call(String name, int[] a) {
        switch (name) {
            case "place":
                index(in(a[0], 0, 2));
                range(in(a[1], -60, 60) && in(a[2], 0, 359));
                place[a[0]] = new int[] {a[1], a[2]};
                return 0;
            case "moon":
                range(in(a[0], 0, 29));
                int oldPhase = phase;
                phase = a[0];
                return oldPhase;
            case "weather":
                index(slots(a[0], a[1], a[2], a[3]));
                range(a[2] <= a[3] && in(a[4], 0, 50));
                weather.add(a);
                return 0;
            case "fault":
                index(slots(a[0], a[1], a[2], a[3]));
                range(a[2] <= a[3]);
                faults.add(a);
                return 0;
            case "mount":
                index(in(a[0], 0, 2) && in(a[1], 0, 29) && in(a[2], 0, 2));
                state(world.now <= 24 * a[1]);
                int oldInstrument = instrumentOf(a[0], a[1]);
                mounts.add(a);
                return oldInstrument;
            case "calibrate":
                index(in(a[0], 0, 2) && in(a[1], 0, 2) && in(a[2], 0, 29));
                boolean told = calibrated[a[0]][a[1]][a[2]];
                calibrated[a[0]][a[1]][a[2]] = true;
                return told ? 0 : 1;
            case "height":
                index(slots(a[0], a[1], a[2], a[2]));
                range(in(a[3], 0, 359) && in(a[4], -90, 90));
                return heightOf(a[0], a[1] * 24 + a[2], a[3], a[4]);
            case "light":
                index(in(a[0], 0, 29));
                return lightOf(a[0]);
            case "seeing":
                index(slots(a[0], a[1], a[2], a[2]));
                return seeingOf(a[0], a[1] * 24 + a[2]);
            case "share":
                index(in(a[0], 0, 3));
                range(in(a[1], 0, 100));
                int oldShare = share[a[0]];
                share[a[0]] = a[1];
                return oldShare;
            case "proposal":
                index(in(a[0], 0, 3));
                range(in(a[1], 0, 9) && in(a[2], 0, 100) && in(a[3], 0, 30));
                state(proposals.size() < 8);
                proposals.add(a);
                return proposals.size() - 1;
            case "target":
                return target(a);
            case "series":
                index(in(a[0], 0, targets.size() - 1) && in(a[1], 0, 29));
                range(in(a[2], 1, 30) && in(a[3], 0, 5) && 2 * a[3] < a[2]);
                state(targets.get(a[0]).series == null);
                targets.get(a[0]).series = new int[] {a[1], a[2], a[3]};
                return 0;
            case "alert":
                return alert(a);
            default:
                return asked(name, a);
        }
    }

    private long target(int[] a) {
        index(in(a[0], 0, proposals.size() - 1) && in(a[4], 0, 2));
        range(in(a[1], 0, 359) && in(a[2], -90, 90) && in(a[3], 1, 6) && in(a[5], 0, 90)
                && in(a[6], 0, 100) && in(a[7], 1, 50) && in(a[8], 1, 10));
        state(targets.size() < 24);
        Made m = new Made();
        m.kind = 1;
        m.number = targets.size();
        m.proposal = a[0];
        m.group = proposals.get(a[0])[0];
        m.ra = a[1];
        m.dec = a[2];
        m.length = a[3];
        m.instrument = a[4];
        m.height = a[5];
        m.light = a[6];
        m.seeing = a[7];
        m.visits = a[8];
        targets.add(m);
        return m.number;
    }

    private long alert(int[] a) {
        index(in(a[0], 0, 3) && in(a[5], 0, 2) && slots(0, a[6], a[7], a[8]));
        range(in(a[1], 1, 9) && in(a[2], 0, 359) && in(a[3], -90, 90) && in(a[4], 1, 6) && a[7] <= a[8]);
        state(alerts.size() < 10);
        Made m = new Made();
        m.kind = 2;
        m.number = alerts.size();
        m.group = a[0];
        m.urgency = a[1];
        m.ra = a[2];
        m.dec = a[3];
        m.length = a[4];
        m.instrument = a[5];
        m.height = 30;
        m.light = 100;
        m.seeing = 50;
        m.from = a[6] * 24 + a[7];
        m.to = a[6] * 24 + a[8];
        alerts.add(m);
        return m.number;
    }

    private long asked(String name, int[] a) {
        World w = world;
        switch (name) {
            case "wants":
                index(in(a[0], 0, targets.size() - 1) && in(a[1], 0, 29));
                return w.wants(targets.get(a[0]), a[1]) ? 1 : 0;
            case "chances":
                index(in(a[0], 0, targets.size() - 1) && in(a[1], 0, 2) && in(a[2], 0, 29));
                return chances(targets.get(a[0]), a[1], a[2]);
            case "run":
                range(in(a[0], 1, 48));
                int from = w.now;
                while (w.now < 720 && w.now < from + a[0]) {
                    w.slot();
                }
                return w.now - from;
            case "now":
                return w.now;
            case "goingOn":
                index(in(a[0], 0, 2));
                range(in(a[1], 0, 2));
                Visit v = w.on[a[0]];
                int[] told = v == null ? new int[] {0, -1, 0} : new int[] {v.of.kind, v.of.number, v.slots.size()};
                return told[a[1]];
            case "waiting":
                return w.waiting.size();
            case "visits":
                index(in(a[0], 0, targets.size() - 1));
                return w.good(targets.get(a[0]));
            case "served":
                index(in(a[0], 0, alerts.size() - 1));
                return w.good(alerts.get(a[0]));
            case "slots":
                index(in(a[0], 0, 3));
                return a[1] == 1 ? w.back[a[0]] : w.counted(a[0]);
            case "lost":
                index(in(a[0], 0, 2));
                return w.lost[a[0]][a[1]];
            case "data":
                return w.data.size();
            case "datum":
                index(in(a[0], 0, w.data.size() - 1));
                range(in(a[1], 0, 6));
                return w.data.get(a[0])[a[1]];
            case "reads":
                index(in(a[0], 0, 3) && in(a[1], 0, w.data.size() - 1) && in(a[2], 0, 29));
                return reads(a[0], w.data.get(a[1]), a[2]) ? 1 : 0;
            case "replay":
                index(in(a[0], 0, 29));
                state(w.now > 24 * a[0]);
                return replay(a[0]);
            case "bestOrder":
                index(in(a[0], 0, 2) && in(a[1], 0, 29));
                return bestOrder(a[0], a[1]);
            default:
                throw new UnsupportedOperationException(name);
        }
    }

    private int chances(Made m, int s, int night) {
        int n = 0;
        for (int slot = 0; slot < 24; slot++) {
            n += suits(m, s, night * 24 + slot, m.length) ? 1 : 0;
        }
        return n;
    }

    private boolean reads(int group, int[] datum, int night) {
        int made = datum[3] / 24;
        if (night < made) {
            return false;
        }
        if (datum[0] == 2) {
            return true;
        }
        int[] proposal = proposals.get(targets.get(datum[1]).proposal);
        return proposal[0] == group || night > made + proposal[3];
    }

    private int replay(int night) {
        World again = new World();
        again.now = night * 24;
        for (Event e : world.events) {
            if (e.time < night * 24) {
                again.events.add(e);
            }
        }
        for (int slot = 0; slot < 24; slot++) {
            again.slot();
        }
        int n = 0;
        for (Event e : again.events) {
            n += e.good && e.time >= night * 24 ? 1 : 0;
        }
        return n;
    }

    private int bestOrder(int s, int night) {
        List<Made> few = new ArrayList<>();
        for (Made m : targets) {
            if (few.size() < 5 && world.wants(m, night) && chances(m, s, night) > 0) {
                few.add(m);
            }
        }
        return best(few, s, night, 0);
    }

    private int best(List<Made> left, int s, int night, int slot) {
        int most = 0;
        for (Made m : left) {
            List<Made> others = new ArrayList<>(left);
            others.remove(m);
            int begin = slot;
            while (begin < 24 && !suits(m, s, night * 24 + begin, m.length)) {
                begin++;
            }
            int filled = begin < 24
                    ? m.length + best(others, s, night, begin + m.length) : best(others, s, night, slot);
            most = Math.max(most, filled);
        }
        return most;
    }
}
