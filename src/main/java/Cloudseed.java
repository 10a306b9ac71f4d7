/** A planner of telescopes on three sites. What each call promises is told in ../shared/DOC.md. */
public final class Cloudseed {
    public static final int NONE = -1;
    public static final int IDLE = 0, TARGET = 1, ALERT = 2;

    private static final int SITES = 3;
    private static final int NIGHTS = 30;
    private static final int SLOTS = 24;
    private static final int ALL_SLOTS = NIGHTS * SLOTS;
    private static final int GROUPS = 4;
    private static final int INSTRUMENTS = 3;
    private static final int CIRCLE = 360;
    private static final int MOST_PROPOSALS = 8;
    private static final int MOST_TARGETS = 24;
    private static final int MOST_ALERTS = 10;
    private static final int MOST_DATA = 100;
    private static final int DATUM_PARTS = 7;
    private static final int MOST_RUN = 48;
    private static final int MOST_ORDERED = 5;
    private static final int OLDEST_CALIBRATION = 6;
    private static final int FAR_FROM_MOON = 60;
    private static final int USUAL_SEEING = 10;
    private static final int WORST_SEEING = 50;

    private final Plan plan;
    private final Course live;
    // Made once and used by every replay, since a call should make no objects.
    private final Course again;
    private final Book[] starts;
    private final int[] few;
    private final int[] ends;

    public Cloudseed() {
        plan = new Plan();
        live = new Course(plan);
        again = new Course(plan);
        starts = new Book[NIGHTS];
        for (int night = 0; night < NIGHTS; night++) {
            starts[night] = new Book();
        }
        few = new int[MOST_ORDERED];
        ends = new int[1 << MOST_ORDERED];
    }

    // ---- sites, sky, weather

    public void place(int site, int latitude, int longitude)
            throws IndexOutOfBoundsException, IllegalArgumentException {
        needIndex(site, SITES);
        needRange(latitude, -60, 60);
        needRange(longitude, 0, CIRCLE - 1);
        plan.sites[site].latitude = latitude;
        plan.sites[site].longitude = longitude;
    }

    public int moon(int phase) throws IllegalArgumentException {
        needRange(phase, 0, 29);
        int before = plan.phase;
        plan.phase = phase;
        return before;
    }

    public void weather(int site, int night, int from, int to, int seeing)
            throws IndexOutOfBoundsException, IllegalArgumentException {
        needSlots(site, night, from, to);
        needOrder(from, to);
        needRange(seeing, 0, WORST_SEEING);
        int[] told = plan.sites[site].toldSeeing;
        for (int slot = from; slot <= to; slot++) {
            told[night * SLOTS + slot] = seeing;
        }
    }

    public void fault(int site, int night, int from, int to)
            throws IndexOutOfBoundsException, IllegalArgumentException {
        needSlots(site, night, from, to);
        needOrder(from, to);
        boolean[] faulty = plan.sites[site].faulty;
        for (int slot = from; slot <= to; slot++) {
            faulty[night * SLOTS + slot] = true;
        }
    }

    public int mount(int site, int night, int instrument)
            throws IndexOutOfBoundsException, IllegalStateException {
        needIndex(site, SITES);
        needIndex(night, NIGHTS);
        needIndex(instrument, INSTRUMENTS);
        needState(live.now <= night * SLOTS);
        int before = plan.sites[site].instruments[night];
        plan.sites[site].useFrom(night, instrument);
        return before;
    }

    public boolean calibrate(int site, int instrument, int night) throws IndexOutOfBoundsException {
        needIndex(site, SITES);
        needIndex(instrument, INSTRUMENTS);
        needIndex(night, NIGHTS);
        boolean[] calibrated = plan.sites[site].calibrated;
        boolean isNew = !calibrated[instrument * NIGHTS + night];
        calibrated[instrument * NIGHTS + night] = true;
        return isNew;
    }

    public int height(int site, int night, int slot, int ra, int dec)
            throws IndexOutOfBoundsException, IllegalArgumentException {
        needSlots(site, night, slot, slot);
        needSky(ra, dec);
        return plan.sites[site].heightAt(night * SLOTS + slot, ra, dec);
    }

    public int light(int night) throws IndexOutOfBoundsException {
        needIndex(night, NIGHTS);
        return plan.moonLight(night);
    }

    public int seeing(int site, int night, int slot) throws IndexOutOfBoundsException {
        needSlots(site, night, slot, slot);
        return plan.sites[site].seeingAt(night * SLOTS + slot);
    }

    // ---- groups, proposals, targets, alerts

    public int share(int group, int share) throws IndexOutOfBoundsException, IllegalArgumentException {
        needIndex(group, GROUPS);
        needRange(share, 0, 100);
        int before = plan.shares[group];
        plan.shares[group] = share;
        return before;
    }

    public int proposal(int group, int rank, int quality, int nights)
            throws IndexOutOfBoundsException, IllegalArgumentException, IllegalStateException {
        needIndex(group, GROUPS);
        needRange(rank, 0, 9);
        needRange(quality, 0, 100);
        needRange(nights, 0, 30);
        needState(plan.proposalCount < MOST_PROPOSALS);
        int number = plan.proposalCount++;
        Proposal made = plan.proposals[number];
        made.group = group;
        made.rank = rank;
        made.leastQuality = quality;
        made.privateNights = nights;
        return number;
    }

    public int target(int proposal, int ra, int dec, int length, int instrument,
            int height, int light, int seeing, int visits)
            throws IndexOutOfBoundsException, IllegalArgumentException, IllegalStateException {
        needIndex(proposal, plan.proposalCount);
        needIndex(instrument, INSTRUMENTS);
        needSky(ra, dec);
        needRange(length, 1, 6);
        needRange(height, 0, 90);
        needRange(light, 0, 100);
        needRange(seeing, 1, WORST_SEEING);
        needRange(visits, 1, 10);
        needState(plan.targetCount < MOST_TARGETS);
        int number = plan.targetCount++;
        Target made = plan.targets[number];
        made.aimAt(ra, dec, length, instrument);
        made.number = number;
        made.proposal = proposal;
        made.group = plan.proposals[proposal].group;
        made.leastQuality = plan.proposals[proposal].leastQuality;
        made.leastHeight = height;
        made.mostLight = light;
        made.mostSeeing = seeing;
        made.visitsAsked = visits;
        return number;
    }

    public void series(int target, int first, int period, int tolerance)
            throws IndexOutOfBoundsException, IllegalArgumentException, IllegalStateException {
        needIndex(target, plan.targetCount);
        needIndex(first, NIGHTS);
        needRange(period, 1, 30);
        needRange(tolerance, 0, 5);
        // Less than half of the period, without the half that would be rounded.
        needRange(2 * tolerance, 0, period - 1);
        Target changed = plan.targets[target];
        needState(!changed.isSeries);
        changed.isSeries = true;
        changed.firstNight = first;
        changed.period = period;
        changed.tolerance = tolerance;
    }

    public int alert(int group, int urgency, int ra, int dec, int length, int instrument,
            int night, int from, int to)
            throws IndexOutOfBoundsException, IllegalArgumentException, IllegalStateException {
        needIndex(group, GROUPS);
        needIndex(instrument, INSTRUMENTS);
        needIndex(night, NIGHTS);
        needIndex(from, SLOTS);
        needIndex(to, SLOTS);
        needRange(urgency, 1, 9);
        needSky(ra, dec);
        needRange(length, 1, 6);
        needOrder(from, to);
        needState(plan.alertCount < MOST_ALERTS);
        int number = plan.alertCount++;
        Alert made = plan.alerts[number];
        made.aimAt(ra, dec, length, instrument);
        made.group = group;
        made.urgency = urgency;
        made.firstTime = night * SLOTS + from;
        made.lastTime = night * SLOTS + to;
        return number;
    }

    public boolean wants(int target, int night) throws IndexOutOfBoundsException {
        needIndex(target, plan.targetCount);
        needIndex(night, NIGHTS);
        return live.book.isWanted(plan.targets[target], night);
    }

    public int chances(int target, int site, int night) throws IndexOutOfBoundsException {
        needIndex(target, plan.targetCount);
        needIndex(site, SITES);
        needIndex(night, NIGHTS);
        Target asked = plan.targets[target];
        int count = 0;
        for (int slot = 0; slot < SLOTS; slot++) {
            if (plan.suits(asked, plan.sites[site], night * SLOTS + slot, asked.length)) {
                count++;
            }
        }
        return count;
    }

    // ---- running

    public int run(int slots) throws IllegalArgumentException {
        needRange(slots, 1, MOST_RUN);
        int count = 0;
        while (count < slots && live.now < ALL_SLOTS) {
            if (live.now % SLOTS == 0) {
                starts[live.now / SLOTS].copyFrom(live.book);
            }
            live.runSlot();
            count++;
        }
        return count;
    }

    public int now() {
        return live.now;
    }

    public int goingOn(int site, int what) throws IndexOutOfBoundsException, IllegalArgumentException {
        needIndex(site, SITES);
        needRange(what, 0, 2);
        Visit visit = live.onSite[site];
        if (what == 0) {
            return visit.kind;
        }
        return what == 1 ? visit.number : visit.had;
    }

    public int waiting() {
        int count = 0;
        for (int target = 0; target < MOST_TARGETS; target++) {
            if (live.broken[target].kind != IDLE) {
                count++;
            }
        }
        return count;
    }

    public int visits(int target) throws IndexOutOfBoundsException {
        needIndex(target, plan.targetCount);
        return live.book.goodVisits[target];
    }

    public boolean served(int alert) throws IndexOutOfBoundsException {
        needIndex(alert, plan.alertCount);
        return live.book.servedAlerts[alert];
    }

    public int slots(int group, boolean back) throws IndexOutOfBoundsException {
        needIndex(group, GROUPS);
        return back ? live.givenBack[group] : live.book.countedSlots[group];
    }

    public int lost(int site, boolean closed) throws IndexOutOfBoundsException {
        needIndex(site, SITES);
        return closed ? live.closedSlots[site] : live.idleSlots[site];
    }

    // ---- data

    public int data() {
        return live.archive.count;
    }

    public int datum(int data, int what) throws IndexOutOfBoundsException, IllegalArgumentException {
        needIndex(data, live.archive.count);
        needRange(what, 0, DATUM_PARTS - 1);
        return live.archive.parts[data * DATUM_PARTS + what];
    }

    public boolean reads(int group, int data, int night) throws IndexOutOfBoundsException {
        needIndex(group, GROUPS);
        needIndex(data, live.archive.count);
        needIndex(night, NIGHTS);
        int[] parts = live.archive.parts;
        int age = night - parts[data * DATUM_PARTS + 3] / SLOTS;
        if (age < 0) {
            return false;
        }
        if (parts[data * DATUM_PARTS] == ALERT) {
            return true;
        }
        Target target = plan.targets[parts[data * DATUM_PARTS + 1]];
        return group == target.group || age > plan.proposals[target.proposal].privateNights;
    }

    // ---- nights again, orders

    public int replay(int night) throws IndexOutOfBoundsException, IllegalStateException {
        needIndex(night, NIGHTS);
        needState(live.now > night * SLOTS);
        again.restart(night, starts[night]);
        for (int slot = 0; slot < SLOTS; slot++) {
            again.runSlot();
        }
        return again.goodDone;
    }

    public int bestOrder(int site, int night) throws IndexOutOfBoundsException {
        needIndex(site, SITES);
        needIndex(night, NIGHTS);
        int count = 0;
        for (int t = 0; t < plan.targetCount && count < MOST_ORDERED; t++) {
            Target target = plan.targets[t];
            if (live.book.isWanted(target, night)
                    && plan.firstBegin(target, plan.sites[site], night, 0) != NONE) {
                few[count] = t;
                count++;
            }
        }
        return mostFilled(plan.sites[site], night, count);
    }

    /**
     * The most slots that the first few targets fill. Only the earliest end of each set of them is
     * kept: an earlier end never makes the next beginning later, so the best order is not missed,
     * and targets that an order leaves out could stand behind all others in it.
     */
    private int mostFilled(Site site, int night, int count) {
        int best = 0;
        ends[0] = 0;
        for (int set = 1; set < 1 << count; set++) {
            int filled = 0;
            int end = NONE;
            for (int i = 0; i < count; i++) {
                if ((set & 1 << i) == 0) {
                    continue;
                }
                Target last = plan.targets[few[i]];
                filled += last.length;
                int ahead = ends[set ^ 1 << i];
                int begin = ahead == NONE ? NONE : plan.firstBegin(last, site, night, ahead);
                if (begin != NONE && (end == NONE || begin + last.length < end)) {
                    end = begin + last.length;
                }
            }
            ends[set] = end;
            if (end != NONE && filled > best) {
                best = filled;
            }
        }
        return best;
    }

    private static int angle(int one, int other) {
        int apart = Math.abs(one - other) % CIRCLE;
        return Math.min(apart, CIRCLE - apart);
    }

    private static void needIndex(int index, int count) {
        if (index < 0 || index >= count) {
            throw new IndexOutOfBoundsException("there is no such number");
        }
    }

    private static void needSlots(int site, int night, int from, int to) {
        needIndex(site, SITES);
        needIndex(night, NIGHTS);
        needIndex(from, SLOTS);
        needIndex(to, SLOTS);
    }

    private static void needRange(int value, int least, int most) {
        if (value < least || value > most) {
            throw new IllegalArgumentException("an argument is out of range");
        }
    }

    private static void needOrder(int from, int to) {
        if (to < from) {
            throw new IllegalArgumentException("the last slot is ahead of the first one");
        }
    }

    private static void needSky(int ra, int dec) {
        needRange(ra, 0, CIRCLE - 1);
        needRange(dec, -90, 90);
    }

    private static void needState(boolean holds) {
        if (!holds) {
            throw new IllegalStateException("this can't be done now");
        }
    }

    /** A telescope: where it stands, and what was told of its weather and instruments. */
    private static final class Site {
        int latitude;
        int longitude;
        final int[] toldSeeing = new int[ALL_SLOTS];
        // Beside the weather, since weather that is told later does not mend a fault.
        final boolean[] faulty = new boolean[ALL_SLOTS];
        final int[] instruments = new int[NIGHTS];
        final boolean[] changed = new boolean[NIGHTS];
        final boolean[] calibrated = new boolean[INSTRUMENTS * NIGHTS];

        Site(int firstLongitude) {
            longitude = firstLongitude;
            for (int time = 0; time < ALL_SLOTS; time++) {
                toldSeeing[time] = USUAL_SEEING;
            }
        }

        void useFrom(int night, int instrument) {
            changed[night] = true;
            instruments[night] = instrument;
            for (int later = night + 1; later < NIGHTS && !changed[later]; later++) {
                instruments[later] = instrument;
            }
        }

        /** 0 where the site is closed. */
        int seeingAt(int time) {
            return faulty[time] ? 0 : toldSeeing[time];
        }

        int newestCalibration(int instrument, int night) {
            for (int told = night; told >= 0; told--) {
                if (calibrated[instrument * NIGHTS + told]) {
                    return told;
                }
            }
            return NONE;
        }

        int heightAt(int time, int ra, int dec) {
            int meridian = (longitude + time / SLOTS + 5 * (time % SLOTS)) % CIRCLE;
            int across = angle(meridian, ra);
            int along = Math.abs(dec - latitude);
            return 90 - Math.max(across, along) - Math.min(across, along) / 2;
        }

        /** In how many slots of the night, one behind the other from this one on, the aim is high enough. */
        int highSlots(Aim aim, int time, int most) {
            int untilDawn = SLOTS - time % SLOTS;
            int count = 0;
            while (count < most && count < untilDawn
                    && heightAt(time + count, aim.ra, aim.dec) >= aim.leastHeight) {
                count++;
            }
            return count;
        }
    }

    private static final class Proposal {
        int group;
        int rank;
        int leastQuality;
        int privateNights;
    }

    /** What targets and alerts have in common; it begins with what holds for every alert. */
    private static class Aim {
        int group;
        int ra;
        int dec;
        int length;
        int instrument;
        int leastHeight = 30;
        int mostLight = 100;
        int mostSeeing = WORST_SEEING;
        int leastQuality;

        final void aimAt(int newRa, int newDec, int newLength, int newInstrument) {
            ra = newRa;
            dec = newDec;
            length = newLength;
            instrument = newInstrument;
        }
    }

    private static final class Target extends Aim {
        int number;
        int proposal;
        int visitsAsked;
        boolean isSeries;
        int firstNight;
        int period;
        int tolerance;
    }

    private static final class Alert extends Aim {
        int urgency;
        int firstTime;
        int lastTime;
    }

    /** All that was told: a replay reads the same plan as the nights that are run. */
    private static final class Plan {
        final Site[] sites = new Site[SITES];
        final int[] shares = new int[GROUPS];
        final Proposal[] proposals = new Proposal[MOST_PROPOSALS];
        final Target[] targets = new Target[MOST_TARGETS];
        final Alert[] alerts = new Alert[MOST_ALERTS];
        int phase;
        int proposalCount;
        int targetCount;
        int alertCount;

        Plan() {
            for (int i = 0; i < SITES; i++) {
                sites[i] = new Site(120 * i);
            }
            for (int i = 0; i < GROUPS; i++) {
                shares[i] = 25;
            }
            for (int i = 0; i < MOST_PROPOSALS; i++) {
                proposals[i] = new Proposal();
            }
            for (int i = 0; i < MOST_TARGETS; i++) {
                targets[i] = new Target();
            }
            for (int i = 0; i < MOST_ALERTS; i++) {
                alerts[i] = new Alert();
            }
        }

        int moonLight(int night) {
            int age = (night + phase) % 30;
            return 100 - Math.abs(15 - age) * 100 / 15;
        }

        boolean isFarFromMoon(Aim aim, int night) {
            int moonRa = 12 * night % CIRCLE;
            return Math.max(angle(moonRa, aim.ra), Math.abs(aim.dec)) >= FAR_FROM_MOON;
        }

        boolean suits(Aim aim, Site site, int time, int slots) {
            int night = time / SLOTS;
            if (time % SLOTS + slots > SLOTS || site.instruments[night] != aim.instrument) {
                return false;
            }
            int seen = site.seeingAt(time);
            if (seen == 0 || seen > aim.mostSeeing) {
                return false;
            }
            int calibration = site.newestCalibration(aim.instrument, night);
            if (calibration == NONE || night - calibration > OLDEST_CALIBRATION) {
                return false;
            }
            return (moonLight(night) <= aim.mostLight || isFarFromMoon(aim, night))
                    && site.highSlots(aim, time, slots) == slots;
        }

        /** The first slot of the night, not ahead of the given one, in which the aim suits the site. */
        int firstBegin(Aim aim, Site site, int night, int earliest) {
            for (int slot = earliest; slot < SLOTS; slot++) {
                if (suits(aim, site, night * SLOTS + slot, aim.length)) {
                    return slot;
                }
            }
            return NONE;
        }
    }

    /** What a night finds done by the nights ahead of it. */
    private static final class Book {
        final int[] goodVisits = new int[MOST_TARGETS];
        // A bit for each night in which, and for each visit of a series for which, a good one was made.
        final int[] goodNights = new int[MOST_TARGETS];
        final int[] goodPhases = new int[MOST_TARGETS];
        final boolean[] servedAlerts = new boolean[MOST_ALERTS];
        final int[] countedSlots = new int[GROUPS];

        void copyFrom(Book other) {
            System.arraycopy(other.goodVisits, 0, goodVisits, 0, MOST_TARGETS);
            System.arraycopy(other.goodNights, 0, goodNights, 0, MOST_TARGETS);
            System.arraycopy(other.goodPhases, 0, goodPhases, 0, MOST_TARGETS);
            System.arraycopy(other.countedSlots, 0, countedSlots, 0, GROUPS);
            for (int alert = 0; alert < MOST_ALERTS; alert++) {
                servedAlerts[alert] = other.servedAlerts[alert];
            }
        }

        boolean isWanted(Target target, int night) {
            if (target.isSeries) {
                return openPhase(target, night) != NONE;
            }
            return goodVisits[target.number] < target.visitsAsked
                    && (goodNights[target.number] & 1 << night) == 0;
        }

        int openPhase(Target target, int night) {
            for (int j = 0; j < target.visitsAsked; j++) {
                int away = Math.abs(night - target.firstNight - j * target.period);
                if (away <= target.tolerance && (goodPhases[target.number] & 1 << j) == 0) {
                    return j;
                }
            }
            return NONE;
        }

        void addGood(Target target, int night) {
            // A series can lack one: it may have been made one while the visit went on.
            int phase = target.isSeries ? openPhase(target, night) : NONE;
            if (phase != NONE) {
                goodPhases[target.number] |= 1 << phase;
            }
            goodVisits[target.number]++;
            goodNights[target.number] |= 1 << night;
        }

        int allCounted() {
            int sum = 0;
            for (int group = 0; group < GROUPS; group++) {
                sum += countedSlots[group];
            }
            return sum;
        }
    }

    private static final class Visit {
        int kind = IDLE;
        int number = NONE;
        int had;
        int worstSeeing;
        int brokenOff;

        void begin(int newKind, int newNumber) {
            kind = newKind;
            number = newNumber;
            had = 0;
            worstSeeing = 0;
        }

        void clear() {
            begin(IDLE, NONE);
        }

        void takeOver(Visit other) {
            kind = other.kind;
            number = other.number;
            had = other.had;
            worstSeeing = other.worstSeeing;
            other.clear();
        }
    }

    /** The data that are kept, each with its parts in the order in which they are asked. */
    private static final class Archive {
        final int[] parts = new int[MOST_DATA * DATUM_PARTS];
        int count;

        void keep(Visit visit, int site, int time, int quality, boolean good, int calibration) {
            if (count >= MOST_DATA) {
                return;
            }
            int at = count * DATUM_PARTS;
            parts[at] = visit.kind;
            parts[at + 1] = visit.number;
            parts[at + 2] = site;
            parts[at + 3] = time;
            parts[at + 4] = quality;
            parts[at + 5] = good ? 1 : 0;
            parts[at + 6] = calibration;
            count++;
        }
    }

    /** The running of slots by a plan: once for the nights themselves, once for their replays. */
    private static final class Course {
        final Plan plan;
        final Book book = new Book();
        final Archive archive = new Archive();
        final Visit[] onSite = new Visit[SITES];
        final Visit[] broken = new Visit[MOST_TARGETS];
        final int[] givenBack = new int[GROUPS];
        final int[] closedSlots = new int[SITES];
        final int[] idleSlots = new int[SITES];
        int now;
        int goodDone;

        Course(Plan toldPlan) {
            plan = toldPlan;
            for (int site = 0; site < SITES; site++) {
                onSite[site] = new Visit();
            }
            for (int target = 0; target < MOST_TARGETS; target++) {
                broken[target] = new Visit();
            }
        }

        /** Visits need no clearing: a replay runs whole nights, behind which none goes on or waits. */
        void restart(int night, Book start) {
            book.copyFrom(start);
            archive.count = 0;
            now = night * SLOTS;
            goodDone = 0;
        }

        void runSlot() {
            for (int site = 0; site < SITES; site++) {
                Visit visit = onSite[site];
                if (plan.sites[site].seeingAt(now) == 0) {
                    breakOff(visit);
                    closedSlots[site]++;
                    continue;
                }
                beginAlert(visit, plan.sites[site]);
                if (visit.kind == IDLE) {
                    resume(visit, plan.sites[site]);
                }
                if (visit.kind == IDLE) {
                    beginTarget(visit, plan.sites[site]);
                }
                if (visit.kind == IDLE) {
                    idleSlots[site]++;
                } else {
                    observe(visit, site);
                }
            }
            now++;
            if (now % SLOTS == 0) {
                endNight();
            }
        }

        void breakOff(Visit visit) {
            if (visit.kind == TARGET) {
                Visit waits = broken[visit.number];
                waits.takeOver(visit);
                waits.brokenOff = now;
            } else {
                lose(visit);
            }
        }

        void lose(Visit visit) {
            if (visit.kind != IDLE) {
                givenBack[aimOf(visit).group] += visit.had;
                visit.clear();
            }
        }

        Aim aimOf(Visit visit) {
            return visit.kind == TARGET ? plan.targets[visit.number] : plan.alerts[visit.number];
        }

        boolean isObserved(int kind, int number) {
            for (int site = 0; site < SITES; site++) {
                if (onSite[site].kind == kind && onSite[site].number == number) {
                    return true;
                }
            }
            return false;
        }

        void beginAlert(Visit visit, Site site) {
            int best = NONE;
            // Less urgent ones than the alert that goes on would not push it aside.
            int urgency = visit.kind == ALERT ? plan.alerts[visit.number].urgency : 0;
            for (int a = 0; a < plan.alertCount; a++) {
                Alert alert = plan.alerts[a];
                if (alert.urgency > urgency && alert.firstTime <= now
                        && now + alert.length - 1 <= alert.lastTime
                        && !book.servedAlerts[a] && !isObserved(ALERT, a)
                        && plan.suits(alert, site, now, alert.length)) {
                    best = a;
                    urgency = alert.urgency;
                }
            }
            if (best != NONE) {
                lose(visit);
                visit.begin(ALERT, best);
            }
        }

        void resume(Visit visit, Site site) {
            int best = NONE;
            for (int t = 0; t < plan.targetCount; t++) {
                Visit waits = broken[t];
                Target target = plan.targets[t];
                if (waits.kind != IDLE
                        && (best == NONE || waits.brokenOff < broken[best].brokenOff)
                        && plan.suits(target, site, now, target.length - waits.had)) {
                    best = t;
                }
            }
            if (best != NONE) {
                visit.takeOver(broken[best]);
            }
        }

        void beginTarget(Visit visit, Site site) {
            int best = NONE;
            int fewest = 0;
            for (int t = 0; t < plan.targetCount; t++) {
                Target target = plan.targets[t];
                if (!book.isWanted(target, now / SLOTS) || broken[t].kind != IDLE
                        || isObserved(TARGET, t) || !plan.suits(target, site, now, target.length)) {
                    continue;
                }
                int order = best == NONE ? 1 : compare(target.proposal, plan.targets[best].proposal);
                if (order < 0) {
                    continue;
                }
                // All have a beginning for each slot but the last ones of their length.
                int begins = site.highSlots(target, now, SLOTS) - target.length + 1;
                if (order > 0 || begins < fewest) {
                    best = t;
                    fewest = begins;
                }
            }
            if (best != NONE) {
                visit.begin(TARGET, best);
            }
        }

        /** Above 0 if the first proposal comes ahead of the other one, below 0 if behind it. */
        int compare(int one, int other) {
            Proposal first = plan.proposals[one];
            Proposal second = plan.proposals[other];
            if (first.group != second.group) {
                int more = Integer.compare(arrears(first.group), arrears(second.group));
                return more != 0 ? more : second.group - first.group;
            }
            return first.rank != second.rank ? first.rank - second.rank : other - one;
        }

        int arrears(int group) {
            return plan.shares[group] * book.allCounted() - 100 * book.countedSlots[group];
        }

        void observe(Visit visit, int site) {
            visit.had++;
            visit.worstSeeing = Math.max(visit.worstSeeing, plan.sites[site].seeingAt(now));
            if (visit.had >= aimOf(visit).length) {
                finish(visit, site);
            }
        }

        void finish(Visit visit, int site) {
            Aim aim = aimOf(visit);
            int night = now / SLOTS;
            int calibration = plan.sites[site].newestCalibration(aim.instrument, night);
            int quality = Math.max(0, 100 - visit.worstSeeing - 5 * (night - calibration));
            boolean good = quality >= aim.leastQuality;
            archive.keep(visit, site, now, quality, good, calibration);
            book.countedSlots[aim.group] += visit.had;
            if (visit.kind == ALERT) {
                book.servedAlerts[visit.number] = true;
            } else if (good) {
                book.addGood(plan.targets[visit.number], night);
            }
            goodDone += good ? 1 : 0;
            visit.clear();
        }

        void endNight() {
            for (int site = 0; site < SITES; site++) {
                lose(onSite[site]);
            }
            for (int target = 0; target < MOST_TARGETS; target++) {
                lose(broken[target]);
            }
        }
    }
}
