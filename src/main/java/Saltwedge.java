/**
 * A mouth where a river meets the sea: sections with two layers, tides, surges, salt, mud, a barrier, intakes,
 * oysters, dredging and windows for keels.
 */
public final class Saltwedge {
    public static final int NONE = -1;

    private static final int MOST_TURNS = 6;
    private static final int MOST_SURGES = 20;
    private static final int MOST_SECTIONS = 8;
    private static final int MOST_INTAKES = 6;
    private static final int MOST_OYSTERS = 6;
    private static final int MOST_HOURS = 1000;
    private static final int MOST_CALLS = 512;
    private static final int OYSTER_HOURS = 24;
    private static final int LAST_HOUR = 2000;
    private static final int WINDOW_HOURS = 100;
    private static final int MOST_WATER = 10000;
    private static final int MOST_FLOW = 500;
    private static final int MOST_GRAIN = 30;
    private static final int FIRST_MEAN = 50;
    private static final int SEA_SALT = 30;

    private static final int TELL_TURN = 0;
    private static final int TELL_MEAN = 1;
    private static final int TELL_SURGE = 2;
    private static final int TELL_RIVER = 3;
    private static final int TELL_BARRIER = 4;
    private static final int TELL_SECTION = 5;
    private static final int TELL_INTAKE = 6;
    private static final int TELL_PERMIT = 7;
    private static final int TELL_DREDGE = 8;

    private static final int SUMS = 10;
    private static final int SUM_SEA_IN = 0;
    private static final int SUM_SEA_OUT = 1;
    private static final int SUM_RIVER = 2;
    private static final int SUM_TAKEN = 3;
    private static final int SUM_SALT_IN = 4;
    private static final int SUM_SALT_OUT = 5;
    private static final int SUM_SALT_TAKEN = 6;
    private static final int SUM_SILT = 7;
    private static final int SUM_CLOUD_OUT = 8;
    private static final int SUM_DREDGED = 9;

    private final Mouth live;
    private final Mouth anew;
    private final Told told;
    private final Oysters[] oysters;
    private int oysterCount;

    public Saltwedge() {
        live = new Mouth();
        anew = new Mouth();
        told = new Told();
        oysters = new Oysters[MOST_OYSTERS];
        for (int i = 0; i < oysters.length; i++) {
            oysters[i] = new Oysters();
        }
    }

    // ---- the sea, the river

    public int turn(int period, int rise, int range, int phase)
            throws IllegalArgumentException, IllegalStateException {
        if (!within(period, 2, 60) || !within(rise, 1, period - 1)) {
            throw new IllegalArgumentException("period or rise is out of range");
        }
        if (!within(range, 0, 50) || !within(phase, 0, 59)) {
            throw new IllegalArgumentException("range or phase is out of range");
        }
        if (live.sea.turnCount >= MOST_TURNS) {
            throw new IllegalStateException("there are 6 turns");
        }
        int number = live.sea.turnCount;
        tell(TELL_TURN, period, rise, range, phase, 0);
        return number;
    }

    public int mean(int level) throws IllegalArgumentException {
        if (!within(level, 0, 100)) {
            throw new IllegalArgumentException("level is out of range");
        }
        int before = live.sea.mean;
        tell(TELL_MEAN, level, 0, 0, 0, 0);
        return before;
    }

    public int surge(int from, int to, int height) throws IllegalArgumentException, IllegalStateException {
        if (!within(from, live.now, LAST_HOUR) || !within(to, from, LAST_HOUR) || !within(height, -50, 100)) {
            throw new IllegalArgumentException("from, to or height is out of range");
        }
        if (live.sea.surgeCount >= MOST_SURGES) {
            throw new IllegalStateException("20 surges were told");
        }
        tell(TELL_SURGE, from, to, height, 0, 0);
        return live.sea.surgeCount;
    }

    public int river(int water, int silt) throws IllegalArgumentException {
        if (!within(water, 0, MOST_FLOW) || !within(silt, 0, MOST_FLOW)) {
            throw new IllegalArgumentException("water or silt is out of range");
        }
        int before = live.riverWater;
        tell(TELL_RIVER, water, silt, 0, 0, 0);
        return before;
    }

    public int barrier(int mark, int lead) throws IllegalArgumentException {
        if (mark != NONE && !within(mark, 0, 500) || !within(lead, 0, 12)) {
            throw new IllegalArgumentException("mark or lead is out of range");
        }
        int before = live.barrier.mark;
        tell(TELL_BARRIER, mark, lead, 0, 0, 0);
        return before;
    }

    // ---- sections, intakes, oysters

    public int section(int area, int up, int low, int mud) throws IllegalArgumentException, IllegalStateException {
        if (!within(area, 1, 100) || !within(mud, 0, MOST_WATER)) {
            throw new IllegalArgumentException("area or mud is out of range");
        }
        if (!within(up, 0, MOST_WATER) || !within(low, 0, MOST_WATER)) {
            throw new IllegalArgumentException("up or low is out of range");
        }
        if (live.sectionCount >= MOST_SECTIONS || live.now > 0) {
            throw new IllegalStateException("there are 8 sections, or an hour went by");
        }
        int number = live.sectionCount;
        tell(TELL_SECTION, area, up, low, mud, 0);
        return number;
    }

    public int intake(int section, int rate, int grain, int room, int use)
            throws IndexOutOfBoundsException, IllegalArgumentException, IllegalStateException {
        if (!live.hasSection(section)) {
            throw new IndexOutOfBoundsException("there is no such section");
        }
        if (!within(rate, 1, MOST_FLOW) || !within(grain, 0, MOST_GRAIN)) {
            throw new IllegalArgumentException("rate or grain is out of range");
        }
        if (!within(room, 1, MOST_WATER) || !within(use, 0, MOST_FLOW)) {
            throw new IllegalArgumentException("room or use is out of range");
        }
        if (live.intakeCount >= MOST_INTAKES) {
            throw new IllegalStateException("there are 6 intakes");
        }
        int number = live.intakeCount;
        tell(TELL_INTAKE, section, rate, grain, room, use);
        return number;
    }

    public int oysters(int section, int grain, int hours)
            throws IndexOutOfBoundsException, IllegalArgumentException, IllegalStateException {
        if (!live.hasSection(section)) {
            throw new IndexOutOfBoundsException("there is no such section");
        }
        if (!within(grain, 0, MOST_GRAIN) || !within(hours, 1, OYSTER_HOURS)) {
            throw new IllegalArgumentException("grain or hours is out of range");
        }
        if (oysterCount >= MOST_OYSTERS) {
            throw new IllegalStateException("there are 6 oysters");
        }
        int number = oysterCount;
        // Oysters only look at the water, so they need no place among what is told once more.
        oysters[number].section = section;
        oysters[number].grain = grain;
        oysters[number].hours = hours;
        oysterCount = number + 1;
        return number;
    }

    // ---- dredging

    public int permit(int section, int amount) throws IndexOutOfBoundsException, IllegalArgumentException {
        if (!live.hasSection(section)) {
            throw new IndexOutOfBoundsException("there is no such section");
        }
        if (!within(amount, 0, MOST_WATER)) {
            throw new IllegalArgumentException("amount is out of range");
        }
        int before = live.sections[section].permit;
        tell(TELL_PERMIT, section, amount, 0, 0, 0);
        return before;
    }

    public int whyNot(int section, int amount) throws IndexOutOfBoundsException, IllegalArgumentException {
        if (!live.hasSection(section)) {
            throw new IndexOutOfBoundsException("there is no such section");
        }
        if (!within(amount, 1, MOST_WATER)) {
            throw new IllegalArgumentException("amount is out of range");
        }
        return live.sections[section].refusal(amount);
    }

    public int dredge(int section, int amount, int to)
            throws IndexOutOfBoundsException, IllegalArgumentException, IllegalStateException {
        if (!live.hasSection(section) || to != NONE && !live.hasSection(to)) {
            throw new IndexOutOfBoundsException("there is no such section");
        }
        if (!within(amount, 1, MOST_WATER) || section == to) {
            throw new IllegalArgumentException("amount is out of range, or both sections are the same");
        }
        if (live.sections[section].refusal(amount) != 0) {
            throw new IllegalStateException("the dredging is refused");
        }
        tell(TELL_DREDGE, section, amount, to, 0, 0);
        return live.sections[section].permit;
    }

    public int pass(int hours) throws IllegalArgumentException, IllegalStateException {
        if (!within(hours, 1, 48)) {
            throw new IllegalArgumentException("hours is out of range");
        }
        if (live.now + hours > MOST_HOURS) {
            throw new IllegalStateException("now would be above 1000");
        }
        live.goOnTo(live.now + hours);
        return live.now;
    }

    // ---- questions

    public int now() {
        return live.now;
    }

    public int sea(int hour) throws IllegalArgumentException {
        if (!within(hour, 0, LAST_HOUR)) {
            throw new IllegalArgumentException("hour is out of range");
        }
        return live.seaOf(hour);
    }

    public int ofSection(int section, int what) throws IndexOutOfBoundsException, IllegalArgumentException {
        if (!live.hasSection(section)) {
            throw new IndexOutOfBoundsException("there is no such section");
        }
        if (!within(what, 0, 9)) {
            throw new IllegalArgumentException("what is out of range");
        }
        return live.sections[section].answer(what);
    }

    public int ofSectionAnew(int section, int what) throws IndexOutOfBoundsException, IllegalArgumentException {
        if (!live.hasSection(section)) {
            throw new IndexOutOfBoundsException("there is no such section");
        }
        if (!within(what, 0, 9)) {
            throw new IllegalArgumentException("what is out of range");
        }
        anew.begin();
        for (int i = 0; i < told.count; i++) {
            anew.goOnTo(told.part(i, Told.HOUR));
            anew.hear(told.part(i, Told.KIND), told.part(i, Told.FIRST), told.part(i, Told.FIRST + 1),
                    told.part(i, Told.FIRST + 2), told.part(i, Told.FIRST + 3), told.part(i, Told.FIRST + 4));
        }
        anew.goOnTo(live.now);
        return anew.sections[section].answer(what);
    }

    public int ofIntake(int intake, int what) throws IndexOutOfBoundsException, IllegalArgumentException {
        if (intake < 0 || intake >= live.intakeCount) {
            throw new IndexOutOfBoundsException("there is no such intake");
        }
        if (!within(what, 0, 4)) {
            throw new IllegalArgumentException("what is out of range");
        }
        return live.intakes[intake].answer(what);
    }

    public boolean isClosed(int oysters) throws IndexOutOfBoundsException {
        if (oysters < 0 || oysters >= oysterCount) {
            throw new IndexOutOfBoundsException("there are no such oysters");
        }
        Oysters asked = this.oysters[oysters];
        return live.sections[asked.section].wasFresher(asked.grain, asked.hours, live.now);
    }

    public int closures() {
        return live.barrier.closureCount;
    }

    public int closure(int closure, int what) throws IndexOutOfBoundsException, IllegalArgumentException {
        if (closure < 0 || closure >= live.barrier.closureCount) {
            throw new IndexOutOfBoundsException("there is no such closure");
        }
        if (!within(what, 0, 2)) {
            throw new IllegalArgumentException("what is out of range");
        }
        return live.barrier.answer(closure, what);
    }

    public int intrusion(int grain) throws IllegalArgumentException {
        if (!within(grain, 1, MOST_GRAIN)) {
            throw new IllegalArgumentException("grain is out of range");
        }
        int count = 0;
        while (count < live.sectionCount && live.sections[count].low.salinity() >= grain) {
            count++;
        }
        return count;
    }

    public int window(int keel, int hours) throws IllegalArgumentException, IllegalStateException {
        if (!within(keel, 1, 200) || !within(hours, 1, 24)) {
            throw new IllegalArgumentException("keel or hours is out of range");
        }
        if (live.sectionCount == 0) {
            throw new IllegalStateException("there are no sections");
        }
        return live.firstHourAt(live.sections[0].bed() + keel, hours);
    }

    public long sum(int what) throws IllegalArgumentException {
        if (!within(what, 0, SUMS - 1)) {
            throw new IllegalArgumentException("what is out of range");
        }
        return live.sums[what];
    }

    private static boolean within(int value, int least, int most) {
        return value >= least && value <= most;
    }

    /** What of a stuff goes with a flow of water, rounded down; nothing where there is no water. */
    private static int goesWith(int flow, int stuff, int water) {
        if (water <= 0) {
            return 0;
        }
        // As long: salt and water may each be in the millions.
        return (int) ((long) stuff * flow / water);
    }

    /** Kept as well as heard, since ofSectionAnew tells all of it once more. */
    private void tell(int kind, int a, int b, int c, int d, int e) {
        told.keep(live.now, kind, a, b, c, d, e);
        live.hear(kind, a, b, c, d, e);
    }

    private static final class Layer {
        int water;
        int salt;

        void begin(int startWater) {
            water = startWater;
            salt = 0;
        }

        int salinity() {
            return water <= 0 ? 0 : salt / water;
        }

        int saltWith(int flow) {
            return goesWith(flow, salt, water);
        }

        /** Answers the salt that goes with the water, as both go on to somewhere else. */
        int giveOut(int flow) {
            int gone = goesWith(flow, salt, water);
            water -= flow;
            salt -= gone;
            return gone;
        }

        void takeIn(int moreWater, int moreSalt) {
            water += moreWater;
            salt += moreSalt;
        }
    }

    private static final class Section {
        final Layer up = new Layer();
        final Layer low = new Layer();
        // The salinity of LOW at the end of the hour h stands at the remainder of h by the length.
        final int[] lowAtEnd = new int[OYSTER_HOURS];
        int area = 1;
        int mud;
        int cloud;
        int run;
        int permit;

        void begin(int area, int upWater, int lowWater, int mud) {
            this.area = area;
            this.mud = mud;
            up.begin(upWater);
            low.begin(lowWater);
            cloud = 0;
            run = 0;
            permit = 0;
        }

        int bed() {
            return area <= 0 ? 0 : mud / area;
        }

        int level() {
            return area <= 0 ? 0 : bed() + (up.water + low.water) / area;
        }

        /** To be asked ahead of the flow out of UP: the share is that of the water there was before it. */
        int giveCloud(int flow) {
            int gone = goesWith(flow, cloud, up.water);
            cloud -= gone;
            return gone;
        }

        int refusal(int amount) {
            if (permit == 0) {
                return 1;
            }
            if (amount > permit) {
                return 2;
            }
            return mud < amount ? 3 : 0;
        }

        void mix() {
            if (run < 20) {
                return;
            }
            int m = Math.min(up.water, low.water) / 4;
            int lifted = low.saltWith(m) - up.saltWith(m);
            if (lifted > 0) {
                low.salt -= lifted;
                up.salt += lifted;
            }
        }

        void settleOrLift() {
            if (run < 10) {
                int settled = cloud - cloud / 2;
                cloud -= settled;
                mud += settled;
            } else if (run > 40) {
                int lifted = Math.min(run / 8, mud);
                mud -= lifted;
                cloud += lifted;
            }
        }

        void endHour(int hour) {
            lowAtEnd[Math.floorMod(hour, OYSTER_HOURS)] = low.salinity();
        }

        boolean wasFresher(int grain, int hours, int now) {
            // Fewer hours may have gone by than are asked for.
            for (int hour = Math.max(0, now - hours); hour < now; hour++) {
                if (lowAtEnd[Math.floorMod(hour, OYSTER_HOURS)] < grain) {
                    return true;
                }
            }
            return false;
        }

        int answer(int what) {
            switch (what) {
                case 0: return up.water;
                case 1: return up.salt;
                case 2: return low.water;
                case 3: return low.salt;
                case 4: return cloud;
                case 5: return mud;
                case 6: return level();
                case 7: return up.salinity();
                case 8: return low.salinity();
                default: return run;
            }
        }
    }

    private static final class Turn {
        int period;
        int rise;
        int range;
        int phase;

        int height(int hour) {
            if (rise <= 0 || period <= rise) {
                return 0;
            }
            int x = (hour + phase) % period;
            return x < rise ? range * x / rise : range * (period - x) / (period - rise);
        }
    }

    private static final class Surge {
        int from;
        int to;
        int height;
    }

    /** What is told of the sea, and the sea of the hours that went by. */
    private static final class Sea {
        final Turn[] turns = new Turn[MOST_TURNS];
        final Surge[] surges = new Surge[MOST_SURGES];
        final int[] past = new int[MOST_HOURS];
        int turnCount;
        int surgeCount;
        int mean = FIRST_MEAN;

        Sea() {
            for (int i = 0; i < turns.length; i++) {
                turns[i] = new Turn();
            }
            for (int i = 0; i < surges.length; i++) {
                surges[i] = new Surge();
            }
        }

        void begin() {
            turnCount = 0;
            surgeCount = 0;
            mean = FIRST_MEAN;
        }

        void addTurn(int period, int rise, int range, int phase) {
            if (turnCount >= turns.length) {
                return;
            }
            Turn turn = turns[turnCount];
            turn.period = period;
            turn.rise = rise;
            turn.range = range;
            turn.phase = phase;
            turnCount++;
        }

        void addSurge(int from, int to, int height) {
            if (surgeCount >= surges.length) {
                return;
            }
            Surge surge = surges[surgeCount];
            surge.from = from;
            surge.to = to;
            surge.height = height;
            surgeCount++;
        }

        int foretold(int hour) {
            int height = mean;
            for (int i = 0; i < turnCount; i++) {
                height += turns[i].height(hour);
            }
            for (int i = 0; i < surgeCount; i++) {
                if (surges[i].from <= hour && hour <= surges[i].to) {
                    height += surges[i].height;
                }
            }
            return height;
        }

        boolean foretoldAbove(int mark, int from, int to) {
            for (int hour = from; hour <= to; hour++) {
                if (foretold(hour) > mark) {
                    return true;
                }
            }
            return false;
        }

        void keep(int hour, int height) {
            if (hour >= 0 && hour < past.length) {
                past[hour] = height;
            }
        }
    }

    private static final class Barrier {
        // A closure and an open hour ahead of the next one take two hours at least.
        final int[] first = new int[MOST_HOURS / 2];
        final int[] last = new int[MOST_HOURS / 2];
        final boolean[] right = new boolean[MOST_HOURS / 2];
        int closureCount;
        int mark = NONE;
        int lead;
        boolean closed;

        void begin() {
            closureCount = 0;
            mark = NONE;
            lead = 0;
            closed = false;
        }

        void look(Sea sea, int hour) {
            boolean goesOn = closed;
            closed = mark != NONE && sea.foretoldAbove(mark, hour, hour + lead);
            if (!closed) {
                return;
            }
            if (!goesOn && closureCount < first.length) {
                first[closureCount] = hour;
                right[closureCount] = false;
                closureCount++;
            }
            int at = closureCount - 1;
            if (at >= 0) {
                last[at] = hour;
                right[at] = right[at] || sea.foretold(hour) > mark;
            }
        }

        int answer(int closure, int what) {
            switch (what) {
                case 0: return first[closure];
                case 1: return last[closure];
                default: return right[closure] ? 1 : 0;
            }
        }
    }

    private static final class Intake {
        int section;
        int rate;
        int grain;
        int room;
        int use;
        int held;
        int taken;
        int lacking;
        int stoppedHours;
        boolean stopped;

        void begin(int section, int rate, int grain, int room, int use) {
            this.section = section;
            this.rate = rate;
            this.grain = grain;
            this.room = room;
            this.use = use;
            held = 0;
            taken = 0;
            lacking = 0;
            stoppedHours = 0;
            stopped = false;
        }

        void take(Layer up, long[] sums) {
            stopped = up.water <= 0 || up.salinity() > grain;
            if (stopped) {
                stoppedHours++;
                return;
            }
            int flow = Math.min(Math.min(rate, up.water), room - held);
            int salt = up.giveOut(flow);
            held += flow;
            taken += flow;
            sums[SUM_TAKEN] += flow;
            sums[SUM_SALT_TAKEN] += salt;
        }

        void supply() {
            int given = Math.min(use, held);
            held -= given;
            lacking += use - given;
        }

        int answer(int what) {
            switch (what) {
                case 0: return held;
                case 1: return taken;
                case 2: return lacking;
                case 3: return stopped ? 1 : 0;
                default: return stoppedHours;
            }
        }
    }

    private static final class Oysters {
        int section;
        int grain;
        int hours;
    }

    /** All that was told and changes the water or the mud, each with the hour ahead of which it was told. */
    private static final class Told {
        static final int HOUR = 0;
        static final int KIND = 1;
        static final int FIRST = 2;
        static final int PARTS = 7;

        final int[] rows = new int[MOST_CALLS * PARTS];
        int count;

        void keep(int hour, int kind, int a, int b, int c, int d, int e) {
            if (count >= MOST_CALLS) {
                return;
            }
            int at = count * PARTS;
            rows[at + HOUR] = hour;
            rows[at + KIND] = kind;
            rows[at + FIRST] = a;
            rows[at + FIRST + 1] = b;
            rows[at + FIRST + 2] = c;
            rows[at + FIRST + 3] = d;
            rows[at + FIRST + 4] = e;
            count++;
        }

        int part(int row, int part) {
            int at = row * PARTS + part;
            return at >= 0 && at < rows.length ? rows[at] : 0;
        }
    }

    /** The whole mouth: it hears what is told, and lets hours go by. */
    private static final class Mouth {
        final Sea sea = new Sea();
        final Barrier barrier = new Barrier();
        final Section[] sections = new Section[MOST_SECTIONS];
        final Intake[] intakes = new Intake[MOST_INTAKES];
        final long[] sums = new long[SUMS];
        int sectionCount;
        int intakeCount;
        int riverWater;
        int riverSilt;
        int now;

        Mouth() {
            for (int i = 0; i < sections.length; i++) {
                sections[i] = new Section();
            }
            for (int i = 0; i < intakes.length; i++) {
                intakes[i] = new Intake();
            }
        }

        /** All as in a new one, so that one mouth serves for every telling anew. */
        void begin() {
            sea.begin();
            barrier.begin();
            for (int i = 0; i < sums.length; i++) {
                sums[i] = 0;
            }
            sectionCount = 0;
            intakeCount = 0;
            riverWater = 0;
            riverSilt = 0;
            now = 0;
        }

        boolean hasSection(int section) {
            return section >= 0 && section < sectionCount;
        }

        void hear(int kind, int a, int b, int c, int d, int e) {
            switch (kind) {
                case TELL_TURN: sea.addTurn(a, b, c, d); break;
                case TELL_MEAN: sea.mean = a; break;
                case TELL_SURGE: sea.addSurge(a, b, c); break;
                case TELL_RIVER: riverWater = a; riverSilt = b; break;
                case TELL_BARRIER: barrier.mark = a; barrier.lead = b; break;
                case TELL_SECTION: addSection(a, b, c, d); break;
                case TELL_INTAKE: addIntake(a, b, c, d, e); break;
                case TELL_PERMIT: setPermit(a, b); break;
                case TELL_DREDGE: moveMud(a, b, c); break;
                default: break;
            }
        }

        void addSection(int area, int up, int low, int mud) {
            if (sectionCount < sections.length) {
                sections[sectionCount].begin(area, up, low, mud);
                sectionCount++;
            }
        }

        void addIntake(int section, int rate, int grain, int room, int use) {
            if (intakeCount < intakes.length) {
                intakes[intakeCount].begin(section, rate, grain, room, use);
                intakeCount++;
            }
        }

        void setPermit(int section, int amount) {
            if (hasSection(section)) {
                sections[section].permit = amount;
            }
        }

        void moveMud(int section, int amount, int to) {
            if (!hasSection(section)) {
                return;
            }
            sections[section].permit -= amount;
            sections[section].mud -= amount;
            if (hasSection(to)) {
                sections[to].cloud += amount;
            } else {
                sums[SUM_DREDGED] += amount;
            }
        }

        int seaOf(int hour) {
            if (hour >= 0 && hour < now && hour < MOST_HOURS) {
                return sea.past[hour];
            }
            return sea.foretold(hour);
        }

        /** The first hour of so many, one behind the other, with a sea of that height or more; NONE if none. */
        int firstHourAt(int height, int hours) {
            int high = 0;
            for (int hour = now; hour < now + WINDOW_HOURS + hours; hour++) {
                high = sea.foretold(hour) >= height ? high + 1 : 0;
                if (high == hours) {
                    return hour - hours + 1;
                }
            }
            return NONE;
        }

        void goOnTo(int hour) {
            int end = Math.min(hour, MOST_HOURS);
            for (int next = now; next < end; next++) {
                letHourGoBy();
                now = next + 1;
            }
        }

        void letHourGoBy() {
            int height = sea.foretold(now);
            for (int k = 0; k < sectionCount; k++) {
                sections[k].run = 0;
            }
            barrier.look(sea, now);
            if (sectionCount > 0) {
                if (!barrier.closed) {
                    meetSea(sections[0], height);
                }
                meetRiver(sections[sectionCount - 1]);
            }
            for (int k = 0; k + 1 < sectionCount; k++) {
                flowByLevels(sections[k], sections[k + 1]);
                creep(sections[k], sections[k + 1]);
            }
            for (int k = 0; k < sectionCount; k++) {
                sections[k].mix();
                sections[k].settleOrLift();
            }
            serveIntakes();
            for (int k = 0; k < sectionCount; k++) {
                sections[k].endHour(now);
            }
            sea.keep(now, height);
        }

        void meetSea(Section mouth, int height) {
            int d = height - mouth.level();
            if (d > 0) {
                int flow = d * mouth.area / 2;
                mouth.low.takeIn(flow, SEA_SALT * flow);
                sums[SUM_SEA_IN] += flow;
                sums[SUM_SALT_IN] += SEA_SALT * flow;
            } else if (d < 0) {
                int flow = Math.min(-d * mouth.area / 2, mouth.up.water);
                sums[SUM_CLOUD_OUT] += mouth.giveCloud(flow);
                sums[SUM_SALT_OUT] += mouth.up.giveOut(flow);
                sums[SUM_SEA_OUT] += flow;
            }
        }

        void meetRiver(Section last) {
            last.up.takeIn(riverWater, 0);
            last.cloud += riverSilt;
            sums[SUM_RIVER] += riverWater;
            sums[SUM_SILT] += riverSilt;
        }

        void flowByLevels(Section near, Section far) {
            int d = near.level() - far.level();
            int area = Math.min(near.area, far.area);
            int flow = 0;
            if (d > 0) {
                flow = Math.min(d * area / 4, near.low.water);
                flowInLow(near, far, flow);
            } else if (d < 0) {
                flow = Math.min(-d * area / 4, far.up.water);
                flowInUp(far, near, flow);
            }
            near.run += flow;
            far.run += flow;
        }

        void creep(Section near, Section far) {
            if (near.low.salinity() > far.low.salinity()) {
                int c = Math.min(near.low.water, far.up.water) / 8;
                flowInLow(near, far, c);
                flowInUp(far, near, c);
            }
        }

        void flowInLow(Section from, Section to, int flow) {
            int salt = from.low.giveOut(flow);
            to.low.takeIn(flow, salt);
        }

        void flowInUp(Section from, Section to, int flow) {
            int cloud = from.giveCloud(flow);
            int salt = from.up.giveOut(flow);
            to.cloud += cloud;
            to.up.takeIn(flow, salt);
        }

        void serveIntakes() {
            for (int i = 0; i < intakeCount; i++) {
                Intake intake = intakes[i];
                if (hasSection(intake.section)) {
                    intake.take(sections[intake.section].up, sums);
                }
                intake.supply();
            }
        }
    }
}
