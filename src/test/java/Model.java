import java.util.ArrayList;
import java.util.List;

/**
 * The document once more, in its plainest form, for comparing: an hour by hour account that keeps everything that ever
 * was, and makes a new model for every telling anew. Answers are longs; a call that throws answers one of the three
 * numbers below.
 */
final class Model {
    static final long INDEX = Long.MIN_VALUE;
    static final long ARGUMENT = Long.MIN_VALUE + 1;
    static final long STATE = Long.MIN_VALUE + 2;

    static final class Part {
        long area;
        long mud;
        long cloud;
        long run;
        long permit;
        long[] water = new long[2];
        long[] salt = new long[2];
        List<Long> lowSalinities = new ArrayList<>();

        long salinity(int layer) {
            return water[layer] == 0 ? 0 : salt[layer] / water[layer];
        }

        long bed() {
            return mud / area;
        }

        long level() {
            return bed() + (water[UP] + water[LOW]) / area;
        }
    }

    static final int UP = 0;
    static final int LOW = 1;

    final List<int[]> turns = new ArrayList<>();
    final List<int[]> surges = new ArrayList<>();
    final List<Part> parts = new ArrayList<>();
    final List<int[]> intakes = new ArrayList<>();
    final List<long[]> intakeBooks = new ArrayList<>();
    final List<int[]> oysters = new ArrayList<>();
    final List<Long> pastSea = new ArrayList<>();
    final List<Boolean> pastShut = new ArrayList<>();
    final List<Boolean> pastAbove = new ArrayList<>();
    final List<int[]> events = new ArrayList<>();
    final long[] sums = new long[10];
    int mean = 50;
    int riverWater = 0;
    int riverSilt = 0;
    int mark = -1;
    int lead = 0;

    int now() {
        return pastSea.size();
    }

    /** The call of that number in the face's order, with its arguments. */
    long call(int method, int[] a) {
        long answer = answer(method, a);
        boolean thrown = answer <= STATE;
        if (!thrown && method <= 11 && method != 8) {
            int[] event = new int[a.length + 1];
            event[0] = method;
            System.arraycopy(a, 0, event, 1, a.length);
            events.add(event);
        }
        return answer;
    }

    private long answer(int method, int[] a) {
        switch (method) {
            case 0: return turn(a);
            case 1: return mean(a[0]);
            case 2: return surge(a);
            case 3: return river(a[0], a[1]);
            case 4: return barrier(a[0], a[1]);
            case 5: return section(a);
            case 6: return intake(a);
            case 7: return oysters(a);
            case 8: return whyNot(a[0], a[1]);
            case 9: return permit(a[0], a[1]);
            case 10: return dredge(a[0], a[1], a[2]);
            case 11: return pass(a[0]);
            case 12: return now();
            case 13: return out(a[0], 0, 2000) ? ARGUMENT : sea(a[0]);
            case 14: return ofSection(a[0], a[1]);
            case 15: return anew().ofSection(a[0], a[1]);
            case 16: return ofIntake(a[0], a[1]);
            case 17: return isClosed(a[0]);
            case 18: return closures().size();
            case 19: return closure(a[0], a[1]);
            case 20: return intrusion(a[0]);
            case 21: return window(a[0], a[1]);
            default: return out(a[0], 0, 9) ? ARGUMENT : sums[a[0]];
        }
    }

    private Model anew() {
        Model other = new Model();
        for (int[] event : events) {
            int[] a = new int[event.length - 1];
            System.arraycopy(event, 1, a, 0, a.length);
            other.answer(event[0], a);
        }
        return other;
    }

    private static boolean out(long value, long least, long most) {
        return value < least || value > most;
    }

    private boolean noPart(int section) {
        return out(section, 0, parts.size() - 1);
    }

    private long turn(int[] a) {
        if (out(a[0], 2, 60) || out(a[1], 1, (long) a[0] - 1) || out(a[2], 0, 50) || out(a[3], 0, 59)) {
            return ARGUMENT;
        }
        if (turns.size() == 6) {
            return STATE;
        }
        turns.add(a.clone());
        return turns.size() - 1;
    }

    private long mean(int level) {
        if (out(level, 0, 100)) {
            return ARGUMENT;
        }
        int before = mean;
        mean = level;
        return before;
    }

    private long surge(int[] a) {
        if (out(a[0], now(), 2000) || out(a[1], a[0], 2000) || out(a[2], -50, 100)) {
            return ARGUMENT;
        }
        if (surges.size() == 20) {
            return STATE;
        }
        surges.add(a.clone());
        return surges.size();
    }

    private long river(int water, int silt) {
        if (out(water, 0, 500) || out(silt, 0, 500)) {
            return ARGUMENT;
        }
        int before = riverWater;
        riverWater = water;
        riverSilt = silt;
        return before;
    }

    private long barrier(int newMark, int newLead) {
        if (out(newMark, -1, 500) || out(newLead, 0, 12)) {
            return ARGUMENT;
        }
        int before = mark;
        mark = newMark;
        lead = newLead;
        return before;
    }

    private long section(int[] a) {
        if (out(a[0], 1, 100) || out(a[1], 0, 10000) || out(a[2], 0, 10000) || out(a[3], 0, 10000)) {
            return ARGUMENT;
        }
        if (parts.size() == 8 || now() > 0) {
            return STATE;
        }
        Part part = new Part();
        part.area = a[0];
        part.water[UP] = a[1];
        part.water[LOW] = a[2];
        part.mud = a[3];
        parts.add(part);
        return parts.size() - 1;
    }

    private long intake(int[] a) {
        if (noPart(a[0])) {
            return INDEX;
        }
        if (out(a[1], 1, 500) || out(a[2], 0, 30) || out(a[3], 1, 10000) || out(a[4], 0, 500)) {
            return ARGUMENT;
        }
        if (intakes.size() == 6) {
            return STATE;
        }
        intakes.add(a.clone());
        intakeBooks.add(new long[5]);
        return intakes.size() - 1;
    }

    private long oysters(int[] a) {
        if (noPart(a[0])) {
            return INDEX;
        }
        if (out(a[1], 0, 30) || out(a[2], 1, 24)) {
            return ARGUMENT;
        }
        if (oysters.size() == 6) {
            return STATE;
        }
        oysters.add(a.clone());
        return oysters.size() - 1;
    }

    private long permit(int section, int amount) {
        if (noPart(section)) {
            return INDEX;
        }
        if (out(amount, 0, 10000)) {
            return ARGUMENT;
        }
        long before = parts.get(section).permit;
        parts.get(section).permit = amount;
        return before;
    }

    private long whyNot(int section, int amount) {
        if (noPart(section)) {
            return INDEX;
        }
        if (out(amount, 1, 10000)) {
            return ARGUMENT;
        }
        Part part = parts.get(section);
        return part.permit == 0 ? 1 : part.permit < amount ? 2 : part.mud < amount ? 3 : 0;
    }

    private long dredge(int section, int amount, int to) {
        if (noPart(section) || to != -1 && noPart(to)) {
            return INDEX;
        }
        if (out(amount, 1, 10000) || to == section) {
            return ARGUMENT;
        }
        if (whyNot(section, amount) > 0) {
            return STATE;
        }
        Part part = parts.get(section);
        part.mud -= amount;
        part.permit -= amount;
        if (to == -1) {
            sums[9] += amount;
        } else {
            parts.get(to).cloud += amount;
        }
        return part.permit;
    }

    private long pass(int hours) {
        if (out(hours, 1, 48)) {
            return ARGUMENT;
        }
        if (now() + hours > 1000) {
            return STATE;
        }
        for (int i = 0; i < hours; i++) {
            hour();
        }
        return now();
    }

    private long sea(int hour) {
        if (hour < now()) {
            return pastSea.get(hour);
        }
        long height = mean;
        for (int[] t : turns) {
            long x = (hour + t[3]) % t[0];
            if (x < t[1]) {
                height += t[2] * x / t[1];
            } else {
                height += t[2] * (t[0] - x) / (t[0] - t[1]);
            }
        }
        for (int[] s : surges) {
            if (hour >= s[0] && hour <= s[1]) {
                height += s[2];
            }
        }
        return height;
    }

    /** Lets water flow out of a layer, and answers what goes: WATER, SALT, CLOUD. */
    private static long[] flowOut(Part from, int layer, long flow, boolean cloudToo) {
        if (from.water[layer] == 0) {
            return new long[] {0, 0, 0};
        }
        long salt = from.salt[layer] * flow / from.water[layer];
        long cloud = layer == UP && cloudToo ? from.cloud * flow / from.water[layer] : 0;
        from.water[layer] -= flow;
        from.salt[layer] -= salt;
        from.cloud -= cloud;
        return new long[] {flow, salt, cloud};
    }

    private static void flowIn(Part to, int layer, long[] what) {
        to.water[layer] += what[0];
        to.salt[layer] += what[1];
        to.cloud += what[2];
    }

    private void hour() {
        for (Part part : parts) {
            part.run = 0;
        }
        long height = sea(now());
        boolean shut = false;
        for (int ahead = 0; mark != -1 && ahead <= lead; ahead++) {
            shut |= sea(now() + ahead) > mark;
        }
        if (!shut && !parts.isEmpty()) {
            seaAndMouth(parts.get(0), height);
        }
        if (!parts.isEmpty()) {
            flowIn(parts.get(parts.size() - 1), UP, new long[] {riverWater, 0, riverSilt});
            sums[2] += riverWater;
            sums[7] += riverSilt;
        }
        for (int k = 0; k < parts.size() - 1; k++) {
            neighbours(parts.get(k), parts.get(k + 1));
        }
        for (Part part : parts) {
            stir(part);
        }
        for (Part part : parts) {
            bed(part);
        }
        for (int i = 0; i < intakes.size(); i++) {
            take(intakes.get(i), intakeBooks.get(i));
        }
        for (Part part : parts) {
            part.lowSalinities.add(part.salinity(LOW));
        }
        pastSea.add(height);
        pastShut.add(shut);
        pastAbove.add(mark != -1 && height > mark);
    }

    private void seaAndMouth(Part part, long height) {
        long d = height - part.level();
        if (d > 0) {
            long flow = d * part.area / 2;
            flowIn(part, LOW, new long[] {flow, 30 * flow, 0});
            sums[0] += flow;
            sums[4] += 30 * flow;
        }
        if (d < 0) {
            long[] gone = flowOut(part, UP, Math.min(-d * part.area / 2, part.water[UP]), true);
            sums[1] += gone[0];
            sums[5] += gone[1];
            sums[8] += gone[2];
        }
    }

    private static void neighbours(Part k, Part other) {
        long d = k.level() - other.level();
        long most = Math.abs(d) * Math.min(k.area, other.area) / 4;
        if (d > 0) {
            long flow = Math.min(most, k.water[LOW]);
            flowIn(other, LOW, flowOut(k, LOW, flow, true));
            k.run += flow;
            other.run += flow;
        }
        if (d < 0) {
            long flow = Math.min(most, other.water[UP]);
            flowIn(k, UP, flowOut(other, UP, flow, true));
            k.run += flow;
            other.run += flow;
        }
        if (k.salinity(LOW) > other.salinity(LOW)) {
            long c = Math.min(k.water[LOW], other.water[UP]) / 8;
            flowIn(other, LOW, flowOut(k, LOW, c, true));
            flowIn(k, UP, flowOut(other, UP, c, true));
        }
    }

    private static void stir(Part part) {
        long m = Math.min(part.water[UP], part.water[LOW]) / 4;
        if (part.run < 20 || m == 0) {
            return;
        }
        long s = part.salt[LOW] * m / part.water[LOW] - part.salt[UP] * m / part.water[UP];
        if (s > 0) {
            part.salt[LOW] -= s;
            part.salt[UP] += s;
        }
    }

    private static void bed(Part part) {
        if (part.run < 10) {
            long half = (part.cloud + 1) / 2;
            part.cloud -= half;
            part.mud += half;
        }
        if (part.run > 40) {
            long lifted = Math.min(part.run / 8, part.mud);
            part.mud -= lifted;
            part.cloud += lifted;
        }
    }

    /** The book of an intake: what it holds, took, lacked, whether it was stopped, in how many hours. */
    private void take(int[] a, long[] book) {
        Part part = parts.get(a[0]);
        boolean stopped = part.water[UP] == 0 || part.salinity(UP) > a[2];
        book[3] = stopped ? 1 : 0;
        if (stopped) {
            book[4]++;
        } else {
            long flow = Math.min(a[1], Math.min(part.water[UP], a[3] - book[0]));
            long[] gone = flowOut(part, UP, flow, false);
            book[0] += gone[0];
            book[1] += gone[0];
            sums[3] += gone[0];
            sums[6] += gone[1];
        }
        long given = Math.min(a[4], book[0]);
        book[0] -= given;
        book[2] += a[4] - given;
    }

    private long ofSection(int section, int what) {
        if (noPart(section)) {
            return INDEX;
        }
        if (out(what, 0, 9)) {
            return ARGUMENT;
        }
        Part p = parts.get(section);
        long[] all = {p.water[UP], p.salt[UP], p.water[LOW], p.salt[LOW], p.cloud, p.mud, p.level(), p.salinity(UP),
            p.salinity(LOW), p.run};
        return all[what];
    }

    private long ofIntake(int intake, int what) {
        if (out(intake, 0, intakes.size() - 1)) {
            return INDEX;
        }
        return out(what, 0, 4) ? ARGUMENT : intakeBooks.get(intake)[what];
    }

    private long isClosed(int number) {
        if (out(number, 0, oysters.size() - 1)) {
            return INDEX;
        }
        int[] a = oysters.get(number);
        List<Long> all = parts.get(a[0]).lowSalinities;
        for (long salinity : all.subList(Math.max(0, all.size() - a[2]), all.size())) {
            if (salinity < a[1]) {
                return 1;
            }
        }
        return 0;
    }

    private List<long[]> closures() {
        List<long[]> rows = new ArrayList<>();
        for (int h = 0; h < now(); h++) {
            if (!pastShut.get(h)) {
                continue;
            }
            if (h == 0 || !pastShut.get(h - 1)) {
                rows.add(new long[] {h, h, 0});
            }
            long[] row = rows.get(rows.size() - 1);
            row[1] = h;
            row[2] = Math.max(row[2], pastAbove.get(h) ? 1 : 0);
        }
        return rows;
    }

    private long closure(int number, int what) {
        List<long[]> rows = closures();
        if (out(number, 0, rows.size() - 1)) {
            return INDEX;
        }
        return out(what, 0, 2) ? ARGUMENT : rows.get(number)[what];
    }

    private long intrusion(int grain) {
        if (out(grain, 1, 30)) {
            return ARGUMENT;
        }
        for (int k = 0; k < parts.size(); k++) {
            if (parts.get(k).salinity(LOW) < grain) {
                return k;
            }
        }
        return parts.size();
    }

    private long window(int keel, int hours) {
        if (out(keel, 1, 200) || out(hours, 1, 24)) {
            return ARGUMENT;
        }
        if (parts.isEmpty()) {
            return STATE;
        }
        for (int first = now(); first <= now() + 100; first++) {
            boolean fits = true;
            for (int i = 0; i < hours; i++) {
                fits &= sea(first + i) - parts.get(0).bed() >= keel;
            }
            if (fits) {
                return first;
            }
        }
        return -1;
    }
}
