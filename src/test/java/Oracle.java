import java.util.ArrayList;
import java.util.Arrays;
import java.util.HashMap;
import java.util.List;
import java.util.Map;

/**
 * The document's words said over again in the slowest and plainest way: what is known is a text of one sign a doubtful
 * road ('?', 'o' open, 'x' shut), rows of ten are counted one by one, and plans are found by trying till nothing gets
 * better. For small lands with small numbers only.
 */
final class Oracle {
    static final long NEVER = -2;
    static final long FAR = Long.MAX_VALUE / 8;

    record Road(int a, int b, int hours, int doubt, int cause, int delay) {
        boolean doubtful() {
            return doubt > 0 || cause >= 0;
        }
    }

    record Word(int place, int road, int hours) { }

    int places;
    int start = -1;
    int goal = -1;
    final List<Integer> causes = new ArrayList<>();
    final List<Road> roads = new ArrayList<>();
    final List<Road> doubtful = new ArrayList<>();
    final List<int[]> sights = new ArrayList<>();
    final List<Word> words = new ArrayList<>();
    final List<int[]> rules = new ArrayList<>();
    final List<Integer> row = new ArrayList<>();

    long[] weights;
    private final Map<String, Long> best = new HashMap<>();
    private final Map<String, Long> sure = new HashMap<>();
    private long[] least;

    void addRoad(Road road) {
        roads.add(road);
        if (road.doubtful()) {
            doubtful.add(road);
        }
    }

    /** Counts all rows of ten. other: a doubtful road with another doubt (-1: none). */
    long[] countRows(int other, int otherDoubt) {
        List<int[]> tens = new ArrayList<>();
        for (int i = 0; i < doubtful.size(); i++) {
            if (doubtful.get(i).doubt > 0) {
                tens.add(new int[] {i, i == other ? otherDoubt : doubtful.get(i).doubt});
            }
        }
        int doubts = tens.size();
        for (int i = 0; i < causes.size(); i++) {
            tens.add(new int[] {i, causes.get(i)});
        }
        long[] counted = new long[1 << doubtful.size()];
        long rows = 1;
        for (int i = 0; i < tens.size(); i++) {
            rows *= 10;
        }
        for (long r = 0; r < rows; r++) {
            long rest = r;
            int world = 0;
            for (int i = 0; i < tens.size(); i++) {
                boolean comes = rest % 10 < tens.get(i)[1];
                rest /= 10;
                if (comes && i < doubts) {
                    world |= 1 << tens.get(i)[0];
                } else if (comes) {
                    for (int d = 0; d < doubtful.size(); d++) {
                        if (doubtful.get(d).cause == tens.get(i)[0]) {
                            world |= 1 << d;
                        }
                    }
                }
            }
            counted[world]++;
        }
        return counted;
    }

    void weigh(long[] by) {
        weights = by;
        best.clear();
        sure.clear();
        least = null;
    }

    String known(int number) {
        StringBuilder told = new StringBuilder();
        for (int i = 0; i < doubtful.size(); i++) {
            told.append("?ox".charAt(number % 3));
            number /= 3;
        }
        return told.toString();
    }

    String nothing() {
        return "?".repeat(doubtful.size());
    }

    boolean agrees(int world, String known) {
        for (int i = 0; i < known.length(); i++) {
            boolean shut = (world >> i & 1) != 0;
            if (known.charAt(i) == (shut ? 'o' : 'x')) {
                return false;
            }
        }
        return true;
    }

    long likely(String known) {
        long sum = 0;
        for (int w = 0; w < weights.length; w++) {
            sum += agrees(w, known) ? weights[w] : 0;
        }
        return sum;
    }

    boolean sees(int place, int d) {
        Road road = doubtful.get(d);
        boolean seen = road.a == place || road.b == place;
        for (int[] sight : sights) {
            seen |= sight[0] == place && sight[1] == d;
        }
        return seen;
    }

    boolean allSeen(int place, String known) {
        for (int d = 0; d < doubtful.size(); d++) {
            if (sees(place, d) && known.charAt(d) == '?') {
                return false;
            }
        }
        return true;
    }

    String look(int place, String known, int world) {
        String now = known;
        for (int d = 0; d < doubtful.size(); d++) {
            if (sees(place, d)) {
                now = learn(now, d, world);
            }
        }
        return now;
    }

    String learn(String known, int d, int world) {
        return known.substring(0, d) + ((world >> d & 1) != 0 ? 'x' : 'o') + known.substring(d + 1);
    }

    /** All that he may know behind a look, each LIKELY above 0. */
    List<String> looks(int place, String known) {
        List<String> all = new ArrayList<>();
        for (int w = 0; w < weights.length; w++) {
            if (weights[w] > 0 && agrees(w, known) && !all.contains(look(place, known, w))) {
                all.add(look(place, known, w));
            }
        }
        return all;
    }

    int hoursBetween(int a, int b, String known) {
        int d = 0;
        for (Road road : roads) {
            if (road.a == a && road.b == b || road.a == b && road.b == a) {
                if (!road.doubtful() || known.charAt(d) == 'o') {
                    return road.hours;
                }
                return known.charAt(d) == 'x' && road.delay > 0 ? road.hours + road.delay : -1;
            }
            d += road.doubtful() ? 1 : 0;
        }
        return -1;
    }

    /** A way on from a place by a known: what it takes and what may be known then and where. */
    record Way(int act, int hours, int place, List<String> knowns) { }

    List<Way> ways(int place, String known) {
        List<Way> all = new ArrayList<>();
        for (int q = 0; q < places; q++) {
            int hours = hoursBetween(place, q, known);
            if (hours > 0) {
                all.add(new Way(q, hours, q, looks(q, known)));
            }
        }
        for (int w = 0; w < words.size(); w++) {
            Word word = words.get(w);
            if (word.place == place && known.charAt(word.road) == '?') {
                List<String> told = new ArrayList<>();
                for (char sign : new char[] {'o', 'x'}) {
                    String now = known.substring(0, word.road) + sign + known.substring(word.road + 1);
                    if (likely(now) > 0) {
                        told.add(now);
                    }
                }
                all.add(new Way(100 + w, word.hours, place, told));
            }
        }
        return all;
    }

    long wayValue(Map<String, Long> values, boolean sums, Way way, String known) {
        long value = sums ? 0 : Long.MIN_VALUE;
        for (String then : way.knowns) {
            long there = way.place == goal ? 0 : values.getOrDefault(way.place + then, FAR);
            if (there >= FAR) {
                return FAR;
            }
            value = sums ? value + there : Math.max(value, there);
        }
        return value + (sums ? likely(known) * way.hours : way.hours);
    }

    Map<String, Long> solved(boolean sums) {
        Map<String, Long> values = sums ? best : sure;
        boolean changed = values.isEmpty();
        int all = (int) Math.round(Math.pow(3, doubtful.size()));
        List<Integer> froms = new ArrayList<>();
        List<String> knowns = new ArrayList<>();
        List<List<Way>> ons = new ArrayList<>();
        if (changed) {
            for (int k = 0; k < all; k++) {
                for (int p = 0; p < places; p++) {
                    if (p != goal && likely(known(k)) > 0 && allSeen(p, known(k))) {
                        froms.add(p);
                        knowns.add(known(k));
                        ons.add(ways(p, known(k)));
                    }
                }
            }
        }
        while (changed) {
            changed = false;
            for (int i = 0; i < froms.size(); i++) {
                for (Way way : ons.get(i)) {
                    long value = wayValue(values, sums, way, knowns.get(i));
                    if (value < values.getOrDefault(froms.get(i) + knowns.get(i), FAR)) {
                        values.put(froms.get(i) + knowns.get(i), value);
                        changed = true;
                    }
                }
            }
        }
        return values;
    }

    /** The one way of the greatest worth by places first, then by words. */
    int solvedAct(boolean sums, int place, String known) {
        Map<String, Long> values = solved(sums);
        long fewest = FAR;
        int act = -2;
        for (Way way : ways(place, known)) {
            long value = wayValue(values, sums, way, known);
            if (value < fewest) {
                fewest = value;
                act = way.act;
            }
        }
        return act;
    }

    long bestFrom(int place, String known) {
        long sum = 0;
        for (String then : looks(place, known)) {
            long value = place == goal ? 0 : solved(true).getOrDefault(place + then, FAR);
            if (value >= FAR) {
                return NEVER;
            }
            sum += value;
        }
        return sum;
    }

    /** Fewest hours from place to place on a known land: Floyd's way. */
    long[][] distances(String known) {
        long[][] far = new long[places][places];
        for (int a = 0; a < places; a++) {
            for (int b = 0; b < places; b++) {
                int hours = hoursBetween(a, b, known);
                far[a][b] = a == b ? 0 : hours > 0 ? hours : FAR;
            }
        }
        for (int m = 0; m < places; m++) {
            for (int a = 0; a < places; a++) {
                for (int b = 0; b < places; b++) {
                    far[a][b] = Math.min(far[a][b], far[a][m] + far[m][b]);
                }
            }
        }
        return far;
    }

    String worldKnown(int world) {
        String all = nothing();
        for (int d = 0; d < doubtful.size(); d++) {
            all = learn(all, d, world);
        }
        return all;
    }

    long knowing(int world) {
        long hours = distances(worldKnown(world))[start][goal];
        return hours >= FAR ? NEVER : hours;
    }

    int asIfAct(int place, String known, char otherwise, List<Integer> order) {
        String asIf = known;
        for (int d : order) {
            if (asIf.charAt(d) == '?') {
                asIf = asIf.substring(0, d) + 'o' + asIf.substring(d + 1);
                break;
            }
        }
        asIf = asIf.replace('?', otherwise);
        long[][] far = distances(asIf);
        for (int q = 0; q < places; q++) {
            int hours = hoursBetween(place, q, asIf);
            if (hours > 0 && far[q][goal] < FAR && hours + far[q][goal] == far[place][goal]) {
                return q;
            }
        }
        return -2;
    }

    int handAct(int place, String known) {
        for (int[] rule : rules) {
            boolean holds = rule[0] == place && (rule[1] < 0 || known.charAt(rule[1]) == "?ox".charAt(rule[2]));
            if (holds && hoursBetween(place, rule[3], known) > 0) {
                return rule[3];
            }
        }
        return -2;
    }

    /** LEAST TIMES as {hours, knowing}; an empty row: there are none. */
    long[] leastTimes() {
        if (least != null) {
            return least;
        }
        List<long[]> all = new ArrayList<>();
        long most = 1;
        for (String first : looks(start, nothing())) {
            long worst = start == goal ? 0 : solved(false).getOrDefault(start + first, FAR);
            if (worst >= FAR) {
                least = new long[0];
                return least;
            }
            most = Math.max(most, worst);
        }
        for (int w = 0; w < weights.length; w++) {
            // the sure plan's times are at most its worst hours, so no world needs more than these by its knowing
            for (long h = 0; weights[w] > 0 && h <= most * Math.max(1, knowing(w)); h++) {
                all.add(new long[] {h, Math.max(1, knowing(w))});
            }
        }
        all.sort((x, y) -> Long.compare(x[0] * y[1], y[0] * x[1]));
        int low = 0;
        int high = all.size() - 1;
        while (low < high) {
            int middle = (low + high) / 2;
            boolean can = true;
            for (String first : looks(start, nothing())) {
                can &= canEnd(start, first, 0, all.get(middle), new HashMap<>());
            }
            if (can) {
                high = middle;
            } else {
                low = middle + 1;
            }
        }
        least = all.get(low);
        return least;
    }

    /** Whether he can go on so that in each world hours in all are at most so many times by its knowing. */
    boolean canEnd(int place, String known, long gone, long[] times, Map<String, Boolean> told) {
        for (int w = 0; w < weights.length; w++) {
            if (weights[w] > 0 && agrees(w, known) && gone * times[1] > times[0] * knowing(w)) {
                return false;
            }
        }
        if (place == goal) {
            return true;
        }
        String name = place + known + gone;
        if (told.containsKey(name)) {
            return told.get(name);
        }
        boolean can = false;
        for (Way way : ways(place, known)) {
            boolean each = true;
            for (String then : way.knowns) {
                each = each && canEnd(way.place, then, gone + way.hours, times, told);
            }
            can |= each;
        }
        told.put(name, can);
        return can;
    }

    private final Map<String, Long> spares = new HashMap<>();

    /** Tries hours gone by from many down; far below none he can't go on at all. */
    long spare(int place, String known) {
        String name = place + known;
        if (!spares.containsKey(name)) {
            Map<String, Boolean> told = new HashMap<>();
            long gone = 400;
            while (gone > -400 && !canEnd(place, known, gone, leastTimes(), told)) {
                gone--;
            }
            spares.put(name, gone > -400 ? gone : -FAR);
        }
        return spares.get(name);
    }

    int fairAct(int place, String known) {
        if (leastTimes().length == 0) {
            return -2;
        }
        long most = -FAR;
        int act = -2;
        for (Way way : ways(place, known)) {
            long left = FAR;
            for (String then : way.knowns) {
                left = Math.min(left, spare(way.place, then) - way.hours);
            }
            if (left > most && left > -1000) {
                most = left;
                act = way.act;
            }
        }
        return act;
    }

    int act(int plan, int place, String known) {
        if (place == goal) {
            return -2;
        }
        switch (plan) {
            case 0: return solvedAct(true, place, known);
            case 1: return solvedAct(false, place, known);
            case 2: return fairAct(place, known);
            case 3: return asIfAct(place, known, 'o', List.of());
            case 4: return asIfAct(place, known, 'x', List.of());
            case 5: return asIfAct(place, known, 'x', row);
            default: return handAct(place, known);
        }
    }

    List<String> trail = new ArrayList<>();

    /** Walks a plan in a world; the trail keeps where he was with what known. */
    long hours(int plan, int world) {
        trail = new ArrayList<>();
        int place = start;
        String known = look(place, nothing(), world);
        long hours = 0;
        while (place != goal) {
            String here = place + known;
            int act = trail.contains(here) ? -2 : act(plan, place, known);
            trail.add(here);
            if (act < 0) {
                return NEVER;
            }
            if (act >= 100) {
                hours += words.get(act - 100).hours;
                known = learn(known, words.get(act - 100).road, world);
            } else {
                hours += hoursBetween(place, act, known);
                place = act;
                known = look(place, known, world);
            }
        }
        return hours;
    }

    long mean(int plan) {
        long sum = 0;
        for (int w = 0; w < weights.length; w++) {
            if (weights[w] > 0) {
                long hours = hours(plan, w);
                if (hours < 0) {
                    return NEVER;
                }
                sum += hours * weights[w];
            }
        }
        return sum;
    }

    long worst(int plan) {
        long most = 0;
        for (int w = 0; w < weights.length; w++) {
            if (weights[w] > 0) {
                long hours = hours(plan, w);
                if (hours < 0) {
                    return NEVER;
                }
                most = Math.max(most, hours);
            }
        }
        return most;
    }

    long[] times(int plan) {
        long[] most = null;
        for (int w = 0; w < weights.length; w++) {
            if (weights[w] > 0) {
                long hours = hours(plan, w);
                long knowing = knowing(w);
                if (hours < 0 || knowing < 0) {
                    return new long[] {NEVER, NEVER};
                }
                if (most == null || hours * most[1] > most[0] * knowing) {
                    most = new long[] {hours, knowing};
                }
            }
        }
        return most;
    }

    List<Integer> ring() {
        List<Integer> ring = new ArrayList<>();
        for (int w = 0; w < weights.length && ring.isEmpty(); w++) {
            if (weights[w] > 0 && hours(6, w) < 0) {
                String last = trail.get(trail.size() - 1);
                int first = trail.indexOf(last);
                for (int i = first; i < Math.max(first + 1, trail.size() - 1); i++) {
                    ring.add(trail.get(i).charAt(0) - '0');
                }
            }
        }
        return ring;
    }

    private final Map<String, Long> bells = new HashMap<>();

    long bell(int place, String known, int left) {
        if (place == goal) {
            return likely(known);
        }
        String name = place + known + left;
        if (!bells.containsKey(name)) {
            long most = 0;
            for (Way way : ways(place, known)) {
                long sum = 0;
                for (String then : way.knowns) {
                    sum += way.hours <= left ? bell(way.place, then, left - way.hours) : 0;
                }
                most = Math.max(most, sum);
            }
            bells.put(name, most);
        }
        return bells.get(name);
    }

    long bell(int t) {
        long sum = 0;
        for (String first : looks(start, nothing())) {
            sum += bell(start, first, t);
        }
        return sum;
    }

    /** BEST's mean of one who knows these roads as he sets out. */
    long meanKnowing(int set) {
        long sum = 0;
        List<String> outs = new ArrayList<>();
        for (int w = 0; w < weights.length; w++) {
            String known = nothing();
            for (int d = 0; d < doubtful.size(); d++) {
                known = (set >> d & 1) != 0 ? learn(known, d, w) : known;
            }
            if (weights[w] > 0 && !outs.contains(known)) {
                outs.add(known);
                long mean = bestFrom(start, known);
                if (mean < 0) {
                    return NEVER;
                }
                sum += mean;
            }
        }
        return sum;
    }

    long worth(int road) {
        return meanKnowing(0) < 0 || meanKnowing(1 << road) < 0 ? NEVER : meanKnowing(0) - meanKnowing(1 << road);
    }

    long[] scout(int c) {
        long[] found = {NEVER, NEVER};
        for (int size = 0; size <= doubtful.size(); size++) {
            for (int set = 0; set < weights.length; set++) {
                long mean = Integer.bitCount(set) == size ? meanKnowing(set) : NEVER;
                long sum = mean + (long) size * c * Arrays.stream(weights).sum();
                if (mean >= 0 && (found[0] < 0 || sum < found[1])) {
                    found = new long[] {set, sum};
                }
            }
        }
        return found;
    }

    long keep(int road) {
        long[] told = weights;
        long[] moved = new long[told.length];
        for (int w = 0; w < told.length; w++) {
            moved[w & ~(1 << road)] += told[w];
        }
        weigh(moved);
        long mean = bestFrom(start, nothing());
        weigh(told);
        return mean;
    }

    int edge(int road) {
        long[] told = weights;
        Map<String, Integer> acts = startActs();
        int edge = 11;
        for (int n = doubtful.get(road).doubt + 1; n <= 10 && edge == 11; n++) {
            weigh(countRows(road, n));
            for (Map.Entry<String, Integer> other : startActs().entrySet()) {
                if (acts.containsKey(other.getKey()) && !acts.get(other.getKey()).equals(other.getValue())) {
                    edge = n;
                }
            }
        }
        weigh(told);
        return edge;
    }

    private Map<String, Integer> startActs() {
        Map<String, Integer> acts = new HashMap<>();
        for (String known : looks(start, nothing())) {
            acts.put(known, act(0, start, known));
        }
        return acts;
    }

    /** ROWS: the mean, then the roads. */
    List<Long> rows() {
        List<Integer> kept = new ArrayList<>(row);
        List<Long> found = new ArrayList<>();
        tryRows(new ArrayList<>(), found);
        row.clear();
        row.addAll(kept);
        return found;
    }

    private void tryRows(List<Integer> order, List<Long> found) {
        if (order.size() < doubtful.size()) {
            for (int d = 0; d < doubtful.size(); d++) {
                if (!order.contains(d)) {
                    order.add(d);
                    tryRows(order, found);
                    order.remove(order.size() - 1);
                }
            }
            return;
        }
        row.clear();
        row.addAll(order);
        long mean = mean(5);
        if (found.isEmpty() || mean >= 0 && (found.get(0) < 0 || mean < found.get(0))) {
            found.clear();
            found.add(mean);
            order.forEach(d -> found.add((long) d));
        }
    }
}
