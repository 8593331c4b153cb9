import java.util.HashMap;
import java.util.Map;
import java.util.Random;

/**
 * What the document says of "a PLAN" and "any PLAN", by telling every plan there is on small drawn lands: a plan is a way
 * for each place and known that it comes to, walked through each world. Nothing is solved here, only counted.
 */
public final class EveryPlanTest {
    private static final int MOST_PLANS = 60000;
    private static final int BELLS = 49;

    private final Random random;
    private final Oracle oracle = new Oracle();
    private final StringBuilder text = new StringBuilder();
    private final Map<String, Integer> plan = new HashMap<>();
    private long[] hours;
    private long[] knowings;
    private int plans;
    private long leastMean = Oracle.FAR;
    private long leastWorst = Oracle.FAR;
    private long[] leastTimes;
    private final long[] greatestBells = new long[BELLS];
    private static int lands;
    private static int never;
    private static int bought;
    private static int plansInAll;

    private EveryPlanTest(long seed) {
        random = new Random(seed);
    }

    public static void main(String[] args) {
        int from = args.length > 0 ? Integer.parseInt(args[0]) : 0;
        int to = args.length > 1 ? Integer.parseInt(args[1]) : 200;
        for (int seed = from; seed < to; seed++) {
            new EveryPlanTest(seed).tryLand(seed % 5 == 0);
        }
        Check.about = "EveryPlanTest";
        Check.due("most lands were small enough", 2 * lands > to - from, true);
        Check.due("some lands without an end", never > 0, true);
        Check.due("some words were worth it", bought > 0, true);
        Check.due("many plans were told", plansInAll > 10 * lands, true);
        Check.end("EveryPlanTest");
    }

    private void tryLand(boolean gates) {
        if (gates) {
            drawGates();
        } else {
            draw();
        }
        Check.about = text.toString();
        hours = new long[oracle.weights.length];
        knowings = new long[hours.length];
        for (int w = 0; w < hours.length; w++) {
            knowings[w] = oracle.knowing(w);
        }
        tell(0);
        if (plans <= MOST_PLANS) {
            lands++;
            plansInAll += plans;
            compare();
        }
    }

    private int some(int least, int most) {
        return least + random.nextInt(most - least + 1);
    }

    private static char name(int place) {
        return (char) ('a' + place);
    }

    /** Two gates apart from each other and a sure long way: word of a gate may be worth its hour. */
    private void drawGates() {
        oracle.places = 4;
        oracle.goal = 3;
        oracle.start = 0;
        oracle.causes.add(some(1, 9));
        text.append("place a b c d;from a;to d;cause c ").append(oracle.causes.get(0)).append(';');
        tellRoad(new Oracle.Road(0, 1, some(2, 5), 0, -1, 0));
        tellRoad(new Oracle.Road(0, 2, some(2, 5), 0, -1, 0));
        tellRoad(new Oracle.Road(1, 3, some(1, 5), some(2, 8), random.nextBoolean() ? 0 : -1, 0));
        tellRoad(new Oracle.Road(2, 3, some(1, 5), some(2, 8), random.nextBoolean() ? 0 : -1, 0));
        tellRoad(new Oracle.Road(0, 3, some(9, 16), 0, -1, 0));
        oracle.weigh(oracle.countRows(-1, 0));
        drawWord(0);
    }

    private void draw() {
        oracle.places = some(2, 4);
        oracle.goal = oracle.places - 1;
        oracle.start = 0;
        text.append("place");
        for (int p = 0; p < oracle.places; p++) {
            text.append(' ').append(name(p));
        }
        text.append(";from a;to ").append(name(oracle.goal)).append(';');
        if (random.nextBoolean()) {
            oracle.causes.add(some(1, 9));
            text.append("cause c ").append(oracle.causes.get(0)).append(';');
        }
        int doubts = some(1, 3);
        for (int b = 1; b < oracle.places; b++) {
            for (int a = 0; a < b; a++) {
                if (random.nextInt(4) > 0) {
                    drawRoad(a, b, oracle.doubtful.size() < doubts && random.nextInt(3) > 0);
                }
            }
        }
        oracle.weigh(oracle.countRows(-1, 0));
        if (!oracle.doubtful.isEmpty()) {
            drawWord(some(0, oracle.places - 1));
        }
    }

    private void drawRoad(int a, int b, boolean doubtful) {
        int cause = doubtful && !oracle.causes.isEmpty() && random.nextInt(3) > 0 ? 0 : -1;
        int doubt = !doubtful ? 0 : cause < 0 ? some(1, 9) : some(0, 1) * some(1, 9);
        int wait = doubtful && random.nextInt(3) == 0 ? some(1, 9) : 0;
        tellRoad(new Oracle.Road(a, b, some(1, 9), doubt, cause, wait));
    }

    private void tellRoad(Oracle.Road road) {
        oracle.addRoad(road);
        text.append("road ").append(name(road.a())).append(' ').append(name(road.b())).append(' ').append(road.hours());
        text.append(road.doubt() > 0 ? " doubt " + road.doubt() : "").append(road.cause() >= 0 ? " by c" : "");
        text.append(road.delay() > 0 ? " wait " + road.delay() : "").append(';');
    }

    private void drawWord(int inn) {
        int d = some(0, oracle.doubtful.size() - 1);
        Oracle.Road road = oracle.doubtful.get(d);
        text.append("inn ").append(name(inn)).append(' ').append(name(road.a())).append(' ').append(name(road.b()));
        text.append(" 1;");
        oracle.words.add(new Oracle.Word(inn, d, 1));
    }

    /** Walks on through the worlds; where the plan tells nothing yet, each way is told in turn. */
    private void tell(int world) {
        if (plans > MOST_PLANS) {
            return;
        }
        if (world == hours.length) {
            plans++;
            note();
            return;
        }
        if (oracle.weights[world] == 0) {
            tell(world + 1);
            return;
        }
        walk(world, oracle.start, oracle.look(oracle.start, oracle.nothing(), world), 0, 0);
    }

    private void walk(int world, int place, String known, long gone, int steps) {
        if (place == oracle.goal || steps > 40) {
            hours[world] = place == oracle.goal ? gone : Oracle.NEVER;
            tell(world + 1);
            return;
        }
        String here = place + known;
        if (plan.containsKey(here)) {
            follow(world, place, known, gone, steps, plan.get(here));
            return;
        }
        // to stay is a way, too; it is all there is to tell where no road goes on
        plan.put(here, -2);
        follow(world, place, known, gone, steps, -2);
        for (Oracle.Way way : oracle.ways(place, known)) {
            plan.put(here, way.act());
            follow(world, place, known, gone, steps, way.act());
        }
        plan.remove(here);
    }

    private void follow(int world, int place, String known, long gone, int steps, int act) {
        if (act < 0) {
            hours[world] = Oracle.NEVER;
            tell(world + 1);
        } else if (act >= 100) {
            Oracle.Word word = oracle.words.get(act - 100);
            walk(world, place, oracle.learn(known, word.road(), world), gone + word.hours(), steps + 1);
        } else {
            long pass = oracle.hoursBetween(place, act, known);
            walk(world, act, oracle.look(act, known, world), gone + pass, steps + 1);
        }
    }

    private void note() {
        long mean = 0;
        long worst = 0;
        long[] times = null;
        boolean ends = true;
        for (int t = 0; t < BELLS; t++) {
            long sum = 0;
            for (int w = 0; w < hours.length; w++) {
                sum += oracle.weights[w] > 0 && hours[w] >= 0 && hours[w] <= t ? oracle.weights[w] : 0;
            }
            greatestBells[t] = Math.max(greatestBells[t], sum);
        }
        for (int w = 0; w < hours.length && ends; w++) {
            if (oracle.weights[w] > 0) {
                ends = hours[w] >= 0;
                mean += oracle.weights[w] * hours[w];
                worst = Math.max(worst, hours[w]);
                if (times == null || hours[w] * times[1] > times[0] * knowings[w]) {
                    times = new long[] {hours[w], knowings[w]};
                }
            }
        }
        if (ends) {
            leastMean = Math.min(leastMean, mean);
            leastWorst = Math.min(leastWorst, worst);
            if (leastTimes == null || times[0] * leastTimes[1] < leastTimes[0] * times[1]) {
                leastTimes = times;
            }
        }
    }

    private void compare() {
        ShutPasses x = Check.landed(text.toString());
        boolean none = leastTimes == null;
        never += none ? 1 : 0;
        Check.due("BEST's mean", x.mean(0), none ? Oracle.NEVER : leastMean);
        Check.due("from", x.from(0, 0), none ? Oracle.NEVER : leastMean);
        Check.due("SURE's worst", x.worst(1), none ? Oracle.NEVER : leastWorst);
        long over = x.times(2, 0);
        long by = x.times(2, 1);
        Check.due("FAIR has times", over >= 0, !none);
        if (!none) {
            Check.due("LEAST TIMES", over * leastTimes[1], leastTimes[0] * by);
        }
        for (int p = 3; p <= 5 && !none; p++) {
            Check.due("no mean is below BEST's", x.mean(p) < 0 || x.mean(p) >= leastMean, true);
            Check.due("no worst is below SURE's", x.worst(p) < 0 || x.worst(p) >= leastWorst, true);
        }
        for (int t = 0; t < BELLS; t++) {
            Check.due("bell(" + t + ")", x.bell(t), greatestBells[t]);
        }
        bought += x.next(0, 0, 0) >= 100 ? 1 : 0;
    }
}
