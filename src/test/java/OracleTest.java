import java.util.ArrayList;
import java.util.List;
import java.util.Random;

/** Compares all answers on many small lands, drawn by fixed seeds, with the oracle's. */
public final class OracleTest {
    private final Random random;
    private final Oracle oracle = new Oracle();
    private final StringBuilder text = new StringBuilder();
    private static int bought;
    private ShutPasses object;
    private int calls;

    private OracleTest(long seed) {
        random = new Random(seed);
    }

    public static void main(String[] args) {
        int from = args.length > 0 ? Integer.parseInt(args[0]) : 0;
        int to = args.length > 1 ? Integer.parseInt(args[1]) : 250;
        for (int seed = from; seed < to; seed++) {
            OracleTest test = new OracleTest(seed);
            if (seed % 5 == 4) {
                test.drawGates();
            } else {
                test.draw();
            }
            Check.about = "seed " + seed + " " + test.text;
            test.compare();
        }
        Check.due("many words were bought", bought > 2 * (to - from), true);
        Check.end("OracleTest");
    }

    private int some(int least, int most) {
        return least + random.nextInt(most - least + 1);
    }

    private static char name(int place) {
        return (char) ('k' + place);
    }

    /** Few different hours make many ways equally good. */
    private void draw() {
        int most = random.nextInt(3) == 0 ? 2 : random.nextInt(2) == 0 ? 9 : 4;
        oracle.places = some(2, 6);
        text.append("place");
        for (int p = 0; p < oracle.places; p++) {
            text.append(' ').append(name(p));
        }
        text.append(';');
        int causes = random.nextInt(3);
        for (int c = 0; c < causes; c++) {
            int odds = some(1, 9);
            oracle.causes.add(odds);
            text.append("cause ").append((char) ('k' + c)).append(' ').append(odds).append(';');
        }
        drawRoads(most, some(0, 4 - (causes > 1 ? 1 : 0)));
        for (int i = some(0, 3); i > 0 && !oracle.doubtful.isEmpty(); i--) {
            int p = some(0, oracle.places - 1);
            int d = some(0, oracle.doubtful.size() - 1);
            oracle.sights.add(new int[] {p, d});
            text.append("sees ").append(name(p)).append(ends(d)).append(';');
        }
        for (int i = some(0, 3); i > 0 && !oracle.doubtful.isEmpty(); i--) {
            tellWord(some(0, oracle.places - 1), some(0, oracle.doubtful.size() - 1), some(1, most > 4 ? 3 : 1));
        }
        boolean plain = random.nextInt(3) > 0;
        oracle.start = plain ? 0 : some(0, oracle.places - 1);
        oracle.goal = plain ? oracle.places - 1 : some(0, oracle.places - 1);
        text.append("to ").append(name(oracle.goal)).append(";from ").append(name(oracle.start)).append(';');
        oracle.weigh(oracle.countRows(-1, 0));
    }

    /** Gates that lie apart and one sure way: word of them is worth its hour. */
    private void drawGates() {
        int gates = some(2, 4);
        oracle.places = gates + 2;
        oracle.goal = gates + 1;
        oracle.start = 0;
        text.append("place");
        for (int p = 0; p < oracle.places; p++) {
            text.append(' ').append(name(p));
        }
        int odds = some(1, 9);
        oracle.causes.add(odds);
        text.append(";cause z ").append(odds).append(";from k;to ").append(name(oracle.goal)).append(';');
        for (int gate = 1; gate <= gates; gate++) {
            int cause = random.nextInt(4) == 0 ? 0 : -1;
            tellRoad(new Oracle.Road(0, gate, some(2, 6), 0, -1, 0), 'z');
            tellRoad(new Oracle.Road(gate, oracle.goal, some(1, 6), cause < 0 ? some(2, 8) : some(0, 5), cause,
                    random.nextInt(3) == 0 ? some(5, 20) : 0), 'z');
        }
        tellRoad(new Oracle.Road(0, oracle.goal, some(12, 20), 0, -1, 0), 'z');
        for (int i = some(1, 4); i > 0; i--) {
            tellWord(some(0, 2) == 0 ? some(1, gates) : 0, some(0, gates - 1), some(1, 2));
        }
        oracle.weigh(oracle.countRows(-1, 0));
    }

    private void tellWord(int place, int road, int hours) {
        oracle.words.add(new Oracle.Word(place, road, hours));
        text.append("inn ").append(name(place)).append(ends(road)).append(' ').append(hours).append(';');
    }

    /** The first cause has this name, the next one that which follows. */
    private void tellRoad(Oracle.Road road, char cause) {
        oracle.addRoad(road);
        text.append("road ").append(name(road.a())).append(' ').append(name(road.b())).append(' ').append(road.hours());
        text.append(road.doubt() > 0 ? " doubt " + road.doubt() : "");
        text.append(road.cause() >= 0 ? " by " + (char) (cause + road.cause()) : "");
        text.append(road.delay() > 0 ? " wait " + road.delay() : "").append(';');
    }

    private String ends(int d) {
        Oracle.Road road = oracle.doubtful.get(d);
        boolean turned = random.nextBoolean();
        return " " + name(turned ? road.b() : road.a()) + " " + name(turned ? road.a() : road.b());
    }

    private void drawRoads(int most, int doubtful) {
        List<int[]> pairs = new ArrayList<>();
        for (int a = 0; a < oracle.places; a++) {
            for (int b = 0; b < a; b++) {
                pairs.add(random.nextBoolean() ? new int[] {a, b} : new int[] {b, a});
            }
        }
        java.util.Collections.shuffle(pairs, random);
        int count = Math.min(pairs.size(), some(oracle.places - 1, oracle.places + 4));
        for (int i = 0; i < count; i++) {
            int[] pair = pairs.get(i);
            boolean open = oracle.doubtful.size() >= doubtful || random.nextInt(4) == 0;
            int doubt = open || random.nextInt(4) == 0 ? 0 : some(1, 9);
            int cause = open || oracle.causes.isEmpty() || random.nextBoolean() ? -1
                    : some(0, oracle.causes.size() - 1);
            int wait = doubt == 0 && cause < 0 || random.nextBoolean() ? 0 : some(1, most + 3);
            int hours = some(1, most);
            tellRoad(new Oracle.Road(pair[0], pair[1], hours, doubt, cause, wait), 'k');
        }
    }

    /** An object with the land, its rules and its row for some calls more: each is used for at most 512. */
    private ShutPasses with(int more) {
        if (object == null || calls + more > 512) {
            object = new ShutPasses();
            Check.due("land", Check.land(object, text.toString()) >= 0, true);
            calls = (text.length() + 19) / 20 + 1;
            for (int i = 0; i < oracle.rules.size(); i++) {
                Check.due("rule", rule(object, oracle.rules.get(i)), i);
            }
            for (int i = 0; i < oracle.row.size(); i++) {
                Check.due("row", object.row(oracle.row.get(i)), i + 1);
            }
            calls += oracle.rules.size() + oracle.row.size();
        }
        calls += more;
        return object;
    }

    private static int rule(ShutPasses x, int[] rule) {
        return x.rule(rule[0], rule[1], rule[2], rule[3]);
    }

    private void compare() {
        int worlds = oracle.weights.length;
        int knowns = (int) Math.round(Math.pow(3, oracle.doubtful.size()));
        for (int w = 0; w < worlds; w++) {
            Check.due("weight(" + w + ")", with(1).weight(w), oracle.weights[w]);
            Check.due("knowing(" + w + ")", with(1).knowing(w), oracle.knowing(w));
        }
        compareKnowns(knowns);
        setRules();
        for (int round = 0; round < 2; round++) {
            for (int plan = 0; plan <= 6; plan++) {
                comparePlan(plan, knowns);
            }
            setRow();
        }
        compareRing();
        compareAdvice();
        for (int t = 0; t <= 48; t++) {
            Check.due("bell(" + t + ")", with(1).bell(t), oracle.bell(t));
        }
        for (int i = 0; i < 5; i++) {
            compareWalk(with(200));
        }
    }

    private void compareKnowns(int knowns) {
        for (int k = 0; k < knowns; k++) {
            String known = oracle.known(k);
            Check.due("likely(" + k + ")", with(1).likely(k), oracle.likely(known));
            for (int d = 0; d < oracle.doubtful.size(); d++) {
                long shut = known.charAt(d) == 'o' ? 0
                        : oracle.likely(known.substring(0, d) + 'x' + known.substring(d + 1));
                Check.due("shut(" + k + ", " + d + ")", with(1).shut(k, d), shut);
            }
            for (int p = 0; p < oracle.places; p++) {
                long mean = oracle.likely(known) > 0 ? oracle.bestFrom(p, known) : -1;
                Check.due("from(" + p + ", " + k + ")", with(1).from(p, k), mean);
            }
        }
    }

    private void comparePlan(int plan, int knowns) {
        Check.due("mean(" + plan + ")", with(1).mean(plan), oracle.mean(plan));
        Check.due("worst(" + plan + ")", with(1).worst(plan), oracle.worst(plan));
        long[] times = oracle.times(plan);
        Check.due("times(" + plan + ", 0)", with(1).times(plan, 0), times[0]);
        Check.due("times(" + plan + ", 1)", with(1).times(plan, 1), times[1]);
        for (int w = 0; w < oracle.weights.length; w++) {
            long hours = oracle.weights[w] > 0 ? oracle.hours(plan, w) : -1;
            Check.due("hours(" + plan + ", " + w + ")", with(1).hours(plan, w), hours);
        }
        for (int k = 0; k < knowns; k++) {
            String known = oracle.known(k);
            for (int p = 0; p < oracle.places; p++) {
                boolean can = oracle.likely(known) > 0 && oracle.allSeen(p, known);
                long next = can ? oracle.act(plan, p, known) : -1;
                bought += next >= 100 ? 1 : 0;
                Check.due("next(" + plan + ", " + p + ", " + k + ")", with(1).next(plan, p, k), next);
            }
        }
    }

    private void setRules() {
        int count = some(0, 12);
        for (int i = 0; i < count; i++) {
            int d = oracle.doubtful.isEmpty() || random.nextBoolean() ? -1 : some(0, oracle.doubtful.size() - 1);
            int[] rule = {some(0, oracle.places - 1), d, some(0, 2), some(0, oracle.places - 1)};
            Check.due("rule", rule(with(1), rule), i);
            oracle.rules.add(rule);
        }
    }

    private void setRow() {
        for (int d = oracle.doubtful.size() - 1; d >= 0; d--) {
            if (oracle.row.contains(d)) {
                Check.due("row(" + d + ")", with(1).row(d), -1);
            } else if (random.nextInt(3) > 0) {
                Check.due("row(" + d + ")", with(1).row(d), oracle.row.size() + 1);
                oracle.row.add(d);
            }
        }
    }

    private void compareRing() {
        List<Integer> ring = oracle.ring();
        for (int k = 0; k < ring.size(); k++) {
            Check.due("ring(" + k + ")", with(1).ring(k), ring.get(k));
        }
        Check.due("ring's end", with(1).ring(ring.size()), -1);
    }

    private void compareAdvice() {
        for (int d = 0; d < oracle.doubtful.size(); d++) {
            Check.due("worth(" + d + ")", with(1).worth(d), oracle.worth(d));
            Check.due("keep(" + d + ")", with(1).keep(d), oracle.keep(d));
            Check.due("edge(" + d + ")", with(1).edge(d), oracle.doubtful.get(d).doubt() > 0 ? oracle.edge(d) : -1);
        }
        for (int c : new int[] {0, 1, 2, some(0, 99)}) {
            long[] scout = oracle.scout(c);
            Check.due("scout(" + c + ", 0)", with(1).scout(c, 0), scout[0]);
            Check.due("scout(" + c + ", 1)", with(1).scout(c, 1), scout[1]);
        }
        List<Long> rows = oracle.rows();
        for (int what = 0; what <= 6; what++) {
            Check.due("rows(" + what + ")", with(1).rows(what), what < rows.size() ? rows.get(what) : -1);
        }
    }

    private int drawWorld(int seed) {
        int number = seed;
        int world = 0;
        for (int d = 0; d < oracle.doubtful.size(); d++) {
            if (oracle.doubtful.get(d).doubt() > 0) {
                number = number * 1103515245 + 12345 & Integer.MAX_VALUE;
                world |= number / 65536 % 10 < oracle.doubtful.get(d).doubt() ? 1 << d : 0;
            }
        }
        for (int c = 0; c < oracle.causes.size(); c++) {
            number = number * 1103515245 + 12345 & Integer.MAX_VALUE;
            for (int d = 0; d < oracle.doubtful.size(); d++) {
                boolean shut = oracle.doubtful.get(d).cause() == c && number / 65536 % 10 < oracle.causes.get(c);
                world |= shut ? 1 << d : 0;
            }
        }
        return world;
    }

    private void compareWalk(ShutPasses x) {
        int seed = random.nextInt(Integer.MAX_VALUE);
        Check.due("begin(" + seed + ")", x.begin(seed), true);
        int world = drawWorld(seed);
        List<Object[]> steps = new ArrayList<>();
        steps.add(new Object[] {oracle.start, 0, oracle.look(oracle.start, oracle.nothing(), world)});
        for (int i = 0; i < 25; i++) {
            Object[] now = steps.get(steps.size() - 1);
            int place = (Integer) now[0];
            int hours = (Integer) now[1];
            String known = (String) now[2];
            Check.due("walk(0)", x.walk(0), place);
            Check.due("walk(1)", x.walk(1), hours);
            Check.due("walk(2)", x.walk(2), number(known));
            Check.due("walk(3)", x.walk(3), steps.size() - 1);
            Check.due("walk(4)", x.walk(4), world);
            Check.due("walk(5)", x.walk(5), place == oracle.goal ? 1 : 0);
            step(x, world, steps, place, hours, known);
        }
    }

    private void step(ShutPasses x, int world, List<Object[]> steps, int place, int hours, String known) {
        int choice = random.nextInt(10);
        if (choice == 0) {
            Check.due("back()", x.back(), steps.size() > 1 ? steps.size() - 2 : -1);
            if (steps.size() > 1) {
                steps.remove(steps.size() - 1);
            }
        } else if (choice < 4) {
            int w = some(-1, 4);
            boolean can = place != oracle.goal && w >= 0 && w < oracle.words.size()
                    && oracle.words.get(w).place() == place && known.charAt(oracle.words.get(w).road()) == '?';
            int want = can ? 1 + (world >> oracle.words.get(w).road() & 1) : -1;
            Check.due("buy(" + w + ")", x.buy(w), want);
            if (can) {
                Oracle.Word word = oracle.words.get(w);
                steps.add(new Object[] {place, hours + word.hours(), oracle.learn(known, word.road(), world)});
            }
        } else {
            int q = some(-1, oracle.places);
            int pass = q < 0 || q >= oracle.places || place == oracle.goal ? -1
                    : oracle.hoursBetween(place, q, known);
            Check.due("go(" + q + ")", x.go(q), pass > 0 ? hours + pass : -1);
            if (pass > 0) {
                steps.add(new Object[] {q, hours + pass, oracle.look(q, known, world)});
            }
        }
    }

    private static int number(String known) {
        int number = 0;
        for (int d = known.length() - 1; d >= 0; d--) {
            number = number * 3 + "?ox".indexOf(known.charAt(d));
        }
        return number;
    }
}
