import java.util.NoSuchElementException;
import java.util.Random;

/** Lands at the document's limits: what must hold between answers, and that no arguments make a call throw. */
public final class BigTest {
    private static final int[] ODD = {-2147483648, -100, -3, -2, -1, 7, 10, 11, 24, 49, 64, 99, 100, 101, 105, 106, 729,
        1000000, 2147483647};

    private final Random random;

    private BigTest(long seed) {
        random = new Random(seed);
    }

    public static void main(String[] args) {
        for (int seed = 0; seed < 12; seed++) {
            BigTest test = new BigTest(seed);
            Check.about = "seed " + seed;
            test.hold();
            test.drive();
        }
        for (int seed = 100; seed < 106; seed++) {
            Check.about = "seed " + seed;
            new BigTest(seed).holdRows();
        }
        Check.end("BigTest");
    }

    /** Ten places, 24 roads of which six are doubtful, two causes, six words, some sights, in 600 bytes. */
    private String draw() {
        StringBuilder text = new StringBuilder("place a b c d e f g h i j;cause r 3;cause q 4;from a;to j;");
        boolean[] told = new boolean[100];
        int doubtful = 0;
        StringBuilder more = new StringBuilder();
        for (int roads = 0; roads < 24;) {
            int a = roads < 9 ? roads : random.nextInt(10);
            int b = roads < 9 ? roads + 1 : random.nextInt(10);
            if (a == b || told[a * 10 + b]) {
                continue;
            }
            told[a * 10 + b] = true;
            told[b * 10 + a] = true;
            String ends = " " + (char) ('a' + a) + " " + (char) ('a' + b) + " ";
            text.append("road").append(ends).append(1 + random.nextInt(9));
            if (doubtful < 6 && random.nextInt(3) == 0) {
                doubtful++;
                text.append(new String[] {" doubt 4", " by r", " by q wait 9", " doubt 9 wait 5"}[random.nextInt(4)]);
                more.append("inn ").append((char) ('a' + random.nextInt(10))).append(ends).append("1;");
                if (random.nextInt(3) == 0) {
                    more.append("sees ").append((char) ('a' + random.nextInt(10))).append(ends).append(";");
                }
            }
            text.append(';');
            roads++;
        }
        return text.append(more).toString();
    }

    private void hold() {
        String text = draw();
        ShutPasses x = new ShutPasses();
        Check.due(text, Check.land(x, text) > 24 && text.length() <= 600, true);
        int worlds = 1 << x.count(2);
        long all = 0;
        for (int w = 0; w < worlds; w++) {
            all += x.weight(w);
        }
        Check.due("sum of weights", x.likely(0), all);
        Check.due("from", x.from(0, 0), x.mean(0));
        for (int plan = 0; plan <= 5; plan++) {
            // an object is used for at most 512 calls
            holdPlan(Check.landed(text), plan, worlds);
        }
        long least = x.rows(0);
        for (int i = 1; i <= x.count(2); i++) {
            x.row((int) x.rows(i));
        }
        Check.due("mean by the best row", x.mean(5), least);
        long before = 0;
        for (int t = 0; t <= 48; t++) {
            Check.due("bells rise", x.bell(t) >= before && x.bell(t) <= all, true);
            before = x.bell(t);
        }
        if (x.worst(1) >= 0 && x.worst(1) <= 48) {
            Check.due("bell of the sure hours", x.bell(x.worst(1)), all);
        }
        holdAdvice(Check.landed(text));
    }

    private void holdPlan(ShutPasses x, int plan, int worlds) {
        long sum = 0;
        int worst = 0;
        for (int w = 0; w < worlds; w++) {
            if (x.weight(w) > 0) {
                int hours = x.hours(plan, w);
                sum = hours < 0 || sum < 0 ? -2 : sum + hours * x.weight(w);
                worst = hours < 0 || worst < 0 ? -2 : Math.max(worst, hours);
                Check.due("knowing is least", hours < 0 || hours >= x.knowing(w), true);
            }
        }
        Check.due("mean(" + plan + ")", x.mean(plan), sum);
        Check.due("worst(" + plan + ")", x.worst(plan), worst);
        Check.due("best is best", sum < 0 || x.mean(0) <= sum, true);
        Check.due("sure is sure", sum < 0 || x.worst(1) <= worst, true);
        Check.due("fair is fair", sum < 0 || (long) x.times(2, 0) * x.times(plan, 1)
                <= (long) x.times(plan, 0) * x.times(2, 1), true);
    }

    private void holdAdvice(ShutPasses x) {
        int roads = x.count(1);
        for (int d = 0; d < x.count(2); d++) {
            Check.due("knowing more is no worse", x.worth(d) >= 0, true);
            Check.due("a road kept open is no worse than shut by chance", x.keep(d) >= 0, true);
            int edge = x.edge(d);
            boolean has = false;
            for (int road = 0; road < roads; road++) {
                has |= x.look(road, 6) == d && x.look(road, 3) > 0;
            }
            Check.due("edge", has ? edge >= 2 && edge <= 11 : edge == -1, true);
        }
        Check.due("looking at all for nothing", x.scout(0, 1) <= x.mean(0), true);
        Check.due("looking ahead is free not to", x.scout(99, 1) <= x.mean(0), true);
    }

    private String text;
    private ShutPasses tried;
    private int rows;
    private long least;
    private int[] first;

    /** All rows tried one by one, each by row() and mean(5). */
    private void holdRows() {
        text = draw();
        least = -1;
        tryRows(new int[Check.landed(text).count(2)], 0);
        ShutPasses x = Check.landed(text);
        Check.due("rows(0)", x.rows(0), least < 0 ? -2 : least);
        for (int i = 0; least >= 0 && i < first.length; i++) {
            Check.due("rows(" + (i + 1) + ")", x.rows(i + 1), first[i]);
        }
    }

    private void tryRows(int[] row, int size) {
        if (size == row.length) {
            // an object is used for at most 512 calls
            tried = rows % 40 == 0 ? Check.landed(text) : tried;
            rows++;
            tried.clear();
            for (int road : row) {
                tried.row(road);
            }
            long mean = tried.mean(5);
            if (mean >= 0 && (least < 0 || mean < least)) {
                least = mean;
                first = row.clone();
            }
            return;
        }
        for (int road = 0; road < row.length; road++) {
            boolean used = false;
            for (int i = 0; i < size; i++) {
                used |= row[i] == road;
            }
            if (!used) {
                row[size] = road;
                tryRows(row, size + 1);
            }
        }
    }

    private int number(int most) {
        return random.nextInt(4) == 0 ? ODD[random.nextInt(ODD.length)] : random.nextInt(most);
    }

    private void drive() {
        ShutPasses x = new ShutPasses();
        if (random.nextInt(6) > 0) {
            Check.land(x, draw());
        }
        for (int call = 0; call < 400; call++) {
            int which = random.nextInt(32);
            try {
                call(x, which);
            } catch (IndexOutOfBoundsException | NoSuchElementException e) {
                Check.due("call " + which + " throws " + e, which, 4);
            }
        }
    }

    private void call(ShutPasses x, int which) {
        switch (which) {
            case 0: case 1: x.feed(number(9), number(9), random.nextInt(), random.nextInt(), 1886151011); break;
            case 2: x.land(random.nextInt(9) > 0 ? -1 : number(60)); break;
            case 3: x.fault(number(3)); break;
            case 4: x.look(number(24), number(7)); break;
            case 5: x.weight(number(64)); break;
            case 6: x.likely(number(729)); break;
            case 7: x.shut(number(729), number(6)); break;
            case 8: x.knowing(number(64)); break;
            case 9: x.mean(number(7)); break;
            case 10: x.worst(number(7)); break;
            case 11: x.hours(number(7), number(64)); break;
            case 12: x.times(number(7), number(2)); break;
            case 13: x.next(number(7), number(10), number(729)); break;
            case 14: x.from(number(10), number(729)); break;
            case 15: x.row(number(6)); break;
            case 16: x.clear(); break;
            case 17: x.rows(number(7)); break;
            case 18: x.rule(number(10), number(6), number(3), number(10)); break;
            case 19: x.ring(number(10)); break;
            case 20: x.bell(number(49)); break;
            case 21: x.worth(number(6)); break;
            case 22: x.scout(number(100), number(2)); break;
            case 23: x.keep(number(6)); break;
            case 24: x.edge(number(6)); break;
            case 25: x.begin(number(1000000)); break;
            case 26: case 27: x.go(number(10)); break;
            case 28: x.buy(number(6)); break;
            case 29: x.back(); break;
            case 30: x.walk(number(6)); break;
            default: x.count(number(9)); break;
        }
    }
}
