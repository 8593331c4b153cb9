/** 'Terms' 2 to 4 (WORLDS, KNOWN, PLANS, advice) and promises 6 to 25, sentence by sentence, at the edges they name. */
public final class PlanBoundsTest {
    private static final int LEAST = -2147483648;
    private static final int GREATEST = 2147483647;
    /** Five hours by a if a t is open, 14 if not; ten straight. */
    private static final String STRAIGHT = "place s a t;from s;to t;road s t 10;road s a 2;road a t 3 doubt 5;";
    /** Open two hours, shut never. */
    private static final String NEVER = "place s a t;from s;to t;road s a 1;road a t 1 doubt 1;";
    /** A road to the right and one to the left, both shut as r comes; only one of them can be waited at. */
    private static final String TOGETHER = "place s a t;cause r 5;from s;to t;road s a 1 by r;road a t 1;"
            + "road s t 9 by r wait 1;";
    /** Nine roads of 99 hours in a row; six may be shut by themselves and by a cause, for 99 hours more. */
    private static final String LONG = "place a b c d e f g h i j;cause r 9;cause q 9;from a;to j;"
            + "road a b 99 doubt 9 by r wait 99;road b c 99 doubt 9 by r wait 99;road c d 99 doubt 9 by r wait 99;"
            + "road d e 99 doubt 9 by q wait 99;road e f 99 doubt 9 by q wait 99;road f g 99 doubt 9 by q wait 99;"
            + "road g h 99;road h i 99;road i j 99;";
    /** Ten places, 24 roads, six doubtful, two causes, eight sights at a, six words; to is an hour off. */
    private static final String ALL = "place a b c d e f g h i j;cause r 9;cause q 9;from a;to b;"
            + "road c d1doubt9by r wait99;road d e1doubt9by r;road e f1doubt9by r;road f g1doubt9by q;road g h1doubt9by q;"
            + "road h i1doubt9by q wait1;road a b1;road a c1;road a d1;road a e1;road a f1;road a g1;road a h1;road a i1;"
            + "road a j1;road b c1;road b d1;road b e1;road b f1;road b g1;road b h1;road b i1;road b j1;road c e1;"
            + "sees a c d;sees a d e;sees a e f;sees a f g;sees a g h;sees a h i;sees b c d;sees a c d;"
            + "inn a c d1;inn j d e2;inn j e f3;inn j f g4;inn j g h5;inn j h i99;";

    public static void main(String[] args) {
        weightsAndKnowns();
        theGreatestLand();
        theLongestHours();
        withoutFromOrTo();
        noSuchNumbers();
        noneGoesFirst();
        unlikelyWorldsDoNotCount();
        endsNotInAll();
        goingAndWaiting();
        toAndFro();
        ties();
        sureInfers();
        inferredByOneRow();
        seenAtBothEnds();
        wordsElsewhere();
        leastTimes();
        fairEndsUnknowing();
        fairTriesOrBuys();
        greatestTimes();
        meansFromElsewhere();
        rowsOfSix();
        rowsInAnyOrder();
        theRow();
        thirtyRules();
        rulesAndWaits();
        rings();
        bells();
        worth();
        scout();
        keep();
        edge();
        Check.end("PlanBoundsTest");
    }

    private static void weightsAndKnowns() {
        Check.about = "promises 6 to 8";
        ShutPasses sure = Check.landed("place s t;cause r 4;road s t 1;");
        Check.due("a cause shuts nothing", sure.weight(0), 10);
        Check.due("one world", sure.weight(1), -1);
        Check.due("likely(0)", sure.likely(0), 10);
        Check.due("one known", sure.likely(1), -1);
        Check.due("no doubtful road", sure.shut(0, 0), -1);
        ShutPasses idle = Check.landed("place s t;cause r 3;cause q 5;road s t 1 doubt 4;");
        Check.due("rows of causes that shut nothing", idle.weight(0), 600);
        Check.due("rows of causes that shut nothing", idle.weight(1), 400);
        ShutPasses both = Check.landed("place s t;cause r 3;road s t 1 doubt 4 by r;");
        Check.due("neither comes", both.weight(0), 6 * 7);
        Check.due("one or both come", both.weight(1), 100 - 6 * 7);
        ShutPasses by = Check.landed(TOGETHER);
        long[] likely = {10, 5, 5, 5, 5, 0, 5, 0, 5};
        for (int known = 0; known < 9; known++) {
            Check.due("likely(" + known + ")", by.likely(known), likely[known]);
        }
        Check.due("an unlikely world", by.weight(1), 0);
        Check.due("an unlikely known", by.shut(5, 0), 0);
        Check.due("an unlikely known", by.shut(5, 1), 0);
        Check.due("it can't be shut then", by.shut(1, 1), 0);
        Check.due("it must be shut then", by.shut(2, 1), 5);
        Check.due("known to be open", by.shut(1, 0), 0);
        Check.due("known to be shut", by.shut(2, 0), 5);
        for (int n : new int[] {LEAST, -1, 4, 64, GREATEST}) {
            Check.due("weight(" + n + ")", by.weight(n), -1);
        }
        for (int n : new int[] {LEAST, -1, 9, 729, GREATEST}) {
            Check.due("likely(" + n + ")", by.likely(n), -1);
            Check.due("shut(" + n + ", 0)", by.shut(n, 0), -1);
        }
        for (int n : new int[] {LEAST, -1, 2, 6, GREATEST}) {
            Check.due("shut(0, " + n + ")", by.shut(0, n), -1);
        }
    }

    /** Each cause and its three doubts: 9 of 10 all 1000 rows, else 729 shut all three and one none. */
    private static void theGreatestLand() {
        ShutPasses x = Check.landed(ALL);
        Check.about = "the greatest land";
        int[] counts = {10, 24, 6, 2, 6, 0, 1, 0, 0};
        for (int what = 0; what < counts.length; what++) {
            Check.due("count(" + what + ")", x.count(what), counts[what]);
        }
        Check.due("all are open", x.weight(0), 1);
        Check.due("the first three are shut", x.weight(7), 9729);
        Check.due("the last three are shut", x.weight(56), 9729);
        Check.due("all are shut", x.weight(63), 9729L * 9729);
        Check.due("one of three", x.weight(1), 9);
        Check.due("two of three twice", x.weight(3 + 24), 81 * 81);
        Check.due("no such world", x.weight(64), -1);
        Check.due("all rows", x.likely(0), 100000000);
        Check.due("the last known", x.likely(728), 9729L * 9729);
        Check.due("all known to be open", x.likely(364), 1);
        Check.due("no such known", x.likely(729), -1);
        Check.due("the last road is shut", x.shut(0, 5), 99000000);
        Check.due("no such road", x.shut(0, 6), -1);
        for (int plan = 0; plan <= 5; plan++) {
            Check.due("mean(" + plan + ")", x.mean(plan), 100000000);
            Check.due("worst(" + plan + ")", x.worst(plan), 1);
            Check.due("hours(" + plan + ", 63)", x.hours(plan, 63), 1);
            Check.due("no such world", x.hours(plan, 64), -1);
            Check.due("next(" + plan + ", 0, 728)", x.next(plan, 0, 728), 1);
            Check.due("no such known", x.next(plan, 0, 729), -1);
            Check.due("no such place", x.next(plan, 10, 728), -1);
            Check.due("not all seen is known", x.next(plan, 0, 728 - 2 * 243), -1);
        }
        Check.due("knowing(63)", x.knowing(63), 1);
        Check.due("knowing(64)", x.knowing(64), -1);
        Check.due("from(9, 0)", x.from(9, 0), 100000000);
        Check.due("from(10, 0)", x.from(10, 0), -1);
        Check.due("bell(0)", x.bell(0), 0);
        Check.due("bell(1)", x.bell(1), 100000000);
        Check.due("rows(0)", x.rows(0), 100000000);
        Check.due("rows(6)", x.rows(6), 5);
        Check.due("worth(5)", x.worth(5), 0);
        Check.due("worth(6)", x.worth(6), -1);
        Check.due("keep(5)", x.keep(5), 100000000);
        Check.due("keep(6)", x.keep(6), -1);
        Check.due("edge(5)", x.edge(5), 11);
        Check.due("edge(6)", x.edge(6), -1);
        Check.due("scout(0, 0)", x.scout(0, 0), 0);
        for (int road = 0; road < 6; road++) {
            Check.due("row(" + road + ")", x.row(road), road + 1);
        }
        Check.due("row(6)", x.row(6), -1);
        Check.due("six in the row", x.clear(), 6);
        Check.due("begin", x.begin(5), true);
        Check.due("all six are seen at a", x.next(0, 0, x.walk(2)), 1);
        Check.due("c d is seen at a: nothing to buy", x.buy(0), -1);
        Check.due("go(9)", x.go(9), 1);
        for (int word = 0; word <= 6; word++) {
            Check.due("buy(" + word + ")", x.buy(word), -1);
        }
    }

    private static void theLongestHours() {
        ShutPasses x = Check.landed(LONG);
        Check.about = "the longest hours";
        // each of the six is shut in 99 of 100 rows
        long open = 891L * 100000000;
        long mean = open + 6 * 99L * 99000000;
        for (int place = 0; place < 9; place++) {
            x.rule(place, -1, 0, place + 1);
        }
        for (int plan = 0; plan <= 6; plan++) {
            Check.due("mean(" + plan + ")", x.mean(plan), mean);
            Check.due("worst(" + plan + ")", x.worst(plan), 1485);
            Check.due("hours(" + plan + ", 0)", x.hours(plan, 0), 891);
            Check.due("hours(" + plan + ", 63)", x.hours(plan, 63), 1485);
            Check.due("hours(" + plan + ", 32)", x.hours(plan, 32), 990);
            Check.due("no worse than knowing", x.times(plan, 0), 891);
            Check.due("in the first world", x.times(plan, 1), 891);
        }
        Check.due("knowing(63)", x.knowing(63), 1485);
        Check.due("from(0, 0)", x.from(0, 0), mean);
        Check.due("all known to be open", x.from(0, 364), 891);
        Check.due("all known to be shut", x.from(0, 728), 1485L * 9729 * 9729);
        Check.due("from the last but one", x.from(8, 0), 9900000000L);
        Check.due("from to", x.from(9, 0), 0);
        Check.due("rows", x.rows(0), mean);
        Check.due("bell(48)", x.bell(48), 0);
        Check.due("worth", x.worth(3), 0);
        Check.due("kept open", x.keep(3), mean - 99L * 99000000);
        Check.due("edge", x.edge(3), 11);
        Check.due("scout(99, 0)", x.scout(99, 0), 0);
        Check.due("scout(99, 1)", x.scout(99, 1), mean);
        Check.due("no ring", x.ring(0), -1);
    }

    /** Calls that need both answer NONE with one alone; the others do without. */
    private static void withoutFromOrTo() {
        String land = "place s a t;road s a 2;road a t 3 doubt 5;inn s a t 1;";
        for (String ends : new String[] {"", "from s;", "to t;"}) {
            ShutPasses x = Check.landed(land + ends);
            Check.about = "ends: " + ends;
            for (int plan = 0; plan <= 6; plan++) {
                Check.due("mean", x.mean(plan), -1);
                Check.due("worst", x.worst(plan), -1);
                Check.due("hours", x.hours(plan, 0), -1);
                Check.due("times", x.times(plan, 0), -1);
                Check.due("times", x.times(plan, 1), -1);
                Check.due("next", x.next(plan, 0, 0), -1);
                Check.due("next", x.next(plan, 2, 1), -1);
            }
            Check.due("knowing", x.knowing(0), -1);
            Check.due("rows", x.rows(0), -1);
            Check.due("rows", x.rows(1), -1);
            Check.due("ring", x.ring(0), -1);
            Check.due("bell", x.bell(0), -1);
            Check.due("worth", x.worth(0), -1);
            Check.due("scout", x.scout(0, 0), -1);
            Check.due("keep", x.keep(0), -1);
            Check.due("edge", x.edge(0), -1);
            Check.due("begin", x.begin(0), false);
            Check.due("no walk", x.walk(3), -1);
            Check.due("from", x.from(0, 1), ends.equals("to t;") ? 25 : -1);
            Check.due("weight", x.weight(1), 5);
            Check.due("likely", x.likely(1), 5);
            Check.due("shut", x.shut(0, 0), 5);
            Check.due("row", x.row(0), 1);
            Check.due("rule", x.rule(0, 0, 1, 1), 0);
            Check.due("ring", x.ring(0), -1);
            Check.due("rules", x.count(7), 1);
            Check.due("clear", x.clear(), 1);
            Check.due("from", x.count(5), ends.equals("from s;") ? 0 : -1);
            Check.due("to", x.count(6), ends.equals("to t;") ? 2 : -1);
        }
    }

    private static void noSuchNumbers() {
        ShutPasses x = Check.landed(STRAIGHT);
        Check.about = "no such number";
        for (int n : new int[] {LEAST, -2, -1, 7, 8, 100, GREATEST}) {
            Check.due("mean(" + n + ")", x.mean(n), -1);
            Check.due("worst(" + n + ")", x.worst(n), -1);
            Check.due("hours(" + n + ", 0)", x.hours(n, 0), -1);
            Check.due("times(" + n + ", 0)", x.times(n, 0), -1);
            Check.due("next(" + n + ", 0, 0)", x.next(n, 0, 0), -1);
            Check.due("rows(" + n + ")", x.rows(n), -1);
        }
        for (int n : new int[] {LEAST, -2, -1, 2, 3, GREATEST}) {
            Check.due("knowing(" + n + ")", x.knowing(n), -1);
            Check.due("hours(0, " + n + ")", x.hours(0, n), -1);
            Check.due("times(0, " + n + ")", x.times(0, n), -1);
            Check.due("scout(0, " + n + ")", x.scout(0, n), -1);
        }
        for (int n : new int[] {LEAST, -2, -1, 3, 4, 10, GREATEST}) {
            Check.due("next(0, " + n + ", 0)", x.next(0, n, 0), -1);
            Check.due("next(0, 0, " + n + ")", x.next(0, 0, n), -1);
            Check.due("from(" + n + ", 0)", x.from(n, 0), -1);
            Check.due("from(0, " + n + ")", x.from(0, n), -1);
        }
        for (int n : new int[] {LEAST, -2, -1, 1, 2, 6, GREATEST}) {
            Check.due("row(" + n + ")", x.row(n), -1);
            Check.due("worth(" + n + ")", x.worth(n), -1);
            Check.due("keep(" + n + ")", x.keep(n), -1);
            Check.due("edge(" + n + ")", x.edge(n), -1);
        }
        for (int n : new int[] {LEAST, -2, -1, 49, 100, GREATEST}) {
            Check.due("bell(" + n + ")", x.bell(n), -1);
        }
        for (int n : new int[] {LEAST, -2, -1, 100, 101, GREATEST}) {
            Check.due("scout(" + n + ", 0)", x.scout(n, 0), -1);
        }
    }

    /** 'Of several answers that hold NONE goes first.' */
    private static void noneGoesFirst() {
        ShutPasses x = Check.landed(NEVER);
        Check.about = "NONE goes first";
        Check.due("never, no such what", x.times(0, 2), -1);
        Check.due("never", x.times(0, 1), -2);
        Check.due("never, no such world", x.hours(6, 2), -1);
        Check.due("never, no such world", x.knowing(2), -1);
        Check.due("never, no such plan", x.worst(7), -1);
        Check.due("never, no such place", x.from(3, 0), -1);
        Check.due("never, no such road", x.worth(1), -1);
        Check.due("never", x.worth(0), -2);
        Check.due("never, no such C", x.scout(100, 0), -1);
        Check.due("never, no such what", x.scout(0, 2), -1);
        Check.due("never, no such what", x.rows(7), -1);
        Check.due("never has no second road", x.rows(2), -1);
        Check.due("ends there, not all seen is known", x.next(0, 2, 0), -1);
        Check.due("ends there", x.next(0, 2, 1), -2);
        Check.due("stays, not all seen is known", x.next(6, 1, 0), -1);
        Check.due("stays", x.next(6, 1, 1), -2);
        ShutPasses never = Check.landed("place s a t;cause r 5;from s;to t;road s a 1 by r;road a t 1 by r;");
        Check.due("never, likely 0", never.hours(6, 1), -1);
        Check.due("never", never.hours(6, 0), -2);
        Check.due("never, likely 0", never.from(0, 5), -1);
        Check.due("never, likely 0", never.next(6, 0, 5), -1);
        Check.due("never, no doubt", never.edge(0), -1);
        Check.due("never in a world of no likely rows", never.knowing(1), -2);
        Check.due("kept open and never", never.keep(0), -2);
        Check.due("no such road and never", never.keep(2), -1);
    }

    /** Worlds 1 and 2 of TOGETHER have no rows: there the plan by hand stays, which counts for nothing. */
    private static void unlikelyWorldsDoNotCount() {
        ShutPasses x = Check.landed(TOGETHER);
        Check.about = "LIKELY 0";
        x.rule(0, 0, 1, 1);
        x.rule(1, -1, 0, 2);
        Check.due("he stays in world 3", x.mean(6), -2);
        Check.due("the ring is in world 3", x.ring(0), 0);
        Check.due("alone", x.ring(1), -1);
        x.rule(0, 1, 2, 2);
        Check.due("mean", x.mean(6), 5 * 2 + 5 * 10);
        Check.due("worst", x.worst(6), 10);
        Check.due("hours in world 0", x.hours(6, 0), 2);
        Check.due("hours in world 1", x.hours(6, 1), -1);
        Check.due("hours in world 2", x.hours(6, 2), -1);
        Check.due("hours in world 3", x.hours(6, 3), 10);
        Check.due("times", x.times(6, 0), 2);
        Check.due("times", x.times(6, 1), 2);
        Check.due("no ring", x.ring(0), -1);
        Check.due("likely 0", x.next(6, 0, 5), -1);
        Check.due("likely 0", x.next(6, 0, 7), -1);
        Check.due("likely", x.next(6, 0, 8), 2);
        Check.due("likely 0", x.from(0, 7), -1);
        Check.due("bell", x.bell(2), 5);
        Check.due("bell", x.bell(9), 5);
        Check.due("bell", x.bell(10), 10);
    }

    /** A plan that ends in a world and in another not is NEVER in the mean and at worst, not in that world. */
    private static void endsNotInAll() {
        ShutPasses x = Check.landed(NEVER);
        Check.about = "NEVER";
        x.row(0);
        x.rule(0, -1, 0, 1);
        x.rule(1, 0, 1, 2);
        for (int plan = 0; plan <= 6; plan++) {
            Check.due("mean(" + plan + ")", x.mean(plan), -2);
            Check.due("worst(" + plan + ")", x.worst(plan), -2);
            Check.due("hours(" + plan + ", 1)", x.hours(plan, 1), -2);
            Check.due("times(" + plan + ", 0)", x.times(plan, 0), -2);
            Check.due("times(" + plan + ", 1)", x.times(plan, 1), -2);
        }
        for (int plan : new int[] {3, 5, 6}) {
            Check.due("hours(" + plan + ", 0)", x.hours(plan, 0), 2);
        }
        Check.due("fear has no way and stays", x.hours(4, 0), -2);
        Check.due("fear stays", x.next(4, 0, 0), -2);
        Check.due("hope goes", x.next(3, 0, 0), 1);
        Check.due("hope stays where it is shut", x.next(3, 1, 2), -2);
        Check.due("known to be open, fear goes", x.next(4, 0, 1), 1);
        x.clear();
        Check.due("nothing to try", x.hours(5, 0), -2);
        Check.due("knowing(0)", x.knowing(0), 2);
        Check.due("knowing(1)", x.knowing(1), -2);
        Check.due("from(0, 0)", x.from(0, 0), -2);
        Check.due("from(0, 1)", x.from(0, 1), 18);
        Check.due("from(0, 2)", x.from(0, 2), -2);
        Check.due("from(1, 0)", x.from(1, 0), -2);
        Check.due("from(2, 0)", x.from(2, 0), 0);
        Check.due("rows(0)", x.rows(0), -2);
        Check.due("rows(1)", x.rows(1), 0);
        Check.due("scout", x.scout(99, 0), -2);
        Check.due("scout", x.scout(99, 1), -2);
        Check.due("kept open", x.keep(0), 20);
        Check.due("bell(1)", x.bell(1), 0);
        Check.due("bell(48)", x.bell(48), 9);
        ShutPasses none = Check.landed("place s t;from s;to t;");
        Check.due("no roads at all", none.mean(0), -2);
        Check.due("no roads at all", none.knowing(0), -2);
        Check.due("no roads at all", none.bell(48), 0);
        Check.due("no roads at all", none.rows(0), -2);
        Check.due("no roads at all", none.scout(0, 0), -2);
        Check.due("no roads at all", none.ring(0), 0);
        for (int plan = 0; plan <= 6; plan++) {
            Check.due("no roads at all", none.next(plan, 0, 0), -2);
        }
        Check.due("no roads at all", none.hours(3, 0), -2);
    }

    private static void dueNext(String text, int plan, int known, int due) {
        Check.about = text;
        Check.due("next(" + plan + ", 0, " + known + ")", Check.landed(text).next(plan, 0, known), due);
    }

    /** HOURS, HOURS and wait, as it is known or as if it were. */
    private static void goingAndWaiting() {
        // known to be shut: 5 and the wait, or 9 by a
        String seen = "place s t a;from s;to t;road s a 4;road a t 5;road s t 5 doubt 5 wait ";
        for (int plan = 0; plan <= 5; plan++) {
            dueNext(seen + "3;", plan, 2, 1);
            dueNext(seen + "4;", plan, 2, 1);
            dueNext(seen + "5;", plan, 2, 2);
            dueNext(seen + "5;", plan, 1, 1);
        }
        // not known: as if shut it is 1 and 1 and the wait of 3
        String far = "place s a t;from s;to t;road s a 1;road a t 1 doubt 5 wait 3;road s t ";
        dueNext(far + "6;", 4, 0, 1);
        dueNext(far + "5;", 4, 0, 1);
        dueNext(far + "4;", 4, 0, 2);
        dueNext(far + "4;", 4, 1, 1);
        dueNext(far + "4;", 3, 0, 1);
        dueNext(far + "2;", 3, 0, 1);
        dueNext(far + "1;", 3, 0, 2);
        dueNext(far + "4;", 3, 2, 2);
        ShutPasses x = Check.landed(far + "4;");
        Check.about = "try";
        Check.due("an empty row: as fear", x.next(5, 0, 0), 2);
        x.row(0);
        Check.due("as if open", x.next(5, 0, 0), 1);
        Check.due("known to be shut it is shut", x.next(5, 0, 2), 2);
        Check.due("knowing by waiting", x.knowing(1), 4);
        ShutPasses y = Check.landed(far + "6;");
        Check.due("knowing by waiting", y.knowing(1), 5);
        Check.due("hours with a wait", y.hours(4, 1), 5);
        Check.due("hours", y.hours(4, 0), 2);
        Check.due("mean", y.mean(4), 5 * 2 + 5 * 5);
    }

    /** Gates along a row of places, tried in turn on its two sides: the more are shut, the longer he goes to and fro. */
    private static void toAndFro() {
        ShutPasses x = Check.landed("place a b c d e f g h t;from d;to t;road a b 1;road b c 1;road c d 1;road d e 1;"
                + "road e f 1;road f g 1;road g h 1;road e t 1 doubt 5;road c t 2 doubt 5;road f t 20 doubt 5;"
                + "road b t 30 doubt 5;road g t 45 doubt 5;road a t 60 doubt 5;road h t 90;");
        Check.about = "to and fro";
        int[] due = {1 + 1, 3 + 2, 6 + 20, 10 + 30, 15 + 45, 21 + 60, 28 + 90};
        for (int open = 0; open <= 6; open++) {
            // all before this gate are shut; those behind it do not matter
            Check.due("hours(3, first open " + open + ")", x.hours(3, (1 << open) - 1), due[open]);
            Check.due("hours(3, open " + open + " alone)", x.hours(3, 63 & ~(1 << open)), due[open]);
        }
        Check.due("worst", x.worst(3), 118);
        Check.due("mean", x.mean(3), (2 * 32 + 5 * 16 + 26 * 8 + 40 * 4 + 60 * 2 + 81 + 118) * 15625L);
        Check.due("knowing", x.knowing(63), 94);
        Check.due("fear goes to h", x.hours(4, 63), 94);
        for (int place = 0; place <= 6; place++) {
            Check.due("all known to be shut", x.next(3, place, 728), place + 1);
        }
    }

    /** 'Of several ways that are as good: GO to the least PLACE, else BUY the first WORD.' */
    private static void ties() {
        // at worst ten hours either way; by b it is mostly two
        String sure = "from s;to t;road s a 5;road a t 5;road s b 1;road b t 1 doubt 1 wait 8;";
        dueNext("place s a b t;" + sure, 1, 0, 1);
        dueNext("place s b a t;" + sure, 1, 0, 1);
        Check.due("mean of what SURE does", Check.landed("place s a b t;" + sure).mean(1), 100);
        Check.due("mean of what SURE does", Check.landed("place s b a t;" + sure).mean(1), 9 * 2 + 10);
        // as good in the mean: four by a, two by b or, as it is shut, six (back and by a)
        String best = "from s;to t;road s a 2;road a t 2;road s b 1;road b t 1 doubt 5;";
        dueNext("place s a b t;" + best, 0, 0, 1);
        dueNext("place s b a t;" + best, 0, 0, 1);
        dueNext("place t b a s;" + best, 0, 1, -2);
        ShutPasses turned = Check.landed("place t b a s;" + best);
        Check.due("the goal is place 0", turned.next(0, 3, 0), 1);
        Check.due("hope to the least place", Check.landed("place s b a t;from s;to t;road s a 1;road a t 1;road s b 1;"
                + "road b t 1;").next(3, 0, 0), 1);
        // six words of one road: the last is the cheapest, or two are
        String words = "place s a b t;from s;to t;road s a 5;road a t 1 doubt 5;road s b 6;road b t 6;inn s a t 9;"
                + "inn s a t 9;inn s a t 9;inn s a t 9;inn s t a ";
        dueNext(words + "9;inn s a t 1;", 0, 0, 105);
        dueNext(words + "1;inn s a t 1;", 0, 0, 104);
        dueNext(words + "1;inn s a t 1;", 2, 0, 104);
        dueNext(words + "1;inn s a t 1;", 0, 1, 1);
        dueNext(words + "1;inn s a t 1;", 0, 2, 2);
    }

    /** SURE knows what a cause says of other roads; FEAR and HOPE do not. */
    private static void sureInfers() {
        ShutPasses x = Check.landed("place s a b t;cause r 5;from s;to t;road s b 1 by r;road s a 1;road a t 1 by r;"
                + "road s t 9;");
        Check.about = "SURE";
        int[] open = {1, 1, 1, 1, 3};
        for (int plan = 0; plan <= 4; plan++) {
            Check.due("as s b is open a t is", x.next(plan, 0, 1), open[plan]);
            Check.due("as s b is shut a t is", x.next(plan, 0, 2), plan == 3 ? 1 : 3);
        }
        Check.due("sure", x.mean(1), 5 * 2 + 5 * 9);
        Check.due("hope", x.mean(3), 5 * 2 + 5 * 11);
        Check.due("fear", x.mean(4), 10 * 9);
        Check.due("sure", x.worst(1), 9);
    }

    /** The same where one row of ten alone leaves the roads open, or shuts them. */
    private static void inferredByOneRow() {
        for (int odds : new int[] {1, 9}) {
            Check.about = "r in " + odds + " of ten";
            ShutPasses x = Check.landed("place s a b t;cause r " + odds + ";from s;to t;road s b 1 by r;road s a 1;"
                    + "road a t 1 by r;road s t 9;");
            for (int plan = 0; plan <= 2; plan++) {
                Check.due("open", x.next(plan, 0, 1), 1);
                Check.due("shut", x.next(plan, 0, 2), 3);
                Check.due("mean", x.mean(plan), (10 - odds) * 2 + odds * 9);
            }
            Check.due("from", x.from(0, 1), (10 - odds) * 2);
            Check.due("from", x.from(1, 2), odds * 10);
            Check.due("bell", x.bell(2), 10 - odds);
            ShutPasses both = Check.landed("place s t;cause r " + odds + ";road s t 1 doubt " + (10 - odds) + " by r;");
            Check.due("open", both.weight(0), odds * (10 - odds));
            Check.due("shut", both.weight(1), 100 - odds * (10 - odds));
            ShutPasses same = Check.landed("place s t;cause r " + odds + ";road s t 1 doubt " + odds + " by r;");
            Check.due("open", same.weight(0), (10 - odds) * (10 - odds));
            Check.due("shut", same.weight(1), 100 - (10 - odds) * (10 - odds));
        }
    }

    /** Each of the six roads of LONG must be known at its two ends, and nowhere else. */
    private static void seenAtBothEnds() {
        ShutPasses x = Check.landed(LONG);
        Check.about = "seen at both ends";
        int three = 1;
        for (int road = 0; road < 6; road++, three *= 3) {
            for (int place = 0; place < 9; place++) {
                int due = place == road || place == road + 1 ? -1 : place + 1;
                for (int plan = 0; plan <= 5; plan++) {
                    Check.due(road + " not known at " + place, x.next(plan, place, 728 - 2 * three), due);
                }
            }
            Check.due("at to nothing is seen", x.next(0, 9, 728 - 2 * three), -2);
        }
    }

    /** A word of the second road, sold neither at from nor first: ten hours from a in the mean, twelve by c. */
    private static void wordsElsewhere() {
        String land = "place s a b c t u;from s;to t;road t u 1 doubt 5;road s a 1;road a b 5;road b t 1 doubt 5;"
                + "road a c 6;road c t 6;inn c b t 1;inn a b t 1;";
        ShutPasses x = Check.landed(land);
        Check.about = "a word elsewhere";
        for (int plan : new int[] {0, 2}) {
            Check.due("he buys at a", x.next(plan, 1, 0), 101);
            Check.due("told it is open", x.next(plan, 1, 3), 2);
            Check.due("told it is shut", x.next(plan, 1, 6), 3);
            Check.due("mean", x.mean(plan), 50 * 8 + 50 * 14);
            Check.due("hours", x.hours(plan, 0), 8);
            Check.due("hours", x.hours(plan, 1), 8);
            Check.due("hours", x.hours(plan, 2), 14);
            Check.due("hours", x.hours(plan, 3), 14);
            Check.due("worst", x.worst(plan), 14);
            Check.due("times", x.times(plan, 0), 8);
            Check.due("times", x.times(plan, 1), 7);
        }
        Check.due("bell", x.bell(7), 50);
        Check.due("bell", x.bell(13), 100);
        Check.due("worth", x.worth(1), 50 * 1 + 50 * 1);
        Check.due("worth", x.worth(0), 0);
        Check.due("scout", x.scout(0, 0), 2);
        x.begin(1);
        Check.due("not sold at s", x.buy(1), -1);
        Check.due("go", x.go(1), 1);
        Check.due("sold at c", x.buy(0), -1);
        int state = 1 + (x.walk(4) >> 1 & 1);
        Check.due("sold at a", x.buy(1), state);
        Check.due("known", x.walk(2), 3 * state);
        Check.due("hours", x.walk(1), 2);
        // the place that is told first is the inn's, the others are the road's
        ShutPasses other = Check.landed(land.replace("inn a b t 1", "inn b t u 1"));
        other.begin(1);
        other.go(1);
        other.go(2);
        Check.due("of t u at b", other.buy(1), 1 + (other.walk(4) & 1));
    }

    /** By a it is 5 by 5 or 14 by 10, straight 10 by 5: by a, however unlikely a t is open. */
    private static void leastTimes() {
        for (int doubt = 1; doubt <= 9; doubt++) {
            ShutPasses x = Check.landed(STRAIGHT.replace("doubt 5", "doubt " + doubt));
            Check.about = "LEAST TIMES, doubt " + doubt;
            Check.due("times(2, 0)", x.times(2, 0), 14);
            Check.due("times(2, 1)", x.times(2, 1), 10);
            Check.due("mean(2)", x.mean(2), (10 - doubt) * 5 + doubt * 14);
            Check.due("worst(2)", x.worst(2), 14);
            Check.due("next(2, 0, 0)", x.next(2, 0, 0), 1);
            Check.due("next(2, 0, 1)", x.next(2, 0, 1), 1);
            Check.due("next(2, 0, 2)", x.next(2, 0, 2), 2);
            Check.due("next(2, 1, 1)", x.next(2, 1, 1), 2);
            Check.due("next(2, 1, 2)", x.next(2, 1, 2), 0);
            // 9 hours of ten are lost as it is shut: worth it for BEST up to 5 of 10
            Check.due("next(0, 0, 0)", x.next(0, 0, 0), doubt <= 5 ? 1 : 2);
            Check.due("next(1, 0, 0)", x.next(1, 0, 0), 2);
        }
        // by a 2 by 2, or 1 and 1 and 9 by 9; in worlds of no rows it may be more
        ShutPasses by = Check.landed("place s a b t;cause r 5;from s;to t;road s a 1;road a t 1 by r;road s b 1;"
                + "road b t 1 by r;road s t 9;");
        Check.due("times(2, 0)", by.times(2, 0), 11);
        Check.due("times(2, 1)", by.times(2, 1), 9);
        Check.due("to the least place", by.next(2, 0, 0), 1);
    }

    /** At to the road behind a is not seen: h hours straight are h by 5, by a 4 and h by h if it is shut. */
    private static void fairEndsUnknowing() {
        int[][] due = {{5, 5, 4}, {6, 5, 4}, {7, 5, 4}, {12, 8, 1}, {13, 9, 1}, {14, 10, 1}};
        for (int h = 5; h <= 10; h++) {
            ShutPasses x = Check.landed("place s a c b t;from s;to t;road s t " + h + ";road s a 2;road a c 2 doubt 5;"
                    + "road c t 1;");
            Check.about = "FAIR, straight in " + h;
            Check.due("times(2, 0)", x.times(2, 0), due[h - 5][0]);
            Check.due("times(2, 1)", x.times(2, 1), due[h - 5][1]);
            Check.due("next(2, 0, 0)", x.next(2, 0, 0), due[h - 5][2]);
            Check.due("worst(2)", x.worst(2), h <= 7 ? h : 4 + h);
        }
    }

    /** Open 5 by a, nine by b: straight by b 9 by 5, by a 13 by 9 if it is shut, told for h hours 5 and h by 5. */
    private static void fairTriesOrBuys() {
        int[][] due = {{6, 5, 100}, {7, 5, 100}, {13, 9, 1}, {13, 9, 1}};
        for (int h = 1; h <= 4; h++) {
            ShutPasses x = Check.landed("place s a b t;from s;to t;road s a 2;road a t 3 doubt 5;road s b 4;road b t 5;"
                    + "inn s a t " + h + ";");
            Check.about = "FAIR, a word for " + h;
            Check.due("times(2, 0)", x.times(2, 0), due[h - 1][0]);
            Check.due("times(2, 1)", x.times(2, 1), due[h - 1][1]);
            Check.due("next(2, 0, 0)", x.next(2, 0, 0), due[h - 1][2]);
            Check.due("next(2, 0, 1)", x.next(2, 0, 1), 1);
            Check.due("next(2, 0, 2)", x.next(2, 0, 2), 2);
            Check.due("worst(2)", x.worst(2), h <= 2 ? 9 + h : 13);
            Check.due("SURE goes by b", x.next(1, 0, 0), 2);
            Check.due("9 by 5", x.times(1, 0), 9);
            Check.due("9 by 5", x.times(1, 1), 5);
        }
    }

    private static void greatestTimes() {
        Check.about = "promise 13";
        // straight always: 10 by 5 in world 0, 10 by 10 in world 1
        ShutPasses x = Check.landed(STRAIGHT);
        Check.due("fear", x.times(4, 0), 10);
        Check.due("fear", x.times(4, 1), 5);
        Check.due("hope", x.times(3, 0), 14);
        Check.due("hope in the second world", x.times(3, 1), 10);
        // both worlds twice its knowing: 4 by 2, 8 by 4
        ShutPasses twice = Check.landed("place s a t;from s;to t;road s t 2 doubt 5 wait 2;road s a 2 doubt 5 wait 2;"
                + "road a t 2;");
        twice.rule(0, 0, 1, 1);
        twice.rule(0, 0, 2, 1);
        twice.rule(1, -1, 0, 2);
        // worlds: 0 by a 4 by 2; 1 (s t shut) 4 by 4; 2 (s a shut) 6 by 2; 3 (both) 6 by 4
        Check.due("in world 2", twice.times(6, 0), 6);
        Check.due("in world 2", twice.times(6, 1), 2);
        ShutPasses equal = Check.landed("place s a t;from s;to t;road s t 3 doubt 5 wait 3;road s a 6;road a t 6;");
        equal.rule(0, 0, 1, 1);
        equal.rule(0, 0, 2, 2);
        equal.rule(1, -1, 0, 2);
        Check.due("12 by 3 in world 0", equal.times(6, 0), 12);
        Check.due("12 by 3 in world 0", equal.times(6, 1), 3);
        Check.due("the worst is world 0", equal.worst(6), 12);
        ShutPasses stays = Check.landed(STRAIGHT);
        Check.due("hours are never", stays.times(6, 0), -2);
        Check.due("hours are never", stays.times(6, 1), -2);
        stays.rule(0, -1, 0, 1);
        stays.rule(1, 0, 1, 2);
        Check.due("in the second world alone", stays.times(6, 0), -2);
        Check.due("in the second world alone", stays.times(6, 1), -2);
        ShutPasses same = Check.landed("place s t;from s;to t;road s t 3 doubt 5 wait 3;");
        for (int plan = 0; plan <= 5; plan++) {
            Check.due("3 by 3 before 6 by 6", same.times(plan, 0), 3);
            Check.due("3 by 3 before 6 by 6", same.times(plan, 1), 3);
        }
        ShutPasses there = Check.landed("place s t;from s;to s;road s t 3 doubt 5;");
        for (int plan = 0; plan <= 6; plan++) {
            Check.due("from is to: 0", there.times(plan, 0), 0);
            Check.due("from is to: 0", there.times(plan, 1), 0);
            Check.due("from is to", there.mean(plan), 0);
            Check.due("from is to", there.worst(plan), 0);
            Check.due("from is to", there.hours(plan, 0), 0);
            Check.due("from is to", there.hours(plan, 1), 0);
            Check.due("from is to", there.next(plan, 0, 1), -2);
        }
        Check.due("from is to", there.knowing(1), 0);
        Check.due("from is to", there.bell(0), 10);
        Check.due("from is to", there.rows(0), 0);
        Check.due("from is to", there.worth(0), 0);
        Check.due("from is to", there.keep(0), 0);
        Check.due("from is to", there.edge(0), 11);
        Check.due("from is to", there.scout(0, 0), 0);
        Check.due("from is to", there.scout(99, 1), 0);
        Check.due("from is to", there.ring(0), -1);
        ShutPasses two = Check.landed("place s t u;from s;to s;road s t 3 doubt 5;"
                + "road t u 1 doubt 5;");
        Check.due("all rows are as good", two.rows(1), 0);
        Check.due("all rows are as good", two.rows(2), 1);
    }

    private static void meansFromElsewhere() {
        ShutPasses x = Check.landed(STRAIGHT);
        Check.about = "promise 15";
        // at a he knows a t at once: 3, or 2 and 10
        Check.due("what is seen there is not known", x.from(1, 0), 5 * 3 + 5 * 12);
        Check.due("known to be open", x.from(1, 1), 15);
        Check.due("known to be shut", x.from(1, 2), 60);
        Check.due("at to, not known", x.from(2, 0), 0);
        Check.due("at to, known", x.from(2, 2), 0);
        ShutPasses to = Check.landed(STRAIGHT.replace("from s;", ""));
        Check.due("without from", to.from(0, 0), 95);
        Check.due("without from", to.from(1, 2), 60);
        ShutPasses apart = Check.landed("place s t u v;from s;to t;road s t 1;road u v 1;");
        Check.due("no way from there", apart.from(2, 0), -2);
        Check.due("no way from there", apart.next(0, 2, 0), -2);
        Check.due("no way from there", apart.next(1, 2, 0), -2);
        Check.due("no way from there", apart.next(3, 2, 0), -2);
        Check.due("no way from there", apart.next(4, 2, 0), -2);
        Check.due("from from there is", apart.mean(0), 1);
    }

    /** Six gates, each an hour off and an hour behind; whoever finds all shut goes fifty hours. */
    private static final String GATES = "place s t a b c d e f;from s;to t;road s t 50;road s a 1;road s b 1;road s c 1;"
            + "road s d 1;road s e 1;road s f 1;road a t 1 doubt 9;road b t 1 doubt 7;road c t 1 doubt 5;"
            + "road d t 1 doubt 3;road e t 1 doubt 2;road f t 1 doubt 1;";

    private static void rowsOfSix() {
        ShutPasses x = Check.landed(GATES);
        Check.about = "promise 18";
        // 2 hours in 900000 rows, 4 in 80000, 6 in 14000, 8 in 3000, 10 in 900, 12 in 210, 62 in 1890
        long mean = 2 * 900000 + 4 * 80000 + 6 * 14000 + 8 * 3000 + 10 * 900 + 12 * 210 + 62 * 1890;
        Check.due("rows(0)", x.rows(0), mean);
        for (int i = 1; i <= 6; i++) {
            Check.due("rows(" + i + ")", x.rows(i), 6 - i);
        }
        Check.due("rows(7)", x.rows(7), -1);
        Check.due("the row is as it was", x.count(8), 0);
        for (int i = 1; i <= 6; i++) {
            Check.due("row", x.row(6 - i), i);
        }
        Check.due("by that row", x.mean(5), mean);
        Check.due("BEST does so, too", x.mean(0), mean);
        Check.due("worst", x.worst(5), 62);
        Check.due("all are shut", x.hours(5, 63), 62);
        Check.due("the last one is open", x.hours(5, 62), 12);
        Check.due("clear", x.clear(), 6);
        Check.due("row(0)", x.row(0), 1);
        // the first alone: open in a tenth
        Check.due("mean", x.mean(5), 100000 * 2 + 900000L * 52);
        Check.due("rows leave it", x.rows(0), mean);
        Check.due("rows leave it", x.mean(5), 100000 * 2 + 900000L * 52);
        Check.due("rows leave it", x.count(8), 1);
        ShutPasses equal = Check.landed(GATES.replaceAll("doubt [0-9]", "doubt 5"));
        for (int i = 1; i <= 6; i++) {
            Check.due("of several the first by numbers", equal.rows(i), i - 1);
        }
        ShutPasses two = Check.landed(GATES.replace("doubt 9", "doubt 5").replace("doubt 7", "doubt 5"));
        int[] due = {5, 4, 3, 0, 1, 2};
        for (int i = 1; i <= 6; i++) {
            Check.due("three equal ones by numbers", two.rows(i), due[i - 1]);
        }
        ShutPasses never = Check.landed(GATES.replace("road s t 50;", ""));
        Check.due("never", never.rows(0), -2);
        for (int i = 1; i <= 6; i++) {
            Check.due("all as good: the first by numbers", never.rows(i), i - 1);
        }
    }

    /** Whatever gates have which doubt, the best row tries the least doubt first. */
    private static void rowsInAnyOrder() {
        int[] doubts = {1, 2, 3, 5, 7, 9};
        long mean = 2 * 900000 + 4 * 80000 + 6 * 14000 + 8 * 3000 + 10 * 900 + 12 * 210 + 62 * 1890;
        for (int number = 0; number < 720; number += 17) {
            // the number-th order of six
            java.util.ArrayList<Integer> left = new java.util.ArrayList<>(java.util.List.of(0, 1, 2, 3, 4, 5));
            String land = GATES.replaceAll("doubt [0-9]", "doubt X");
            int[] due = new int[6];
            int rest = number;
            for (int gate = 0; gate < 6; gate++) {
                int which = left.remove(rest % left.size());
                rest /= 6 - gate;
                land = land.replaceFirst("X", "" + doubts[which]);
                due[which] = gate;
            }
            ShutPasses x = Check.landed(land);
            Check.about = land;
            Check.due("rows(0)", x.rows(0), mean);
            for (int i = 0; i < 6; i++) {
                Check.due("rows(" + (i + 1) + ")", x.rows(i + 1), due[i]);
            }
        }
    }

    private static void theRow() {
        ShutPasses x = Check.landed(GATES);
        Check.about = "promises 16, 17";
        Check.due("empty", x.clear(), 0);
        int[] order = {3, 0, 5, 1, 4, 2};
        for (int i = 0; i < 6; i++) {
            Check.due("row", x.row(order[i]), i + 1);
            Check.due("in it", x.row(order[i]), -1);
            Check.due("in it", x.row(order[0]), -1);
            Check.due("count", x.count(8), i + 1);
        }
        Check.due("d first", x.next(5, 0, 0), 5);
        Check.due("d is known to be shut: a", x.next(5, 0, 2 * 27), 2);
        Check.due("d and a are: f", x.next(5, 0, 2 * 27 + 2), 7);
        Check.due("d is known to be open, a as if: the least place", x.next(5, 0, 27), 2);
        Check.due("d is known to be open, the rest to be shut", x.next(5, 0, 728 - 27), 5);
        Check.due("all are known to be shut", x.next(5, 0, 728), 1);
        Check.due("clear", x.clear(), 6);
        Check.due("empty", x.count(8), 0);
        Check.due("empty", x.clear(), 0);
        Check.due("as fear", x.next(5, 0, 0), 1);
        Check.due("again", x.row(5), 1);
        Check.due("f first", x.next(5, 0, 0), 7);
    }

    private static void thirtyRules() {
        ShutPasses x = Check.landed(STRAIGHT);
        Check.about = "promise 19";
        Check.due("none holds: he stays", x.next(6, 0, 0), -2);
        for (int i = 0; i < 29; i++) {
            Check.due("rule", x.rule(1, 0, i % 3, 0), i);
        }
        for (int n : new int[] {LEAST, -2, -1, 3, 10, GREATEST}) {
            Check.due("no such place", x.rule(n, -1, 0, 1), -1);
            Check.due("no such place to go", x.rule(0, -1, 0, n), -1);
            Check.due("not so known", x.rule(0, 0, n, 1), -1);
        }
        for (int n : new int[] {LEAST, -2, 1, 6, GREATEST}) {
            Check.due("no such road", x.rule(0, n, 0, 1), -1);
        }
        Check.due("none came", x.count(7), 29);
        Check.due("the last one", x.rule(0, 0, 0, 2), 29);
        Check.due("30", x.count(7), 30);
        Check.due("there are 30", x.rule(0, -1, 0, 1), -1);
        Check.due("30", x.count(7), 30);
        Check.due("the last one holds", x.next(6, 0, 0), 2);
        Check.due("it holds of what isn't known alone", x.next(6, 0, 1), -2);
        Check.due("mean", x.mean(6), 100);
        for (int n : new int[] {LEAST, -1, 3, GREATEST}) {
            ShutPasses free = Check.landed(STRAIGHT);
            Check.due("without a road, whatever", free.rule(0, -1, n, 2), 0);
            for (int known = 0; known < 3; known++) {
                Check.due("without a road, whatever", free.next(6, 0, known), 2);
            }
        }
    }

    /** The first rule that holds and that he may go. */
    private static void rulesAndWaits() {
        Check.about = "BY HAND";
        String land = "place s a t;from s;to t;road s t 5 doubt 5;road s a 1;road a t 9;";
        ShutPasses x = Check.landed(land);
        x.rule(0, -1, 0, 2);
        x.rule(0, -1, 0, 1);
        x.rule(1, -1, 0, 2);
        Check.due("open", x.next(6, 0, 1), 2);
        Check.due("shut: he may not", x.next(6, 0, 2), 1);
        Check.due("mean", x.mean(6), 5 * 5 + 5 * 10);
        ShutPasses wait = Check.landed(land.replace("doubt 5", "doubt 5 wait 1"));
        wait.rule(0, -1, 0, 2);
        wait.rule(0, -1, 0, 1);
        Check.due("shut with wait: he may", wait.next(6, 0, 2), 2);
        Check.due("mean", wait.mean(6), 5 * 5 + 5 * 6);
        ShutPasses digits = Check.landed(land);
        for (int known = 0; known < 3; known++) {
            digits.rule(1, 0, known, known == 1 ? 0 : 2);
        }
        Check.due("not known", digits.next(6, 1, 0), 2);
        Check.due("open", digits.next(6, 1, 1), 0);
        Check.due("shut", digits.next(6, 1, 2), 2);
        Check.due("no rule for his place", digits.next(6, 0, 1), -2);
        Check.due("ends, whatever the rules", digits.next(6, 2, 1), -2);
    }

    /** Nine places in a ring and to beside it. */
    private static void rings() {
        StringBuilder text = new StringBuilder("place a b c d e f g h i j;from a;to j;road c j 5 doubt 5;");
        for (int i = 0; i < 9; i++) {
            text.append("road ").append((char) ('a' + i)).append(' ').append((char) ('a' + (i + 1) % 9)).append(" 1;");
        }
        ShutPasses x = Check.landed(text.toString());
        Check.about = "promise 20";
        for (int i = 0; i < 9; i++) {
            x.rule(i, -1, 0, (i + 1) % 9);
        }
        // a and b are first met without knowing c j: c is the first to which he comes back
        for (int k = 0; k < 9; k++) {
            Check.due("ring(" + k + ")", x.ring(k), (2 + k) % 9);
        }
        for (int k : new int[] {LEAST, -2, -1, 9, 10, 100, GREATEST}) {
            Check.due("ring(" + k + ")", x.ring(k), -1);
        }
        Check.due("never", x.hours(6, 0), -2);
        ShutPasses part = Check.landed(text.toString());
        for (int i = 0; i < 8; i++) {
            part.rule(i, i == 2 ? 0 : -1, 2, i + 1);
        }
        // in world 0 he stays at c, which is open; in world 1 he would come as far as i
        Check.due("in the first world", part.ring(0), 2);
        Check.due("alone", part.ring(1), -1);
        part.rule(2, 0, 1, 9);
        Check.due("he ends in world 0", part.hours(6, 0), 7);
        Check.due("in the second he stays", part.ring(0), 8);
        Check.due("alone", part.ring(1), -1);
        part.rule(8, -1, 0, 7);
        Check.due("to and fro", part.ring(0), 7);
        Check.due("to and fro", part.ring(1), 8);
        Check.due("to and fro", part.ring(2), -1);
        ShutPasses back = Check.landed("place a s t;from s;to t;road s a 1;road a t 1;");
        back.rule(1, -1, 0, 0);
        back.rule(0, -1, 0, 1);
        back.rule(0, -1, 0, 2);
        Check.due("from from on", back.ring(0), 1);
        Check.due("from from on", back.ring(1), 0);
        Check.due("up to from", back.ring(2), -1);
    }

    private static void bells() {
        Check.about = "promise 21";
        Check.due("to is place 0", Check.landed("place t s;from s;to t;road s t 3;").bell(3), 1);
        Check.due("by place 0", Check.landed("place a s t;from s;to t;road s a 3;road a t 3;").bell(6), 1);
        Check.due("by place 0", Check.landed("place a s t;from s;to t;road s a 3;road a t 3;").bell(5), 0);
        String[] roads = {"road s t 48;", "road s t 49;", "road s t 24 doubt 5 wait 24;", "road s t 24 doubt 5 wait 25;"};
        long[][] due = {{0, 0, 0, 1}, {0, 0, 0, 0}, {0, 5, 5, 10}, {0, 5, 5, 5}};
        int[] bells = {23, 24, 47, 48};
        for (int i = 0; i < roads.length; i++) {
            ShutPasses x = Check.landed("place s t;from s;to t;" + roads[i]);
            for (int j = 0; j < bells.length; j++) {
                Check.due(roads[i] + " bell(" + bells[j] + ")", x.bell(bells[j]), due[i][j]);
            }
            Check.due("bell(0)", x.bell(0), 0);
            Check.due("bell(-1)", x.bell(-1), -1);
            Check.due("bell(49)", x.bell(49), -1);
        }
        // straight is too late by 9: what is open counts, the rest may never end; by 10 he can have all
        ShutPasses x = Check.landed(STRAIGHT.replace("doubt 5", "doubt 8"));
        long[] by = {0, 0, 0, 0, 0, 2, 2, 2, 2, 2, 10, 10};
        for (int t = 0; t < by.length; t++) {
            Check.due("bell(" + t + ")", x.bell(t), by[t]);
        }
        // a word takes its hours, too
        ShutPasses word = Check.landed("place s a b t;from s;to t;road s a 5;road a t 1 doubt 5;road s b 5;"
                + "road b t 1 doubt 5;inn s a t 2;");
        Check.due("one road alone", word.bell(7), 50);
        Check.due("told which", word.bell(8), 75);
    }

    private static void worth() {
        Check.about = "promise 22";
        // 95 without; 5 times 5 and 5 times 10 with
        Check.due("worth(0)", Check.landed(STRAIGHT).worth(0), 20);
        Check.due("seen anyway", Check.landed(STRAIGHT + "sees s t a;").worth(0), 0);
        Check.due("leads nowhere", Check.landed(STRAIGHT.replace("a t;", "a t u;") + "road t u 1 doubt 3;").worth(1), 0);
        ShutPasses by = Check.landed("place s a b t;cause r 5;from s;to t;road s a 1;road a t 1 by r;road a b 1 by r;"
                + "road s t 9;");
        // 2 or 11 of ten rows each way: 65; who knows has 2 or 9: 55
        Check.due("a road that leads nowhere tells of another", by.worth(1), 10);
        Check.due("never", Check.landed(NEVER).worth(0), -2);
        // straight up to 4 hours, whatever is known
        Check.due("worth nothing", Check.landed(STRAIGHT.replace("s t 10", "s t 4")).worth(0), 0);
    }

    private static void scout() {
        Check.about = "promise 23";
        ShutPasses x = Check.landed(STRAIGHT);
        Check.due("for nothing", x.scout(0, 0), 1);
        Check.due("for nothing", x.scout(0, 1), 75);
        Check.due("for one", x.scout(1, 1), 85);
        Check.due("for two it is as good: the fewest roads", x.scout(2, 0), 0);
        Check.due("for two", x.scout(2, 1), 95);
        // gate two roads off (199), a long way round (595): told, half of 396 hours are saved
        ShutPasses far = Check.landed("place s a g t b c d e f h;from s;to t;road s a 99;road a g 99;road g t 1 doubt 5;"
                + "road s b 99;road b c 99;road c d 99;road d e 99;road e f 99;road f h 99;road h t 1;");
        Check.due("as good in the mean", far.mean(0), 5950);
        Check.due("for 99 hours", far.scout(99, 0), 1);
        Check.due("for 99 hours", far.scout(99, 1), 5 * 199 + 5 * 595 + 990);
        Check.due("worth", far.worth(0), 1980);
        ShutPasses sure = Check.landed("place s t;from s;to t;road s t 7;");
        Check.due("nothing to look at", sure.scout(0, 0), 0);
        Check.due("nothing to look at", sure.scout(99, 1), 7);
        // two gates, either told is as good
        ShutPasses either = Check.landed("place s a b t;cause r 5;from s;to t;road s a 1;road a t 1 by r;road s b 1;"
                + "road b t 1 by r;road s t 9;");
        Check.due("the least bits", either.scout(0, 0), 1);
        Check.due("the least bits", either.scout(0, 1), 55);
    }

    private static void keep() {
        Check.about = "promise 24";
        Check.due("kept open", Check.landed(STRAIGHT).keep(0), 50);
        Check.due("kept open it is never waited at", Check.landed("place s t;from s;to t;road s t 1 doubt 9 wait 99;")
                .keep(0), 10);
        ShutPasses by = Check.landed(TOGETHER);
        // s a kept open: two hours always; s t kept open: 2 or 9
        Check.due("keep(0)", by.keep(0), 20);
        Check.due("keep(1)", by.keep(1), 5 * 2 + 5 * 9);
        Check.due("the mean is as it was", by.mean(0), 5 * 2 + 5 * 10);
        ShutPasses chain = Check.landed("place s a t;from s;to t;road s a 1 doubt 5;road a t 1 doubt 5;");
        Check.due("the other may be shut", chain.keep(0), -2);
        Check.due("the other may be shut", chain.keep(1), -2);
    }

    private static void edge() {
        for (int doubt = 1; doubt <= 9; doubt++) {
            Check.about = "promise 25, doubt " + doubt;
            String land = STRAIGHT.replace("doubt 5", "doubt " + doubt);
            Check.due("by 6 of 10 he goes straight", Check.landed(land).edge(0), doubt <= 5 ? 6 : 11);
            // 5 and 9n of 41 hours straight: at ten alone, the greatest
            Check.due("by 10 of 10", Check.landed(land.replace("s t 10", "s t 41")).edge(0), 10);
            Check.due("never", Check.landed(land.replace("s t 10", "s t 99") + "inn s a t 99;").edge(0), 10);
            // as the road s t is seen to be shut (15 hours) he turns at 8, as it is open (10) at 6
            String seen = land.replace("s t 10", "s t 10 doubt 5 wait 5");
            Check.due("by some known", Check.landed(seen).edge(1), doubt <= 5 ? 6 : doubt <= 7 ? 8 : 11);
            Check.due("what is seen is no doubt any more", Check.landed(seen).edge(0), 11);
        }
        Check.about = "promise 25";
        // by r in 5 of ten, too: shut in 55 of 100 rows by one, in 60 by two
        Check.due("doubt and cause", Check.landed("place s a t;cause r 5;from s;to t;road s t 10;road s a 2;"
                + "road a t 3 doubt 1 by r;").edge(0), 2);
        Check.due("a cause alone is no doubt", Check.landed(TOGETHER).edge(0), -1);
        Check.due("a cause alone is no doubt", Check.landed(TOGETHER).edge(1), -1);
        Check.due("all is as it was", Check.landed(STRAIGHT).edge(0), 6);
        ShutPasses x = Check.landed(STRAIGHT);
        x.edge(0);
        Check.due("all is as it was", x.mean(0), 95);
        Check.due("all is as it was", x.weight(1), 5);
    }
}
