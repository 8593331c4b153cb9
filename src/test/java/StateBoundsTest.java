import java.math.BigInteger;

/** 'Terms' 5 and promises 26 to 31 at their edges; calls that are refused, and that everything then stays as it was. */
public final class StateBoundsTest {
    private static final int LEAST = -2147483648;
    private static final int GREATEST = 2147483647;
    private static final String INN = "place s a b t;from s;to t;road s a 5;road a t 1 doubt 5;road s b 6;road b t 6;"
            + "inn s t a 1;";
    private static final String OTHER = "place q p o;cause z 7;to q;from o;road p o 3 by z wait 2;road q p 4 doubt 2;"
            + "road q o 20;inn o q p 2;sees o p q;";
    private static final String BIG = "place a b c d e f g h i j;cause r 3;cause q 4;from j;to a;road a b 3 doubt 3;"
            + "road b c 2 by r wait 4;road c d 1 doubt 5 by q;road d e 2 doubt 7 wait 30;road e f 1 by q wait 9;"
            + "road f j 2 doubt 1;road a j 60;road g j 1;road g a 40;road h i 1;inn j a b 1;inn g c d 1;inn e b c 2;";
    private static final String TOGETHER = "place s a b t;cause r 9;from b;to t;road s a 1;road a t 1 by r;road s b 1;"
            + "road b t 1 by r;road s t 9;inn s a t 1;";
    /** Two gates, one behind the longest way, for which nothing that is known helps. */
    private static final String FAR = "place s a b t;from s;to t;road s t 99;road a t 9 doubt 5;road b t 9 doubt 5;";
    /** Both gates are worth knowing, though as the first is shut the second one is. */
    private static final String BOTH = "place s a b t;cause r 5;from s;to t;road s a 5;road a t 1 by r;road s b 1;"
            + "road b t 1 doubt 5 by r;road s t 9;";
    private static final String CHAIN = "place s a t;from s;to t;road s a 1 doubt 5;road a t 1 doubt 5;";

    public static void main(String[] args) {
        refusedCallsOfALand();
        refusedCallsOfAWalk();
        refusedCallsOfAFullTape();
        aFaultLeavesAll();
        aLandTakesAll();
        nothingIsLeftOfOlderLands();
        manyLands();
        firstQuestions();
        bothAreWorthKnowing();
        answersInAnyOrder();
        notBegun();
        fromIsAnyPlace();
        draws();
        aCauseDraws();
        standsAtTo();
        aHundredSteps();
        stepByStepAndBack();
        wordsThatAreKnown();
        sightsOnTheWay();
        wrongNumbers();
        counts();
        Check.end("StateBoundsTest");
    }

    /** A land with rules, a row, and a walk of two steps. */
    private static ShutPasses busy() {
        ShutPasses x = Check.landed(INN);
        x.rule(0, -1, 0, 1);
        x.rule(1, 0, 2, 0);
        x.row(0);
        x.begin(0);
        x.buy(0);
        x.go(1);
        return x;
    }

    private static void same(String what, ShutPasses x, ShutPasses as) {
        String[] got = Portrait.of(x).split(" ");
        String[] due = Portrait.of(as).split(" ");
        Check.due(what + ": answers", got.length, due.length);
        for (int i = 0; i < due.length && i < got.length; i++) {
            Check.due(what + ": " + got[i] + " is " + due[i], got[i].equals(due[i]), true);
        }
    }

    private static void refusedCallsOfALand() {
        Check.about = "refused";
        ShutPasses x = busy();
        for (int n : new int[] {LEAST, -1, 1, 20, GREATEST}) {
            Check.due("land(" + n + ")", x.land(n), -2);
        }
        Check.due("in it", x.row(0), -1);
        Check.due("no such road", x.row(1), -1);
        Check.due("no such road", x.row(-1), -1);
        Check.due("no such place", x.rule(4, -1, 0, 1), -1);
        Check.due("no such place", x.rule(0, -1, 0, 4), -1);
        Check.due("no such road", x.rule(0, 1, 0, 1), -1);
        Check.due("no such known", x.rule(0, 0, 3, 1), -1);
        Check.due("below 0", x.begin(-1), false);
        Check.due("below 0", x.begin(LEAST), false);
        for (int n : new int[] {LEAST, -1, 7, GREATEST}) {
            Check.due("mean", x.mean(n), -1);
            Check.due("times", x.times(n, 0), -1);
            Check.due("next", x.next(n, 0, 0), -1);
            Check.due("rows", x.rows(n), -1);
            Check.due("ring", x.ring(n), -1);
            Check.due("worth", x.worth(n), -1);
            Check.due("keep", x.keep(n), -1);
            Check.due("edge", x.edge(n), -1);
            Check.due("look", Check.thrown(x, 0, n), 2);
            Check.due("look", Check.thrown(x, n, 0), 1);
            Check.due("walk", x.walk(n), -1);
        }
        same("refused calls change nothing", x, busy());
    }

    private static void refusedCallsOfAWalk() {
        Check.about = "refused";
        ShutPasses x = busy();
        Check.due("it is shut", x.go(3), -1);
        Check.due("where he is", x.go(1), -1);
        Check.due("no road", x.go(2), -1);
        Check.due("no place", x.go(4), -1);
        Check.due("no place", x.go(-1), -1);
        Check.due("not sold here", x.buy(0), -1);
        Check.due("no word", x.buy(1), -1);
        Check.due("no word", x.buy(-1), -1);
        same("nothing happens", x, busy());
        Check.due("two steps stand", x.back(), 1);
        Check.due("back where he bought", x.walk(0), 0);
        Check.due("what he bought is known", x.walk(2), 2);
        Check.due("it is known", x.buy(0), -1);
        Check.due("one step stands", x.back(), 0);
        Check.due("no more", x.back(), -1);
        Check.due("he may buy again", x.buy(0), 2);
    }

    private static void refusedCallsOfAFullTape() {
        Check.about = "a full tape";
        ShutPasses x = busy();
        String text = OTHER + " ".repeat(600 - OTHER.length());
        Check.feed(x, text);
        Check.due("full", x.feed(1, 2, 3, 4, 5), -1);
        Check.due("full", x.feed(0x20202020, 0x20202020, 0x20202020, 0x20202020, 0x20202020), -1);
        Check.due("too many", x.land(601), -2);
        same("the land stays while the tape fills", x, busy());
        ShutPasses y = Check.landed(BIG);
        Check.feed(y, text);
        y.feed(0, 0, 0, 0, 0);
        Check.due("as it was fed", y.land(600), 9);
        same("as it was fed", y, Check.landed(OTHER));
    }

    private static void aFaultLeavesAll() {
        Check.about = "a fault";
        String[] faults = {"place s", "place s s;", "cause r 0;", "from s;", "place u v;from u;to v;road u v 1 wait 1;",
            "place a b c d e f g h i j k;"};
        for (String fault : faults) {
            ShutPasses x = busy();
            Check.due("land(" + fault + ")", Check.land(x, fault), -1);
            // the fault itself is told; all else is as on a land that had none
            Check.due("places", x.count(0), 4);
            Check.due("rules", x.count(7), 2);
            Check.due("row", x.count(8), 1);
            Check.due("steps", x.walk(3), 2);
            Check.due("hours", x.walk(1), 6);
            String got = Portrait.of(x);
            String due = Portrait.of(busy());
            Check.due("all else stays", got.substring(got.indexOf("count0")).equals(due.substring(due.indexOf("count0"))),
                    true);
            Check.due("the walk goes on", x.go(0), 11);
            Check.due("another rule", x.rule(2, -1, 0, 3), 2);
        }
    }

    private static void aLandTakesAll() {
        Check.about = "a land";
        ShutPasses x = busy();
        Check.due("land", Check.land(x, OTHER), 9);
        Check.due("no rules", x.count(7), 0);
        Check.due("no row", x.count(8), 0);
        Check.due("no walk", x.walk(0), -1);
        Check.due("no steps", x.back(), -1);
        Check.due("no walk", x.go(1), -1);
        Check.due("no walk", x.buy(0), -1);
        Check.due("no row", x.clear(), 0);
        Check.due("the first rule", x.rule(2, -1, 0, 1), 0);
        Check.due("the first of the row", x.row(0), 1);
        ShutPasses again = busy();
        Check.land(again, INN);
        same("the same land again has none either", again, Check.landed(INN));
    }

    /** Whatever was asked of a land before, the next one answers as if it were the first. */
    private static void nothingIsLeftOfOlderLands() {
        String[] lands = {INN, OTHER, BIG, CHAIN, TOGETHER, FAR, BOTH, "place s t;from s;to s;road s t 5 doubt 5;", "place s;", ""};
        for (String older : lands) {
            for (String newer : lands) {
                Check.about = older + " then " + newer;
                ShutPasses x = Check.landed(older);
                Portrait.of(x);
                x.row(0);
                x.rule(0, -1, 0, 0);
                x.begin(3);
                Check.due("land", Check.land(x, newer) >= 0, true);
                same("as the first", x, Check.landed(newer));
            }
        }
    }

    /** A land is the third or a later one of its object, and some between had faults behind all that they told. */
    private static void manyLands() {
        String full = "place a b c d e f g h i j;cause r 1;cause q 1;from a;to j;road a b 1doubt1;road a c 1doubt1;"
                + "road a d 1doubt1;road a e 1doubt1;road a f 1doubt1;road a g 1doubt1;road a j7;" + "sees j a b;".repeat(8)
                + "inn j a b1;".repeat(6);
        ShutPasses x = new ShutPasses();
        Check.about = "many lands";
        for (int i = 0; i < 2; i++) {
            Check.due("the fullest", Check.land(x, full), 26);
            Check.due("spoilt at its end", Check.land(x, full + "from a;"), -1);
            Check.due("where", x.fault(1), full.length());
            Check.due("too much at its end", Check.land(x, full + "inn j a b1;"), -1);
            Check.due("which", x.fault(0), 2);
            Check.due("where", x.fault(1), full.length());
        }
        Check.due("again", Check.land(x, full), 26);
        same("as the first", x, Check.landed(full));
        ShutPasses y = new ShutPasses();
        for (int i = 0; i < 3; i++) {
            Check.due("another", Check.land(y, OTHER), 9);
            Check.due("and another", Check.land(y, TOGETHER), 10);
            Check.due("and one with a fault", Check.land(y, full + "sees j a b;"), -1);
        }
        Check.due("land", Check.land(y, INN), 8);
        same("as the first", y, Check.landed(INN));
    }

    /** What a plan stands on is reckoned anew for each land, whatever was asked last and is asked first. */
    private static void firstQuestions() {
        for (String older : new String[] {INN, BIG, OTHER}) {
            for (int i = 0; i < 63; i++) {
                ShutPasses x = Check.landed(older);
                ask(x, i % 7);
                ask(x, 2);
                Check.land(x, TOGETHER);
                Check.about = "question " + i + " after " + older;
                Check.due("first", ask(x, i), ask(Check.landed(TOGETHER), i));
            }
        }
    }

    /** 25 of 100 rows 2 hours, 25 rows 6, 50 rows 9: what can't be known adds nothing, whatever was there before. */
    private static void bothAreWorthKnowing() {
        for (String older : new String[] {"", FAR, INN}) {
            ShutPasses x = Check.landed(older);
            Portrait.of(x);
            Check.land(x, BOTH);
            Check.about = "after " + older;
            Check.due("both", x.scout(0, 0), 3);
            Check.due("both", x.scout(0, 1), 650);
            Check.due("from", x.from(0, 5), -1);
        }
    }

    /** Each question alone on a new object has the answer that it has among all. */
    private static void answersInAnyOrder() {
        for (String text : new String[] {INN, OTHER, BIG}) {
            ShutPasses forth = Check.landed(text);
            ShutPasses back = Check.landed(text);
            long[] answers = new long[63];
            for (int i = 0; i < answers.length; i++) {
                answers[i] = ask(forth, i);
            }
            for (int i = answers.length - 1; i >= 0; i--) {
                Check.about = "question " + i + " of " + text;
                Check.due("from the last on", ask(back, i), answers[i]);
                Check.due("alone", ask(Check.landed(text), i), answers[i]);
                Check.due("again", ask(forth, i), answers[i]);
            }
        }
    }

    private static long ask(ShutPasses x, int i) {
        int plan = i % 7;
        switch (i / 7) {
            case 0: return x.mean(plan);
            case 1: return x.times(plan, 0);
            case 2: return x.hours(plan, 0);
            case 3: return x.rows(plan);
            case 4: return plan < 3 ? x.keep(plan) : x.edge(plan - 3);
            case 5: return x.worst(plan);
            case 6: return x.next(plan, x.count(5), x.count(2) > 5 ? 2 : 1);
            case 7: return plan < 2 ? x.ring(plan) : plan < 4 ? x.knowing(plan - 2) : x.from(plan - 4, 0);
            default: return plan < 2 ? x.worth(plan) : plan < 4 ? x.bell(20 * plan) : x.scout(1, plan % 2);
        }
    }

    private static void notBegun() {
        Check.about = "no walk";
        for (String text : new String[] {INN, "place s t;to t;road s t 1;", "place s t;from s;road s t 1;", "place s t;"}) {
            ShutPasses x = Check.landed(text);
            Check.due("below 0", x.begin(-1), false);
            Check.due("below 0", x.begin(LEAST), false);
            Check.due("begin(0)", x.begin(0), text.equals(INN));
            if (text.equals(INN)) {
                continue;
            }
            Check.due("begin(2147483647)", x.begin(GREATEST), false);
            for (int n = -1; n <= 6; n++) {
                Check.due("walk", x.walk(n), -1);
                Check.due("go", x.go(n), -1);
                Check.due("buy", x.buy(n), -1);
            }
            Check.due("back", x.back(), -1);
        }
    }

    private static void fromIsAnyPlace() {
        Check.about = "from is not the first place";
        ShutPasses x = Check.landed("place a b c d;from c;to b;road c d 2;road d b 3;road a c 1 doubt 5;");
        Check.due("begin", x.begin(0), true);
        Check.due("at from", x.walk(0), 2);
        Check.due("not at to", x.walk(5), 0);
        Check.due("a c is seen", x.walk(2), 2);
        Check.due("go", x.go(3), 2);
        Check.due("go", x.go(1), 5);
        Check.due("at to", x.walk(5), 1);
        x.back();
        x.back();
        Check.due("at from again", x.walk(0), 2);
        Check.due("begin anew", x.begin(1), true);
        Check.due("at from", x.walk(0), 2);
        Check.due("a c is open", x.go(0), 1);
    }

    /** The number that follows, reckoned in whole: what is above 31 bits falls away. */
    private static BigInteger follow(BigInteger number) {
        return number.multiply(BigInteger.valueOf(1103515245)).add(BigInteger.valueOf(12345))
                .mod(BigInteger.ONE.shiftLeft(31));
    }

    private static int ten(BigInteger number) {
        return number.divide(BigInteger.valueOf(65536)).mod(BigInteger.TEN).intValue();
    }

    /** Shut as the number is below N: by each N and many seeds, the least and the greatest among them. */
    private static void draws() {
        int seen = 0;
        int[] seeds = {0, 1, 2, 3, 4, 5, 6, 7, 8, 9, 10, 11, 12, 65536, 1000000, 2147483645, 2147483646, GREATEST};
        for (int odds = 1; odds <= 9; odds++) {
            ShutPasses doubt = Check.landed("place s t;from s;to t;road s t 1 doubt " + odds + ";");
            ShutPasses cause = Check.landed("place s t;cause r " + odds + ";from s;to t;road s t 1 by r;");
            for (int seed : seeds) {
                int drawn = ten(follow(BigInteger.valueOf(seed)));
                seen |= 1 << drawn;
                Check.about = "seed " + seed + ", " + odds + " of ten";
                Check.due("begin", doubt.begin(seed), true);
                Check.due("shut", doubt.walk(4), drawn < odds ? 1 : 0);
                Check.due("known", doubt.walk(2), drawn < odds ? 2 : 1);
                Check.due("begin", cause.begin(seed), true);
                Check.due("it comes", cause.walk(4), drawn < odds ? 1 : 0);
            }
        }
        Check.due("all ten were drawn", seen, 1023);
    }

    /** A road with no doubt of its own draws nothing; each cause draws, after all doubts, though it shuts no road. */
    private static void aCauseDraws() {
        ShutPasses x = Check.landed("place s a b c t;cause q 5;cause r 5;from s;to t;road s a 1 by r;road s b 1 doubt 5;"
                + "road s c 1;road s t 1 doubt 5 by r;");
        for (int seed = 0; seed < 40; seed++) {
            BigInteger number = BigInteger.valueOf(seed);
            int[] below = new int[4];
            for (int i = 0; i < 4; i++) {
                number = follow(number);
                below[i] = ten(number) < 5 ? 1 : 0;
            }
            Check.about = "seed " + seed;
            Check.due("begin", x.begin(seed), true);
            Check.due("world", x.walk(4), below[3] | below[0] << 1 | (below[1] | below[3]) << 2);
            Check.due("he is at from", x.walk(0), 0);
            Check.due("no hours", x.walk(1), 0);
            Check.due("no steps", x.walk(3), 0);
        }
    }

    private static void standsAtTo() {
        Check.about = "at to";
        ShutPasses x = Check.landed("place s a t;from s;to t;road s t 4;road a t 1 doubt 5;road s a 1 doubt 5;inn t s a 1;"
                + "inn s a t 2;");
        x.begin(0);
        Check.due("go(2)", x.go(2), 4);
        Check.due("there", x.walk(5), 1);
        Check.due("a t is seen at to, too", x.walk(2) % 3 > 0, true);
        for (int n = -1; n <= 3; n++) {
            Check.due("go(" + n + ")", x.go(n), -1);
            Check.due("buy(" + n + ")", x.buy(n), -1);
        }
        Check.due("one step", x.walk(3), 1);
        Check.due("back", x.back(), 0);
        Check.due("not there", x.walk(5), 0);
        Check.due("a t is not known", x.walk(2) % 3, 0);
        Check.due("he may buy", x.buy(1) > 0, true);
        ShutPasses there = Check.landed("place s t;from s;to s;road s t 5 doubt 5;inn s s t 1;");
        Check.due("begin", there.begin(0), true);
        Check.due("he is there", there.walk(5), 1);
        Check.due("go", there.go(1), -1);
        Check.due("buy", there.buy(0), -1);
        Check.due("back", there.back(), -1);
        Check.due("no steps", there.walk(3), 0);
        Check.due("known", there.walk(2), 2);
    }

    private static void aHundredSteps() {
        Check.about = "100 steps";
        ShutPasses x = Check.landed(INN);
        x.begin(0);
        for (int step = 1; step <= 99; step++) {
            Check.due("step " + step, x.go(step % 2 == 1 ? 2 : 0), 6 * step);
        }
        Check.due("99", x.walk(3), 99);
        Check.due("he is at b", x.walk(0), 2);
        Check.due("the 100th", x.go(0), 600);
        Check.due("100", x.walk(3), 100);
        Check.due("no 101st", x.go(2), -1);
        Check.due("nor a word", x.buy(0), -1);
        Check.due("nothing happened", x.walk(3), 100);
        Check.due("nothing happened", x.walk(1), 600);
        Check.due("nothing happened", x.walk(2), 0);
        Check.due("back", x.back(), 99);
        Check.due("back", x.back(), 98);
        Check.due("he is at s", x.walk(0), 0);
        Check.due("hours", x.walk(1), 6 * 98);
        Check.due("the 99th is a word", x.buy(0), 2);
        Check.due("the 100th", x.go(1), 6 * 98 + 1 + 5);
        Check.due("no 101st", x.go(0), -1);
        for (int step = 99; step >= 0; step--) {
            Check.due("back", x.back(), step);
        }
        Check.due("no more", x.back(), -1);
        Check.due("where he began", x.walk(0), 0);
        Check.due("when he began", x.walk(1), 0);
        Check.due("what he knew", x.walk(2), 0);
    }

    private static void stepByStepAndBack() {
        Check.about = "step by step";
        ShutPasses x = Check.landed("place s a t;from s;to t;road s a 9 doubt 9 wait 90;road a t 5 doubt 9 wait 99;"
                + "road s t 99;");
        // seed 0: 0 of ten, then 0 of ten or more
        Check.due("begin(0)", x.begin(0), true);
        int world = x.walk(4);
        int second = world >> 1 & 1;
        Check.due("s a is shut", world & 1, 1);
        Check.due("known", x.walk(2), 2);
        Check.due("go with a wait", x.go(1), 99);
        Check.due("a t is seen", x.walk(2), 2 + 3 * (1 + second));
        Check.due("go on", x.go(2), 99 + 5 + 99 * second);
        Check.due("steps", x.walk(3), 2);
        Check.due("back", x.back(), 1);
        Check.due("a t is still seen at a", x.walk(2), 2 + 3 * (1 + second));
        Check.due("back", x.back(), 0);
        Check.due("a t is not known", x.walk(2), 2);
        Check.due("none", x.back(), -1);
        Check.due("the world is as drawn", x.walk(4), world);
        Check.due("begin anew", x.begin(0), true);
        Check.due("none", x.back(), -1);
        Check.due("another way", x.go(2), 99);
        Check.due("begin in the midst", x.begin(0), true);
        Check.due("no steps", x.walk(3), 0);
        Check.due("no hours", x.walk(1), 0);
        Check.due("at from", x.walk(0), 0);
        Check.due("not at to", x.walk(5), 0);
    }

    private static void wordsThatAreKnown() {
        Check.about = "promise 28";
        ShutPasses x = Check.landed("place s a t;from s;to t;road s a 1;road a t 1 doubt 5;road s t 9 doubt 5 wait 1;"
                + "inn s a t 99;inn s s t 1;inn a s t 1;inn s a t 1;");
        for (int seed = 0; seed < 20; seed++) {
            Check.due("begin", x.begin(seed), true);
            int shut = x.walk(4) & 1;
            Check.due("s t is seen at s", x.buy(1), -1);
            Check.due("not sold here", x.buy(2), -1);
            Check.due("told", x.buy(0), 1 + shut);
            Check.due("for 99 hours", x.walk(1), 99);
            Check.due("known by another word", x.buy(3), -1);
            Check.due("one step", x.walk(3), 1);
            Check.due("back", x.back(), 0);
            Check.due("the other word", x.buy(3), 1 + shut);
            Check.due("for an hour", x.walk(1), 1);
            Check.due("he is where he was", x.walk(0), 0);
            Check.due("go", x.go(1), 2);
            Check.due("s t was seen", x.buy(2), -1);
            Check.due("to as it is", x.go(2), shut == 1 ? -1 : 3);
        }
    }

    private static void sightsOnTheWay() {
        Check.about = "sees";
        ShutPasses x = Check.landed("place s a b t;from s;to t;road s a 1;road a b 1;road b t 1 doubt 5;road s t 9 doubt 5;"
                + "sees a b t;");
        for (int seed = 0; seed < 10; seed++) {
            x.begin(seed);
            int first = 1 + (x.walk(4) & 1);
            int second = 3 * (1 + (x.walk(4) >> 1 & 1));
            Check.due("at s its own road", x.walk(2), second);
            x.go(1);
            Check.due("at a what is seen from afar", x.walk(2), first + second);
            x.go(0);
            Check.due("at s it is still known", x.walk(2), first + second);
        }
    }

    private static void wrongNumbers() {
        Check.about = "wrong numbers";
        ShutPasses x = busy();
        for (int n : new int[] {LEAST, -2, -1, 6, 7, 100, GREATEST}) {
            Check.due("walk(" + n + ")", x.walk(n), -1);
            Check.due("go(" + n + ")", x.go(n), -1);
            Check.due("buy(" + n + ")", x.buy(n), -1);
        }
        for (int n : new int[] {LEAST, -2, -1, 9, 10, GREATEST}) {
            Check.due("count(" + n + ")", x.count(n), -1);
        }
        Check.due("steps", x.walk(3), 2);
    }

    private static void counts() {
        Check.about = "promise 31";
        ShutPasses x = busy();
        int[] due = {4, 4, 1, 0, 1, 0, 3, 2, 1, -1};
        for (int what = 0; what < due.length; what++) {
            Check.due("count(" + what + ")", x.count(what), due[what]);
        }
        x.clear();
        Check.due("the row is empty", x.count(8), 0);
        Check.due("the rules stay", x.count(7), 2);
        Check.due("from is place 0", x.count(5), 0);
        ShutPasses ends = Check.landed("place s t;to s;");
        Check.due("no from", ends.count(5), -1);
        Check.due("to is place 0", ends.count(6), 0);
        ShutPasses other = Check.landed(OTHER);
        int[] others = {3, 3, 2, 1, 1, 2, 0, 0, 0};
        for (int what = 0; what < others.length; what++) {
            Check.due("count(" + what + ")", other.count(what), others[what]);
        }
    }
}
