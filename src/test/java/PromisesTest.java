/** Each promise by lands small enough to reckon by hand: ordinary answers, the document's edges, wrong inputs. */
public final class PromisesTest {
    /** One doubtful road behind a; ten hours straight. */
    private static final String STRAIGHT = "place s a t; from s; to t; road s t 10; road s a 2; road a t 3 doubt 5;";
    /** Word of the doubtful road is sold for an hour where he sets out. */
    private static final String INN = "place s a b t;from s;to t;road s a 5;road a t 1 doubt 5;road s b 6;road b t 6;"
            + "inn s t a 1;";
    /** Two roads that one cause shuts together. */
    private static final String TOGETHER = "place s a b t;cause r 5;from s;to t;road s a 1;road a t 1 by r;road s b 1;"
            + "road b t 1 by r;road s t 9;";
    /** Two doubtful roads to try, the second more likely open. */
    private static final String TWO = "place s a b t;from s;to t;road s a 1;road a t 1 doubt 5;road s b 1;"
            + "road b t 1 doubt 2;road s t 9;";
    /** The only road may be shut. */
    private static final String NO_WAY = "place s t;from s;to t;road s t 5 doubt 5;";
    /** He is there as he sets out. */
    private static final String THERE = "place s t;from s;to s;road s t 5 doubt 5;";
    /** No from and no to. */
    private static final String ENDLESS = "place s t;road s t 5 doubt 5;";

    public static void main(String[] args) {
        newObject();
        tape();
        land();
        faultsOfTokens();
        faultsOfCounts();
        faultsOfNames();
        look();
        worlds();
        knowing();
        means();
        hours();
        times();
        next();
        from();
        rowAndRows();
        rules();
        rings();
        bells();
        worthAndScout();
        keep();
        edge();
        walk();
        walkByDraw();
        counts();
        Check.end("PromisesTest");
    }

    private static void newObject() {
        Check.about = "promise 1";
        ShutPasses x = new ShutPasses();
        for (int what = 0; what <= 4; what++) {
            Check.due("count", x.count(what), 0);
        }
        Check.due("from", x.count(5), -1);
        Check.due("to", x.count(6), -1);
        Check.due("rules", x.count(7), 0);
        Check.due("row", x.count(8), 0);
        Check.due("fault(0)", x.fault(0), 0);
        Check.due("fault(1)", x.fault(1), -1);
        Check.due("walk", x.walk(3), -1);
        Check.due("the tape is empty", x.land(1), -2);
        Check.due("weight(0)", x.weight(0), 1);
        Check.due("likely(0)", x.likely(0), 1);
        Check.due("shut", x.shut(0, 0), -1);
        Check.due("next", x.next(0, 0, 0), -1);
        Check.due("scout", x.scout(0, 0), -1);
        Check.due("edge", x.edge(0), -1);
        Check.due("keep", x.keep(0), -1);
        Check.due("worth", x.worth(0), -1);
        Check.due("hours", x.hours(0, 0), -1);
        Check.due("times", x.times(0, 0), -1);
        Check.due("buy", x.buy(0), -1);
    }

    private static void tape() {
        Check.about = "promise 2";
        ShutPasses x = new ShutPasses();
        Check.due("feed", x.feed(1886151011, 1696625467, 538976288, 538976288, 538976288), 20);
        for (int i = 2; i <= 30; i++) {
            Check.due("feed", x.feed(538976288, 538976288, 538976288, 538976288, 538976314), 20 * i);
        }
        Check.due("feed beyond 600", x.feed(0, 0, 0, 0, 0), -1);
        Check.due("none came", x.land(601), -2);
        Check.due("land(600): a colon ends the second feed", x.land(600), -1);
        Check.due("place", x.fault(1), 39);
        Check.due("the tape is empty then", x.land(1), -2);
        Check.due("feed anew", x.feed(-1, 0, 0, 0, 0), 20);
        Check.due("byte 255 is no token", x.land(1), -1);
        Check.due("place", x.fault(1), 0);
    }

    private static void land() {
        Check.about = "promise 3";
        ShutPasses x = Check.landed(STRAIGHT);
        x.rule(0, -1, 0, 1);
        x.row(0);
        x.begin(1);
        Check.feed(x, "place a;");
        Check.due("land(-1)", x.land(-1), -2);
        Check.due("land(21)", x.land(21), -2);
        Check.due("all stays", x.count(0), 3);
        Check.due("the tape stays; a fault", x.land(7), -1);
        Check.due("all else stays", x.count(0), 3);
        Check.due("rules stay", x.count(7), 1);
        Check.due("row stays", x.count(8), 1);
        Check.due("walk stays", x.walk(0), 0);
        Check.due("mean stays", x.mean(0), 95);
        Check.due("the tape is empty", x.land(1), -2);
        Check.due("fault of the latest not -2", x.fault(0), 1);
        Check.due("place", x.fault(1), 7);
        Check.due("fault(2)", x.fault(2), -1);
        Check.due("fault(-1)", x.fault(-1), -1);
        Check.due("land anew", Check.land(x, "place u;place v w;"), 2);
        Check.due("no fault", x.fault(0), 0);
        Check.due("no place", x.fault(1), -1);
        Check.due("no rules", x.count(7), 0);
        Check.due("no row", x.count(8), 0);
        Check.due("no walk", x.walk(0), -1);
        Check.due("places", x.count(0), 3);
        Check.due("roads", x.count(1), 0);
        Check.due("no from", x.mean(0), -1);
        Check.feed(x, STRAIGHT);
        Check.due("a part is the land", x.land(20), 2);
        Check.due("blanks alone", Check.land(x, " \n \n"), 0);
        Check.due("the empty land", x.land(0), 0);
        Check.due("places", x.count(0), 0);
    }

    private static void faultsOfTokens() {
        Check.fault(";", 1, 0);
        Check.fault("place s;;", 1, 8);
        Check.fault("place S;", 1, 6);
        Check.fault("place s-t;", 1, 7);
        Check.fault("place s\tt;", 1, 7);
        Check.fault("place abcdefg;", 1, 6);
        Check.fault("place s abcdefg;", 1, 8);
        Check.fault("place 7;", 1, 6);
        Check.fault("place", 1, 5);
        Check.fault("place s  ", 1, 9);
        Check.fault("places s;", 1, 0);
        Check.fault("placefs s;", 1, 0);
        Check.fault("s;", 1, 0);
        Check.fault("12;", 1, 0);
        Check.fault("cause 1 r;", 1, 6);
        Check.fault("cause r;", 1, 7);
        Check.fault("cause by 1;", 1, 6);
        Check.fault("place s t;road s t;", 1, 18);
        Check.fault("place s t;road s t x;", 1, 19);
        Check.fault("place s t;road s t 1 2;", 1, 21);
        Check.fault("place s t;road s t 1 wait 2;", 1, 21);
        Check.fault("place s t;road s t 1 doubt;", 1, 26);
        Check.fault("place s t;road s t 1 doubt 1 doubt 1;", 1, 29);
        Check.fault("place s t;cause r 1;road s t 1 by r doubt 1;", 1, 36);
        Check.fault("place s t;cause r 1;road s t 1 by 1;", 1, 34);
        Check.fault("place s t;road s t 1 doubt 1 wait;", 1, 33);
        Check.fault("place s t;road s t 1 doubt 1 wait 1 wait 1;", 1, 36);
        Check.fault("place s t;from s t;", 1, 17);
        Check.fault("place s t;to 5;", 1, 13);
        Check.fault("place s t;road s t 1 doubt 1;sees s s;", 1, 37);
        Check.fault("place s t;road s t 1 doubt 1;sees s s t 1;", 1, 40);
        Check.fault("place s t;road s t 1 doubt 1;inn s s t;", 1, 38);
        Check.fine("place s t;road s t1doubt1wait1;", 2);
        Check.fine("place abcdef\nz;cause z 01;road z\nabcdef 0099 doubt 09 by z wait 00001;", 3);
    }

    private static void faultsOfCounts() {
        String places = "place a b c d e f g h i j;";
        Check.fine(places, 1);
        Check.fault("place a b c d e f g h i j k;", 2, 26);
        Check.fault(places + "place a;", 2, 32);
        Check.fault(places + "place to;", 1, 32);
        Check.fault("cause a 1;cause b 1;cause", 2, 20);
        Check.fault("cause a 0;", 2, 8);
        Check.fault("cause a 10;", 2, 8);
        Check.fault("cause a 99999999999999999999999;", 2, 8);
        Check.fault("cause a 4294967297;", 2, 8);
        Check.fault("place s t;road s t 0;", 2, 19);
        Check.fault("place s t;road s t 100;", 2, 19);
        Check.fault("place s t;road s t 1 doubt 0;", 2, 27);
        Check.fault("place s t;road s t 1 doubt 10;", 2, 27);
        Check.fault("place s t;road s t 1 doubt 1 wait 0;", 2, 34);
        Check.fault("place s t;road s t 1 doubt 1 wait 100;", 2, 34);
        Check.fault("place s t;road s t 1 doubt 1;inn s s t 0;", 2, 39);
        Check.fault("place s t;road s t 1 doubt 1;inn s s t 100;", 2, 39);
        StringBuilder roads = new StringBuilder(places);
        int told = 0;
        for (char a = 'a'; a <= 'j'; a++) {
            for (char b = 'a'; b < a && told < 24; b++, told++) {
                roads.append("road ").append(a).append(' ').append(b).append(" 1;");
            }
        }
        Check.fine(roads.toString(), 25);
        Check.fault(roads + "road", 2, roads.length());
        String doubts = places + "cause r 1;road a b 1 doubt 1;road a c 1 by r;road a d 1 doubt 1 by r;"
                + "road a e 1 doubt 1;road a f 1 doubt 1;road a g 1 doubt 1;";
        Check.fine(doubts + "road a h 1;", 9);
        Check.fault(doubts + "road a h 1 doubt 1;", 2, doubts.length() + 11);
        Check.fault(doubts + "road a h 1 by r;", 2, doubts.length() + 11);
        Check.fault(doubts + "road a h 1 by to;", 2, doubts.length() + 11);
        String seen = "place s t u;road s t 1 doubt 1;" + "sees u s t;sees s t s;".repeat(4);
        Check.fine(seen, 10);
        Check.fault(seen + "sees", 2, seen.length());
        String sold = "place s t u;road s t 1 doubt 1;" + "inn u s t 1;inn s t s 99;".repeat(3);
        Check.fine(sold, 8);
        Check.fault(sold + "inn", 2, sold.length());
    }

    private static void faultsOfNames() {
        Check.fault("place s s;", 3, 8);
        Check.fault("place s;place t s;", 3, 16);
        Check.fault("cause r 1;cause r", 3, 16);
        Check.fine("cause s 1;place s;", 2);
        Check.fault("place s;from s;from", 3, 15);
        Check.fault("place s;to s;to 1;", 3, 13);
        Check.fine("place s;to s;from s;", 3);
        Check.fault("place s t;road s t 1;road s t 1;", 3, 28);
        Check.fault("place s t;road s t 1;road t s 1;", 3, 28);
        Check.fault("place s t;road t t 1;", 3, 17);
        Check.fault("place s;road s t 1;", 4, 15);
        Check.fault("place s;road t s 1;", 4, 13);
        Check.fault("place s;road t t 1;", 4, 13);
        Check.fault("from s;place s;", 4, 5);
        Check.fault("place s;to t;", 4, 11);
        Check.fault("place r s;road r s 1 by r;", 4, 24);
        Check.fault("place s t;road s t 1 by r;cause r 1;", 4, 24);
        Check.fault("place s t;road s t 1 doubt 1;sees u s t;", 4, 34);
        Check.fault("place s t;road s t 1 doubt 1;sees s u t;", 4, 36);
        Check.fault("place s t;road s t 1 doubt 1;sees s t u;", 4, 38);
        Check.fault("place s t;road s t 1 doubt 1;sees s t t;", 4, 38);
        Check.fault("place s t;road s t 1;sees s s t;", 4, 30);
        Check.fault("place s t;inn s s t 1;", 4, 18);
        Check.fault("place s t;sees s s t;road s t 1 doubt 1;", 4, 19);
    }

    private static void look() {
        ShutPasses x = Check.landed("place s t u;cause r 1;cause q 2;road u s 7;road t u 9 doubt 3 by q wait 8;"
                + "road s t 1 by r;");
        Check.about = "promise 5";
        int[][] due = {{2, 0, 7, 0, -1, 0, -1}, {1, 2, 9, 3, 1, 8, 0}, {0, 1, 1, 0, 0, 0, 1}};
        for (int road = 0; road < 3; road++) {
            for (int what = 0; what < 7; what++) {
                Check.due("look(" + road + ", " + what + ")", x.look(road, what), due[road][what]);
            }
            Check.due("no such what", Check.thrown(x, road, -1), 2);
            Check.due("no such what", Check.thrown(x, road, 7), 2);
            Check.due("a road's fact", Check.thrown(x, road, 0), 0);
        }
        Check.due("no such road", Check.thrown(x, -1, 0), 1);
        Check.due("no such road", Check.thrown(x, 3, 0), 1);
        Check.due("neither", Check.thrown(x, 3, 7), 1);
    }

    private static void worlds() {
        ShutPasses x = Check.landed("place s t u;cause r 3;cause q 2;road s t 1 by r;road t u 1 doubt 4 by r;");
        Check.about = "promises 6, 7, 8";
        // of 1000 rows: r comes in 300, else (700) the second road is shut in four of ten
        long[] weights = {420, 0, 280, 300};
        for (int w = 0; w < 4; w++) {
            Check.due("weight(" + w + ")", x.weight(w), weights[w]);
        }
        Check.due("weight(-1)", x.weight(-1), -1);
        Check.due("weight(4)", x.weight(4), -1);
        long[] likely = {1000, 700, 300, 420, 420, 0, 580, 280, 300};
        for (int k = 0; k < 9; k++) {
            Check.due("likely(" + k + ")", x.likely(k), likely[k]);
        }
        Check.due("likely(-1)", x.likely(-1), -1);
        Check.due("likely(9)", x.likely(9), -1);
        Check.due("shut(0, 0)", x.shut(0, 0), 300);
        Check.due("shut(0, 1)", x.shut(0, 1), 580);
        Check.due("shut(1, 1)", x.shut(1, 1), 280);
        Check.due("known to be open", x.shut(3, 1), 0);
        Check.due("known to be shut", x.shut(6, 1), 580);
        Check.due("shut(6, 0)", x.shut(6, 0), 300);
        Check.due("shut(9, 0)", x.shut(9, 0), -1);
        Check.due("shut(-1, 0)", x.shut(-1, 0), -1);
        Check.due("shut(0, 2)", x.shut(0, 2), -1);
        Check.due("shut(0, -1)", x.shut(0, -1), -1);
    }

    private static void knowing() {
        ShutPasses x = Check.landed("place s a t;cause r 1;from s;to t;road s a 1;road a t 1 by r wait 6;"
                + "road s t 5 doubt 1;inn s a t 1;");
        Check.about = "promise 9";
        Check.due("all open", x.knowing(0), 2);
        Check.due("the first shut", x.knowing(1), 5);
        Check.due("the second shut", x.knowing(2), 2);
        Check.due("both shut: he waits", x.knowing(3), 8);
        Check.due("knowing(4)", x.knowing(4), -1);
        Check.due("knowing(-1)", x.knowing(-1), -1);
        ShutPasses none = Check.landed(NO_WAY);
        Check.due("open", none.knowing(0), 5);
        Check.due("never", none.knowing(1), -2);
        Check.due("no from, to", Check.landed("place s t;from s;road s t 1;").knowing(0), -1);
        ShutPasses odd = Check.landed(TOGETHER);
        Check.due("a world of no weight", odd.knowing(1), 2);
    }

    private static void means() {
        Check.about = "promises 10, 11";
        ShutPasses x = Check.landed(INN);
        long[] means = {100, 120, 100, 140, 120, 120, -2};
        int[] worsts = {13, 12, 13, 22, 12, 12, -2};
        for (int plan = 0; plan <= 6; plan++) {
            Check.due("mean(" + plan + ")", x.mean(plan), means[plan]);
            Check.due("worst(" + plan + ")", x.worst(plan), worsts[plan]);
        }
        x.row(0);
        Check.due("try it", x.mean(5), 140);
        for (int plan : new int[] {-1, 7}) {
            Check.due("no such plan", x.mean(plan), -1);
            Check.due("no such plan", x.worst(plan), -1);
        }
        ShutPasses rare = Check.landed(INN.replace("doubt 5", "doubt 9"));
        Check.due("best goes round", rare.mean(0), 120);
        Check.due("fair buys", rare.mean(2), 124);
        ShutPasses never = Check.landed(NO_WAY);
        ShutPasses there = Check.landed(THERE);
        ShutPasses endless = Check.landed("place s t;to t;road s t 1;");
        for (int plan = 0; plan <= 6; plan++) {
            Check.due("never", never.mean(plan), -2);
            Check.due("never", never.worst(plan), -2);
            Check.due("he is there", there.mean(plan), 0);
            Check.due("he is there", there.worst(plan), 0);
            Check.due("no from", endless.mean(plan), -1);
            Check.due("no from", endless.worst(plan), -1);
        }
        Check.due("he may come back to wait", Check.landed("place s a t;from s;to t;road s a 1 doubt 5;road a t 1;"
                + "road s t 30 doubt 5 wait 30;").mean(4), 25 * 2 + 25 * 30 + 25 * 2 + 25 * 60);
    }

    private static void hours() {
        ShutPasses x = Check.landed(INN);
        Check.about = "promise 12";
        int[][] due = {{7, 13}, {12, 12}, {7, 13}, {6, 22}, {12, 12}, {12, 12}, {-2, -2}};
        for (int plan = 0; plan <= 6; plan++) {
            Check.due("hours(" + plan + ", 0)", x.hours(plan, 0), due[plan][0]);
            Check.due("hours(" + plan + ", 1)", x.hours(plan, 1), due[plan][1]);
            Check.due("no such world", x.hours(plan, 2), -1);
            Check.due("no such world", x.hours(plan, -1), -1);
        }
        Check.due("no such plan", x.hours(7, 0), -1);
        Check.due("no such plan", x.hours(-1, 0), -1);
        ShutPasses odd = Check.landed(TOGETHER);
        Check.due("likely", odd.hours(0, 3), 11);
        Check.due("not likely", odd.hours(0, 1), -1);
        ShutPasses never = Check.landed(NO_WAY);
        Check.due("it is open", never.hours(0, 0), 5);
        Check.due("it is shut", never.hours(0, 1), -2);
        Check.due("no from", Check.landed("place s;to s;").hours(0, 0), -1);
    }

    private static void times() {
        ShutPasses x = Check.landed(INN);
        Check.about = "promise 13";
        int[][] due = {{7, 6}, {12, 6}, {7, 6}, {22, 12}, {12, 6}, {12, 6}};
        for (int plan = 0; plan <= 5; plan++) {
            Check.due("times(" + plan + ", 0)", x.times(plan, 0), due[plan][0]);
            Check.due("times(" + plan + ", 1)", x.times(plan, 1), due[plan][1]);
        }
        Check.due("never", x.times(6, 0), -2);
        Check.due("none goes first", x.times(6, 2), -1);
        Check.due("no such what", x.times(0, -1), -1);
        Check.due("no such plan", x.times(7, 0), -1);
        Check.due("no such plan", x.times(-1, 0), -1);
        ShutPasses there = Check.landed(THERE);
        Check.due("he is there", there.times(0, 0), 0);
        Check.due("he is there", there.times(2, 1), 0);
        Check.due("some are never", Check.landed(NO_WAY).times(0, 0), -2);
        // 3 by 3 in the first world and 6 by 6 in the second: the first has it
        Check.due("the first world", Check.landed("place s t u;from s;to t;road s t 3 doubt 5 wait 3;").times(0, 1), 3);
        Check.due("no to", Check.landed("place s;from s;").times(0, 0), -1);
    }

    private static void next() {
        ShutPasses x = Check.landed(INN);
        Check.about = "promise 14";
        int[] due = {100, 2, 100, 1, 2, 2, -2};
        for (int plan = 0; plan <= 6; plan++) {
            Check.due("next(" + plan + ", 0, 0)", x.next(plan, 0, 0), due[plan]);
            Check.due("ends", x.next(plan, 3, 1), -2);
            Check.due("not all seen is known", x.next(plan, 3, 0), -1);
            Check.due("not all seen is known", x.next(plan, 1, 0), -1);
            Check.due("no such known", x.next(plan, 0, 3), -1);
            Check.due("no such known", x.next(plan, 0, -1), -1);
            Check.due("no such place", x.next(plan, 4, 0), -1);
            Check.due("no such place", x.next(plan, -1, 0), -1);
        }
        Check.due("open", x.next(0, 0, 1), 1);
        Check.due("shut", x.next(0, 0, 2), 2);
        Check.due("no such plan", x.next(-1, 0, 0), -1);
        Check.due("no such plan", x.next(7, 0, 0), -1);
        Check.due("seen from afar", Check.landed(STRAIGHT + "sees s t a;").next(0, 0, 0), -1);
        ShutPasses odd = Check.landed(TOGETHER);
        Check.due("likely 0", odd.next(0, 0, 7), -1);
        Check.due("back as both are shut", odd.next(0, 1, 8), 0);
        // both ways take two hours, and word tells nothing that is worth its hour
        ShutPasses equal = Check.landed("place s b a t;from s;to t;road s a 1;road a t 1;road s b 1;road b t 1;"
                + "road s t 2 doubt 5 wait 1;inn b s t 1;");
        for (int plan = 0; plan <= 5; plan++) {
            Check.due("the least place", equal.next(plan, 0, 1), 1);
        }
        Check.due("of two words the first", Check.landed(INN + "inn s a t 1;").next(0, 0, 0), 100);
        Check.due("of two words the cheaper", Check.landed(INN.replace("inn s t a 1;", "inn s t a 2;inn s t a 1;"))
                .next(0, 0, 0), 101);
        // buying comes to (7 + 13) hours, going to b to (10 + 10): as good
        Check.due("go rather than buy", Check.landed("place s a b t;from s;to t;road s a 5;road a t 1 doubt 5;"
                + "road s b 5;road b t 5;inn s a t 2;").next(0, 0, 0), 2);
        Check.due("stays without a way", Check.landed(NO_WAY).next(0, 0, 2), -2);
        Check.due("no from", Check.landed("place s t;to t;road s t 1;").next(0, 0, 0), -1);
    }

    private static void from() {
        ShutPasses x = Check.landed(STRAIGHT);
        Check.about = "promise 15";
        long[][] due = {{95, 25, 50}, {75, 15, 60}, {0, 0, 0}};
        for (int place = 0; place < 3; place++) {
            for (int known = 0; known < 3; known++) {
                Check.due("from(" + place + ", " + known + ")", x.from(place, known), due[place][known]);
            }
        }
        Check.due("no such place", x.from(3, 0), -1);
        Check.due("no such place", x.from(-1, 0), -1);
        Check.due("no such known", x.from(0, 3), -1);
        Check.due("no such known", x.from(0, -1), -1);
        Check.due("not likely", Check.landed(TOGETHER).from(0, 5), -1);
        Check.due("never", Check.landed(NO_WAY).from(0, 0), -2);
        Check.due("never", Check.landed(NO_WAY).from(0, 2), -2);
        Check.due("open", Check.landed(NO_WAY).from(0, 1), 25);
        Check.due("without from", Check.landed("place s t;to t;road s t 7;").from(0, 0), 7);
        Check.due("no to", Check.landed("place s t;from s;road s t 7;").from(0, 0), -1);
        Check.due("to is place 0", Check.landed("place t s;to t;road s t 7;").from(1, 0), 7);
    }

    private static void rowAndRows() {
        ShutPasses x = Check.landed(TWO);
        Check.about = "promises 16, 17, 18";
        Check.due("no row: as fear", x.mean(5), 900);
        Check.due("row(0)", x.row(0), 1);
        Check.due("try the first", x.mean(5), 650);
        Check.due("in it", x.row(0), -1);
        Check.due("no such road", x.row(2), -1);
        Check.due("no such road", x.row(-1), -1);
        Check.due("row(1)", x.row(1), 2);
        Check.due("in a row", x.mean(5), 390);
        Check.due("rows leave the row", x.rows(0), 330);
        Check.due("the row is as it was", x.mean(5), 390);
        Check.due("clear", x.clear(), 2);
        Check.due("clear", x.clear(), 0);
        Check.due("fear again", x.mean(5), 900);
        x.row(1);
        Check.due("row(0)", x.row(0), 2);
        Check.due("the other way round", x.mean(5), 330);
        long[] rows = {330, 1, 0, -1, -1, -1, -1, -1};
        for (int what = 0; what < rows.length; what++) {
            Check.due("rows(" + what + ")", x.rows(what), rows[what]);
        }
        Check.due("rows(-1)", x.rows(-1), -1);
        ShutPasses even = Check.landed(TWO.replace("doubt 2", "doubt 5"));
        Check.due("of two the first by numbers", even.rows(1), 0);
        Check.due("then the other", even.rows(2), 1);
        ShutPasses never = Check.landed(NO_WAY);
        Check.due("never", never.rows(0), -2);
        Check.due("the first road", never.rows(1), 0);
        Check.due("none further", never.rows(2), -1);
        ShutPasses six = Check.landed("place s t a b c d e;from s;to t;road s t 4;road s a 1 doubt 5;road s b 1 doubt 5;"
                + "road s c 1 doubt 5;road s d 1 doubt 5;road s e 1 doubt 5;road a b 1 doubt 5;");
        Check.due("all are as good", six.rows(0), 4000000);
        for (int i = 1; i <= 6; i++) {
            Check.due("the first row by numbers", six.rows(i), i - 1);
        }
        ShutPasses sure = Check.landed("place s t;from s;to t;road s t 4;");
        Check.due("the empty row", sure.rows(0), 4);
        Check.due("no road", sure.rows(1), -1);
        Check.due("no from", Check.landed("place s;to s;").rows(0), -1);
        Check.due("no from", Check.landed("place s;to s;").rows(1), -1);
        Check.due("he is there", Check.landed(THERE).rows(0), 0);
    }

    private static void rules() {
        ShutPasses x = Check.landed(STRAIGHT);
        Check.about = "promise 19";
        Check.due("straight if it is shut", x.rule(0, 0, 2, 2), 0);
        Check.due("else to a", x.rule(0, -1, 77, 1), 1);
        Check.due("on if he may", x.rule(1, -1, -5, 2), 2);
        Check.due("else back", x.rule(1, 0, 2, 0), 3);
        Check.due("open", x.hours(6, 0), 5);
        Check.due("shut", x.hours(6, 1), 14);
        Check.due("mean", x.mean(6), 95);
        Check.due("worst", x.worst(6), 14);
        Check.due("no road", x.rule(0, 1, 0, 1), -1);
        Check.due("no road", x.rule(0, -2, 0, 1), -1);
        Check.due("no known", x.rule(0, 0, 3, 1), -1);
        Check.due("no known", x.rule(0, 0, -1, 1), -1);
        Check.due("no place", x.rule(3, 0, 0, 1), -1);
        Check.due("no place", x.rule(-1, 0, 0, 1), -1);
        Check.due("no place", x.rule(0, 0, 0, 3), -1);
        Check.due("no place", x.rule(0, 0, 0, -1), -1);
        Check.due("none came", x.count(7), 4);
        for (int i = 4; i < 30; i++) {
            Check.due("rule", x.rule(2, 0, 1, 0), i);
        }
        Check.due("there are 30", x.rule(0, -1, 0, 1), -1);
        Check.due("30", x.count(7), 30);
        ShutPasses not = Check.landed(STRAIGHT);
        not.rule(0, 0, 0, 1);
        Check.due("known not, go to a", not.next(6, 0, 0), 1);
        Check.due("known: it holds no more", not.next(6, 0, 1), -2);
        ShutPasses first = Check.landed(STRAIGHT);
        first.rule(0, -1, 0, 2);
        first.rule(0, -1, 0, 1);
        Check.due("the first that holds", first.next(6, 0, 0), 2);
    }

    private static void rings() {
        ShutPasses x = Check.landed(TWO);
        Check.about = "promise 20";
        Check.due("he stays", x.ring(0), 0);
        Check.due("that place alone", x.ring(1), -1);
        x.rule(0, 0, 0, 1);
        x.rule(1, 0, 1, 3);
        x.rule(1, -1, 0, 0);
        x.rule(0, -1, 0, 2);
        x.rule(2, -1, 0, 0);
        // world 1: s, a (the first is shut), s, b (the second is open), s, b: back with the same known
        int[] ring = {2, 0, -1};
        for (int k = 0; k < 3; k++) {
            Check.due("ring(" + k + ")", x.ring(k), ring[k]);
        }
        Check.due("ring(-1)", x.ring(-1), -1);
        Check.due("ring(2147483647)", x.ring(2147483647), -1);
        Check.due("ends in world 0", x.hours(6, 0), 2);
        Check.due("goes round in world 1", x.hours(6, 1), -2);
        ShutPasses ends = Check.landed(TWO);
        ends.rule(0, -1, 0, 3);
        Check.due("no ring", ends.ring(0), -1);
        Check.due("he is there", Check.landed(THERE).ring(0), -1);
        Check.due("no from", Check.landed("place s;to s;").ring(0), -1);
        // in world 1, of no weight, he would go round from b to s; in world 3 he stays at b
        ShutPasses second = Check.landed(TOGETHER);
        second.rule(0, 0, 2, 2);
        second.rule(0, -1, 0, 1);
        second.rule(1, 0, 1, 3);
        second.rule(1, 0, 2, 0);
        second.rule(2, 1, 1, 0);
        Check.due("in the first world of weight", second.ring(0), 2);
        Check.due("alone", second.ring(1), -1);
    }

    private static void bells() {
        ShutPasses x = Check.landed(INN);
        Check.about = "promise 21";
        for (int t = 0; t <= 48; t++) {
            Check.due("bell(" + t + ")", x.bell(t), t < 6 ? 0 : t < 12 ? 5 : 10);
        }
        Check.due("bell(49)", x.bell(49), -1);
        Check.due("bell(-1)", x.bell(-1), -1);
        Check.due("he is there", Check.landed(THERE).bell(0), 10);
        Check.due("no from", Check.landed("place s;to s;").bell(0), -1);
        // in eight hours he may try either road, or, told at the inn for two hours, the one that is open
        ShutPasses word = Check.landed("place s a b t;from s;to t;road s a 5;road a t 1 doubt 5;road s b 5;"
                + "road b t 1 doubt 2;inn s a t 2;");
        Check.due("one may be tried", word.bell(6), 80);
        Check.due("word helps", word.bell(8), 90);
    }

    private static void worthAndScout() {
        ShutPasses x = Check.landed(INN);
        Check.about = "promises 22, 23";
        Check.due("worth(0)", x.worth(0), 10);
        Check.due("worth(1)", x.worth(1), -1);
        Check.due("worth(-1)", x.worth(-1), -1);
        Check.due("for nothing", x.scout(0, 0), 1);
        Check.due("for nothing", x.scout(0, 1), 90);
        Check.due("for an hour: the fewest roads", x.scout(1, 0), 0);
        Check.due("for an hour", x.scout(1, 1), 100);
        Check.due("for 99", x.scout(99, 1), 100);
        Check.due("for 100", x.scout(100, 1), -1);
        Check.due("for -1", x.scout(-1, 1), -1);
        Check.due("no such what", x.scout(1, 2), -1);
        Check.due("no such what", x.scout(1, -1), -1);
        ShutPasses odd = Check.landed(TOGETHER);
        Check.due("worth of one", odd.worth(0), 10);
        Check.due("worth of the other", odd.worth(1), 10);
        Check.due("the least bits", odd.scout(0, 0), 1);
        Check.due("sum", odd.scout(0, 1), 55);
        // a third road that leads nowhere: both others are worth knowing, and it is not
        ShutPasses both = Check.landed(TWO.replace("place s a b t", "place s a b t n") + "road t n 1 doubt 5;");
        Check.due("two roads", both.scout(0, 0), 3);
        Check.due("two roads' sum", both.scout(0, 1), 2700);
        // 90 hours straight; the first two if both are open save 60, the third saves 16: for seven hours each as good
        ShutPasses fewest = Check.landed("place s x y b t;from s;to t;road s t 90;road s x 18;road x y 6 doubt 5;"
                + "road y t 6 doubt 5;road s b 73;road b t 1 doubt 5;");
        Check.due("the fewest roads", fewest.scout(7, 0), 4);
        Check.due("sum", fewest.scout(7, 1), 89000);
        Check.due("for six hours two, as good as three", fewest.scout(6, 0), 3);
        Check.due("sum", fewest.scout(6, 1), 87000);
        ShutPasses never = Check.landed(NO_WAY);
        Check.due("never", never.worth(0), -2);
        Check.due("never", never.scout(0, 0), -2);
        Check.due("never", never.scout(0, 1), -2);
        Check.due("none first", never.scout(0, 2), -1);
        Check.due("none first", never.worth(1), -1);
        Check.due("he is there", Check.landed(THERE).scout(7, 1), 0);
        Check.due("no from", Check.landed(ENDLESS).worth(0), -1);
        Check.due("no from", Check.landed(ENDLESS).scout(0, 0), -1);
    }

    private static void keep() {
        Check.about = "promise 24";
        Check.due("kept open", Check.landed(INN).keep(0), 60);
        Check.due("no way else", Check.landed(NO_WAY).keep(0), 50);
        ShutPasses odd = Check.landed(TOGETHER);
        Check.due("the first", odd.keep(0), 20);
        Check.due("the second", odd.keep(1), 20);
        Check.due("no such road", odd.keep(2), -1);
        Check.due("no such road", odd.keep(-1), -1);
        Check.due("the odds stay", odd.weight(3), 5);
        Check.due("the mean stays", odd.mean(0), 65);
        ShutPasses two = Check.landed("place s a t;from s;to t;road s a 1 doubt 5;road a t 1 doubt 5;");
        Check.due("never all the same", two.keep(0), -2);
        Check.due("he is there", Check.landed(THERE).keep(0), 0);
        Check.due("no from", Check.landed(ENDLESS).keep(0), -1);
    }

    private static void edge() {
        Check.about = "promise 25";
        Check.due("straight by 6", Check.landed(STRAIGHT).edge(0), 6);
        Check.due("buys up to 8", Check.landed(INN).edge(0), 9);
        Check.due("by ten", Check.landed(STRAIGHT.replace("s t 10", "s t 41")).edge(0), 10);
        Check.due("by nine", Check.landed(STRAIGHT.replace("s t 10", "s t 40")).edge(0), 9);
        Check.due("it is straight already", Check.landed(STRAIGHT.replace("doubt 5", "doubt 9")).edge(0), 11);
        Check.due("what is seen turns nothing", Check.landed(STRAIGHT + "sees s a t;").edge(0), 11);
        Check.due("he is there", Check.landed(THERE).edge(0), 11);
        // by ten it is never open: what was done on an older land by that known does not count
        ShutPasses anew = Check.landed(STRAIGHT.replace("t 3", "t 30") + "sees s a t;");
        Check.due("it is straight", anew.edge(0), 11);
        Check.land(anew, STRAIGHT.replace("doubt 5", "doubt 9") + "sees s a t;");
        Check.due("not likely both ways", anew.edge(0), 11);
        Check.due("no doubt", Check.landed(TOGETHER).edge(0), -1);
        Check.due("no such road", Check.landed(STRAIGHT).edge(1), -1);
        Check.due("no such road", Check.landed(STRAIGHT).edge(-1), -1);
        Check.due("no from", Check.landed(ENDLESS).edge(0), -1);
    }

    private static void walk() {
        ShutPasses x = Check.landed(INN);
        Check.about = "promises 26 to 30";
        Check.due("no walk", x.go(1), -1);
        Check.due("no walk", x.buy(0), -1);
        Check.due("no walk", x.back(), -1);
        Check.due("no walk", x.walk(0), -1);
        Check.due("begin(-1)", x.begin(-1), false);
        Check.due("no walk", x.walk(0), -1);
        // seed 1 gives 8 of ten: open
        Check.due("begin(1)", x.begin(1), true);
        Check.due("world", x.walk(4), 0);
        Check.due("no road", x.go(3), -1);
        Check.due("where he is", x.go(0), -1);
        Check.due("no place", x.go(4), -1);
        Check.due("no place", x.go(-1), -1);
        Check.due("no word", x.buy(1), -1);
        Check.due("no word", x.buy(-1), -1);
        Check.due("nothing happened", x.walk(3), 0);
        Check.due("buy", x.buy(0), 1);
        Check.due("known", x.walk(2), 1);
        Check.due("hours", x.walk(1), 1);
        Check.due("it is known", x.buy(0), -1);
        Check.due("go(1)", x.go(1), 6);
        Check.due("not sold here", x.buy(0), -1);
        Check.due("go(3)", x.go(3), 7);
        Check.due("there", x.walk(5), 1);
        Check.due("at to", x.go(1), -1);
        Check.due("begin(-1) leaves the walk", x.begin(-1), false);
        Check.due("steps", x.walk(3), 3);
        Check.due("back", x.back(), 2);
        Check.due("place", x.walk(0), 1);
        Check.due("hours", x.walk(1), 6);
        Check.due("not there", x.walk(5), 0);
        Check.due("back", x.back(), 1);
        Check.due("back", x.back(), 0);
        Check.due("no longer known", x.walk(2), 0);
        Check.due("no hours", x.walk(1), 0);
        Check.due("none", x.back(), -1);
        Check.due("walk(6)", x.walk(6), -1);
        Check.due("walk(-1)", x.walk(-1), -1);
        for (int i = 1; i <= 100; i++) {
            Check.due("go", x.go(i % 2), 5 * i);
        }
        Check.due("100 steps", x.go(1), -1);
        Check.due("100 steps", x.walk(3), 100);
        Check.due("back", x.back(), 99);
        Check.due("again", x.go(0), 500);
        Check.due("a new walk", x.begin(0), true);
        Check.due("no steps", x.walk(3), 0);
        // seed 0 gives 0 of ten: shut
        Check.due("world", x.walk(4), 1);
        Check.due("buy", x.buy(0), 2);
        Check.due("go(1)", x.go(1), 6);
        Check.due("it is shut", x.go(3), -1);
        Check.due("no from", Check.landed("place s;to s;").begin(0), false);
        Check.due("no to", Check.landed("place s;from s;").begin(0), false);
    }

    private static void walkByDraw() {
        Check.about = "promise 26";
        // seed 1 gives 8, 8, 3, 5, 1, 7 of ten: by numbers the doubts, then the causes
        ShutPasses x = Check.landed("place s a b c d t;cause r 5;cause q 2;from s;to t;road s a 1 doubt 9;"
                + "road s b 1 by q wait 4;road s c 1 doubt 8 by r;road s d 1 by r;road s t 1 doubt 4;sees s a s;");
        Check.due("begin(1)", x.begin(1), true);
        Check.due("the first, the last and those by q", x.walk(4), 1 + 2 + 16);
        Check.due("seen where he sets out", x.walk(2), 2 + 3 * 2 + 9 + 27 + 81 * 2);
        Check.due("open", x.go(3), 1);
        Check.due("back", x.go(0), 2);
        Check.due("shut with wait", x.go(2), 7);
        Check.due("back again", x.go(0), 12);
        Check.due("shut", x.go(1), -1);
        Check.due("begin(2147483647)", x.begin(2147483647), true);
        // the greatest seed, its numbers reckoned without bits
        long number = 2147483647L;
        int[] digits = new int[5];
        for (int i = 0; i < 5; i++) {
            number = (number * 1103515245L + 12345L) % 2147483648L;
            digits[i] = (int) (number / 65536 % 10);
        }
        int world = (digits[0] < 9 ? 1 : 0) + (digits[1] < 8 ? 4 : 0) + (digits[2] < 4 ? 16 : 0);
        world |= (digits[3] < 5 ? 4 + 8 : 0) | (digits[4] < 2 ? 2 : 0);
        Check.due("world", x.walk(4), world);
    }

    private static void counts() {
        ShutPasses x = Check.landed("place s t u;cause r 1;cause q 1;road s t 1;road s u 1 doubt 1;road t u 1 by r;"
                + "inn s s u 1;inn s s u 1;inn s s u 1;inn s t u 2;from u;to t;");
        x.rule(0, -1, 0, 1);
        x.row(1);
        x.row(0);
        Check.about = "promise 31";
        int[] due = {3, 3, 2, 2, 4, 2, 1, 1, 2, -1};
        for (int what = 0; what < due.length; what++) {
            Check.due("count(" + what + ")", x.count(what), due[what]);
        }
        Check.due("count(-1)", x.count(-1), -1);
        Check.due("NONE", ShutPasses.NONE, -1);
        Check.due("NEVER", ShutPasses.NEVER, -2);
    }
}
