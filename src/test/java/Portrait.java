/** Answers of all calls that ask and change nothing, put in a row, so that two objects, or one at two times, compare. */
final class Portrait {
    private final StringBuilder told = new StringBuilder();

    private Portrait() { }

    /** Some 200 calls: two portraits of one object and its land stay below 512. */
    static String of(ShutPasses x) {
        Portrait portrait = new Portrait();
        portrait.tellLand(x);
        portrait.tellWorlds(x);
        for (int plan = 0; plan <= 6; plan++) {
            portrait.tellPlan(x, plan);
        }
        portrait.tellAdvice(x);
        return portrait.told.toString();
    }

    private void tell(String call, long answer) {
        told.append(call).append('=').append(answer).append(' ');
    }

    private void tellLand(ShutPasses x) {
        tell("fault0", x.fault(0));
        tell("fault1", x.fault(1));
        for (int what = 0; what <= 8; what++) {
            tell("count" + what, x.count(what));
        }
        int last = x.count(1) - 1;
        for (int what = 0; what <= 6; what++) {
            tell("look" + what, last < 0 ? Check.thrown(x, 0, what) : x.look(last, what));
        }
        for (int what = 0; what <= 5; what++) {
            tell("walk" + what, x.walk(what));
        }
    }

    private void tellWorlds(ShutPasses x) {
        for (int i = 0; i < 5; i++) {
            tell("weight" + i, x.weight(i));
            tell("likely" + i, x.likely(i));
            tell("knowing" + i, x.knowing(i));
        }
        for (int known = 0; known < 3; known++) {
            tell("shut" + known, x.shut(known, 0));
            tell("from0-" + known, x.from(0, known));
            tell("from1-" + known, x.from(1, known));
        }
    }

    private void tellPlan(ShutPasses x, int plan) {
        tell("mean" + plan, x.mean(plan));
        tell("worst" + plan, x.worst(plan));
        tell("times0-" + plan, x.times(plan, 0));
        tell("times1-" + plan, x.times(plan, 1));
        for (int i = 0; i < 4; i++) {
            tell("hours" + plan + "-" + i, x.hours(plan, i));
            tell("next" + plan + "-0-" + i, x.next(plan, 0, i));
            tell("next" + plan + "-1-" + i, x.next(plan, 1, i));
        }
    }

    private void tellAdvice(ShutPasses x) {
        for (int what = 0; what <= 6; what++) {
            tell("rows" + what, x.rows(what));
        }
        for (int i = 0; i < 3; i++) {
            tell("ring" + i, x.ring(i));
            tell("bell" + i, x.bell(i * 24));
            tell("worth" + i, x.worth(i));
            tell("keep" + i, x.keep(i));
            tell("edge" + i, x.edge(i));
            tell("scout0-" + i, x.scout(i, 0));
            tell("scout1-" + i, x.scout(i, 1));
        }
    }
}
