import java.lang.reflect.Constructor;
import java.lang.reflect.Field;
import java.lang.reflect.Method;
import java.lang.reflect.Modifier;
import java.util.Arrays;
import java.util.TreeSet;

/** 'The public face' as the document prints it, promise 1 (each call of a new object), and 512 calls of one object. */
public final class FaceTest {
    private static final String[] FACE = {
        "int feed(int,int,int,int,int)", "int land(int)", "int fault(int)", "int look(int,int)", "long weight(int)",
        "long likely(int)", "long shut(int,int)", "int knowing(int)", "long mean(int)", "int worst(int)",
        "int hours(int,int)", "int times(int,int)", "int next(int,int,int)", "long from(int,int)", "int row(int)",
        "int clear()", "long rows(int)", "int rule(int,int,int,int)", "int ring(int)", "long bell(int)",
        "long worth(int)", "long scout(int,int)", "long keep(int)", "int edge(int)", "boolean begin(int)", "int go(int)",
        "int buy(int)", "int back()", "int walk(int)", "int count(int)"};

    public static void main(String[] args) throws IllegalAccessException {
        theClass();
        theMethods();
        theConstants();
        aNewObject();
        anEmptyLand();
        manyCalls();
        Check.end("FaceTest");
    }

    private static void theClass() {
        Check.about = "the class";
        int is = ShutPasses.class.getModifiers();
        Check.due("public", Modifier.isPublic(is), true);
        Check.due("final", Modifier.isFinal(is), true);
        Constructor<?>[] constructors = ShutPasses.class.getDeclaredConstructors();
        Check.due("constructors", constructors.length, 1);
        Check.due("of no arguments", constructors[0].getParameterCount(), 0);
        Check.due("public", Modifier.isPublic(constructors[0].getModifiers()), true);
        for (Class<?> inside : ShutPasses.class.getDeclaredClasses()) {
            int how = inside.getModifiers();
            Check.due(inside + " stays inside", Modifier.isPublic(how) || Modifier.isProtected(how), false);
        }
    }

    private static String told(Method method) {
        StringBuilder text = new StringBuilder(method.getReturnType() + " " + method.getName() + "(");
        for (Class<?> type : method.getParameterTypes()) {
            text.append(text.charAt(text.length() - 1) == '(' ? "" : ",").append(type);
        }
        return text.append(')').toString();
    }

    private static void theMethods() {
        Check.about = "the methods";
        TreeSet<String> missing = new TreeSet<>(Arrays.asList(FACE));
        for (Method method : ShutPasses.class.getDeclaredMethods()) {
            if (Modifier.isPrivate(method.getModifiers()) || method.isSynthetic()) {
                continue;
            }
            Check.due(told(method) + " is of the face", missing.remove(told(method)), true);
            Check.due("public", Modifier.isPublic(method.getModifiers()), true);
            Check.due("of an object", Modifier.isStatic(method.getModifiers()), false);
            int throwing = method.getExceptionTypes().length;
            Check.due(method.getName() + " says what it throws", throwing, method.getName().equals("look") ? 2 : 0);
        }
        Check.due("missing " + missing, missing.size(), 0);
    }

    private static void theConstants() throws IllegalAccessException {
        Check.about = "the constants";
        int seen = 0;
        for (Field field : ShutPasses.class.getDeclaredFields()) {
            int how = field.getModifiers();
            if (Modifier.isPrivate(how) || field.isSynthetic()) {
                continue;
            }
            seen++;
            boolean none = field.getName().equals("NONE") && field.getType() == int.class;
            boolean never = field.getName().equals("NEVER") && field.getType() == long.class;
            Check.due(field + " is of the face", none || never, true);
            Check.due("public static final",
                    Modifier.isPublic(how) && Modifier.isStatic(how) && Modifier.isFinal(how), true);
            Check.due(field.getName(), field.getLong(null), none ? -1 : -2);
        }
        Check.due("two", seen, 2);
    }

    /** Calls that need a road, a place or a way from from to to: there are none. */
    private static void nothingToAsk(ShutPasses x) {
        for (int i = 0; i < 2; i++) {
            Check.due("weight", x.weight(i), i == 0 ? 1 : -1);
            Check.due("likely", x.likely(i), i == 0 ? 1 : -1);
            Check.due("shut", x.shut(0, i), -1);
            Check.due("knowing", x.knowing(i), -1);
            Check.due("from", x.from(i, 0), -1);
            Check.due("row", x.row(i), -1);
            Check.due("clear", x.clear(), 0);
            Check.due("rule", x.rule(0, -1, 0, i), -1);
            Check.due("rule by a road", x.rule(0, 0, 0, i), -1);
            Check.due("ring", x.ring(i), -1);
            Check.due("bell", x.bell(48 * i), -1);
            Check.due("worth", x.worth(i), -1);
            Check.due("scout", x.scout(0, i), -1);
            Check.due("keep", x.keep(i), -1);
            Check.due("edge", x.edge(i), -1);
            Check.due("look throws", Check.thrown(x, i, 0), 1);
            Check.due("look throws", Check.thrown(x, i, 7), 1);
            Check.due("begin", x.begin(i), false);
            Check.due("go", x.go(i), -1);
            Check.due("buy", x.buy(i), -1);
            Check.due("back", x.back(), -1);
        }
        for (int i = 0; i <= 6; i++) {
            Check.due("mean", x.mean(i), -1);
            Check.due("worst", x.worst(i), -1);
            Check.due("hours", x.hours(i, 0), -1);
            Check.due("times", x.times(i, 0), -1);
            Check.due("times", x.times(i, 1), -1);
            Check.due("next", x.next(i, 0, 0), -1);
            Check.due("rows", x.rows(i), -1);
            Check.due("walk", x.walk(i), -1);
        }
        for (int what = 0; what <= 9; what++) {
            Check.due("count(" + what + ")", x.count(what), what == 5 || what == 6 || what == 9 ? -1 : 0);
        }
    }

    private static void aNewObject() {
        Check.about = "promise 1";
        ShutPasses x = new ShutPasses();
        nothingToAsk(x);
        Check.due("no fault yet", x.fault(0), 0);
        Check.due("and no place of it", x.fault(1), -1);
        Check.due("the tape is empty", x.land(1), -2);
        Check.due("the first feed finds it empty", x.feed(0, 0, 0, 0, 0), 20);
        Check.due("another object has a tape of its own", new ShutPasses().feed(0, 0, 0, 0, 0), 20);
    }

    /** A land that was told and is empty again is as none. */
    private static void anEmptyLand() {
        Check.about = "an empty land";
        ShutPasses x = Check.landed("place s t;cause r 5;from s;to t;road s t 5 doubt 5 by r;inn s s t 1;");
        Check.due("land(0)", x.land(0), 0);
        nothingToAsk(x);
    }

    /** Feeds, land and questions: the 512th answer is as due as the first. */
    private static void manyCalls() {
        Check.about = "512 calls";
        String text = "place s t;from s;to t;road s t 5 doubt 5 wait 2;";
        ShutPasses x = Check.landed(text);
        int calls = (text.length() + 19) / 20 + 1;
        for (; calls < 510; calls += 2) {
            Check.due("begin(0)", x.begin(0), true);
            Check.due("go(1)", x.go(1), 7);
        }
        for (; calls < 512; calls++) {
            Check.due("mean(0)", x.mean(0), 60);
        }
    }
}
