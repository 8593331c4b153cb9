import java.util.ArrayList;
import java.util.HashMap;
import java.util.List;
import java.util.Map;
import java.util.Random;
import java.util.regex.Matcher;
import java.util.regex.Pattern;

/** Compares FAULTS and lands of many texts, drawn and spoilt by fixed seeds, with a parser of patterns. */
public final class FaultsTest {
    private static final String LANGUAGE = " place cause road doubt by wait sees inn from to ";
    private static final Pattern TOKEN = Pattern.compile("[a-z]+|[0-9]+|[^\\n ]");

    /** How a text is at fault. */
    private static final class Fault extends Exception {
        private static final long serialVersionUID = 1;
        final int kind;
        final int place;

        Fault(int kind, int place) {
            super(null, null, false, false);
            this.kind = kind;
            this.place = place;
        }
    }

    /** A text taken apart by patterns; each line's word tells what must follow. */
    private static final class Text {
        final List<String> words = new ArrayList<>();
        final List<Integer> spots = new ArrayList<>();
        final Map<String, Integer> places = new HashMap<>();
        final Map<String, Integer> causes = new HashMap<>();
        final Map<String, int[]> roads = new HashMap<>();
        final List<int[]> table = new ArrayList<>();
        int doubtful;
        int sees;
        int inns;
        int start = -1;
        int goal = -1;
        int lines;
        int at;

        Text(String text) {
            Matcher matcher = TOKEN.matcher(text);
            while (matcher.find()) {
                words.add(matcher.group());
                spots.add(matcher.start());
            }
            words.add("");
            spots.add(text.length());
        }

        String word() {
            return words.get(at);
        }

        Fault fault(int kind) {
            return new Fault(kind, spots.get(at));
        }

        String name() throws Fault {
            if (!word().matches("[a-z]{1,6}") || LANGUAGE.contains(" " + word() + " ")) {
                throw fault(1);
            }
            return word();
        }

        void demand(boolean holds, int kind) throws Fault {
            if (!holds) {
                throw fault(kind);
            }
        }

        int number(int most) throws Fault {
            demand(word().matches("[0-9]+"), 1);
            demand(word().matches("0*[0-9]{1,2}"), 2);
            int number = Integer.parseInt(word().replaceFirst("^0+(?=.)", ""));
            demand(number >= 1 && number <= most, 2);
            at++;
            return number;
        }

        int told(Map<String, Integer> names) throws Fault {
            demand(names.containsKey(name()), 4);
            return names.get(words.get(at++));
        }

        static String pair(int a, int b) {
            return Math.min(a, b) + "-" + Math.max(a, b);
        }

        void read() throws Fault {
            while (!word().isEmpty()) {
                line();
                demand(word().equals(";"), 1);
                at++;
                lines++;
            }
        }

        void line() throws Fault {
            String kind = word();
            demand(kind.matches("place|cause|road|sees|inn|from|to"), 1);
            demand(!kind.equals("cause") || causes.size() < 2, 2);
            demand(!kind.equals("road") || table.size() < 24, 2);
            demand(!kind.equals("sees") || sees < 8, 2);
            demand(!kind.equals("inn") || inns < 6, 2);
            demand(!kind.equals("from") || start < 0, 3);
            demand(!kind.equals("to") || goal < 0, 3);
            at++;
            switch (kind) {
                case "place": placeLine(); break;
                case "cause":
                    demand(!causes.containsKey(name()), 3);
                    String cause = words.get(at++);
                    number(9);
                    causes.put(cause, causes.size());
                    break;
                case "road": roadLine(); break;
                case "sees": told(places); doubtfulRoad(); sees++; break;
                case "inn": told(places); doubtfulRoad(); number(99); inns++; break;
                case "from": start = told(places); break;
                default: goal = told(places); break;
            }
        }

        void placeLine() throws Fault {
            do {
                name();
                demand(places.size() < 10, 2);
                demand(!places.containsKey(name()), 3);
                places.put(word(), places.size());
                at++;
            } while (word().matches("[a-z].*") && !word().equals(";"));
        }

        void roadLine() throws Fault {
            int a = told(places);
            int b = told(places);
            at--;
            demand(a != b && !roads.containsKey(pair(a, b)), 3);
            at++;
            int[] road = {a, b, number(99), 0, -1, 0, -1};
            if (word().equals("doubt")) {
                demand(doubtful < 6, 2);
                at++;
                road[3] = number(9);
            }
            if (word().equals("by")) {
                demand(doubtful < 6, 2);
                at++;
                road[4] = told(causes);
            }
            if (road[3] > 0 || road[4] >= 0) {
                road[6] = doubtful++;
                if (word().equals("wait")) {
                    at++;
                    road[5] = number(99);
                }
            }
            roads.put(pair(a, b), road);
            table.add(road);
        }

        void doubtfulRoad() throws Fault {
            int a = told(places);
            int b = told(places);
            at--;
            demand(roads.containsKey(pair(a, b)) && roads.get(pair(a, b))[6] >= 0, 4);
            at++;
        }
    }

    private final Random random;
    private ShutPasses x = new ShutPasses();
    private Text stands = new Text("");

    private FaultsTest(long seed) {
        random = new Random(seed);
    }

    public static void main(String[] args) {
        int faults = 0;
        for (int seed = 0; seed < 4000; seed++) {
            FaultsTest test = new FaultsTest(seed);
            for (int i = 0; i < 10; i++) {
                faults |= 1 << test.compare(test.draw());
            }
        }
        Check.due("all faults came", faults, 31);
        Check.end("FaultsTest");
    }

    private int compare(String text) {
        Check.about = text;
        Text told = new Text(text);
        int kind = 0;
        int place = -1;
        try {
            told.read();
            stands = told;
        } catch (Fault fault) {
            kind = fault.kind;
            place = fault.place;
        }
        Check.due("land", Check.land(x, text), kind == 0 ? told.lines : -1);
        Check.due("fault(0)", x.fault(0), kind);
        Check.due("fault(1)", x.fault(1), place);
        int[] counts = {stands.places.size(), stands.table.size(), stands.doubtful, stands.causes.size(), stands.inns,
            stands.start, stands.goal};
        for (int what = 0; what < counts.length; what++) {
            Check.due("count(" + what + ")", x.count(what), counts[what]);
        }
        for (int road = 0; road < stands.table.size(); road++) {
            for (int what = 0; what < 7; what++) {
                Check.due("look(" + road + ", " + what + ")", x.look(road, what), stands.table.get(road)[what]);
            }
        }
        return kind;
    }

    private String draw() {
        StringBuilder text = new StringBuilder();
        int most = random.nextInt(4) == 0 ? 45 : 12;
        int lines = random.nextInt(most);
        for (int i = 0; i < lines; i++) {
            text.append(i < 2 && random.nextInt(8) > 0 ? drawPlaces() : drawLine()).append(random.nextInt(9) == 0
                    ? " \n;" : ";");
        }
        int spoilt = random.nextInt(3) == 0 ? 1 : 0;
        for (int i = 0; i < spoilt && text.length() > 0; i++) {
            spoil(text);
        }
        text.append(random.nextInt(6) == 0 ? "  " : "");
        return text.substring(0, Math.min(text.length(), 600));
    }

    private String pick(String... words) {
        return words[random.nextInt(words.length)];
    }

    private String place() {
        return random.nextInt(40) == 0 ? pick("zz", "road", "abcdefg", "7") : pick("a", "b", "c", "d", "e", "f", "gg");
    }

    private String number(int most) {
        return random.nextInt(60) == 0 ? pick("0", "100", "10", "007", "99999999999999999999", "x", "4294967297")
                : "" + (1 + random.nextInt(most));
    }

    private String drawPlaces() {
        StringBuilder line = new StringBuilder("place");
        for (String name : new String[] {"a", "b", "c", "d", "e", "f", "gg"}) {
            line.append(random.nextInt(10) > 0 ? " " + name : "");
        }
        return line + (random.nextInt(15) == 0 ? " h i jjj" : "") + (random.nextInt(30) == 0 ? " kkkkkk" : "");
    }

    private String drawLine() {
        switch (random.nextInt(20)) {
            case 0: return drawPlaces();
            case 1: case 2: return "cause " + pick("a", "r", "s", "t") + " " + number(9);
            case 3: case 4: return "from " + place();
            case 5: case 6: return "to " + place();
            case 7: case 8: case 9: return "sees " + place() + " " + place() + " " + place();
            case 10: case 11: return "inn " + place() + " " + place() + " " + place() + " " + number(99);
            default: return "road " + place() + " " + place() + " " + number(99) + drawDoubts();
        }
    }

    private String drawDoubts() {
        String doubts = random.nextInt(3) > 0 ? "" : " doubt " + number(9);
        doubts += random.nextInt(6) > 0 ? "" : " by " + pick("a", "r", "s", "t");
        return doubts + (random.nextInt(doubts.isEmpty() ? 30 : 2) > 0 ? "" : " wait " + number(99));
    }

    private void spoil(StringBuilder text) {
        int at = random.nextInt(text.length());
        switch (random.nextInt(4)) {
            case 0: text.deleteCharAt(at); break;
            case 1: text.setLength(at); break;
            case 2: text.insert(at, pick(" ", ";", "7", "q", "A", "\t", "\n", "\u00e9", "\u00ff", "\u0000", "`", "{", "/",
                    ":", " by ", " wait 3", " doubt 2", " to ", "place ")); break;
            default: text.setCharAt(at, pick("a", "9", " ", ";", "0", "!").charAt(0)); break;
        }
    }
}
