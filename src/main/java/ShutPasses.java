import java.util.NoSuchElementException;

/** A carter's land of roads that may be shut: its text, its odds, the plans over it, and walks through it. */
public final class ShutPasses {
    public static final int NONE = -1;
    public static final long NEVER = -2L;

    private static final int STAY = -2;
    private static final int WORD = 100;
    private static final int MOST_BYTES = 600;
    private static final int MOST_PLACES = 10;
    private static final int MOST_CAUSES = 2;
    private static final int MOST_ROADS = 24;
    private static final int MOST_DOUBTFUL = 6;
    private static final int MOST_SEES = 8;
    private static final int MOST_WORDS = 6;
    private static final int MOST_WORLDS = 64;
    private static final int MOST_KNOWNS = 729;
    private static final int MOST_STATES = MOST_KNOWNS * MOST_PLACES;
    private static final int LAST_BELL = 48;

    private static final int BEST = 0;
    private static final int SURE = 1;
    private static final int FAIR = 2;
    private static final int HOPE = 3;
    private static final int FEAR = 4;
    private static final int TRY = 5;
    private static final int BY_HAND = 6;

    private static final int[] THREES = {1, 3, 9, 27, 81, 243, 729};

    private final byte[] tape = new byte[MOST_BYTES];
    private int taped;
    private int faultKind;
    private int faultPlace = NONE;
    private Country country = new Country();
    private Country draft = new Country();
    private final Reader reader = new Reader(draft);
    private final Codes codes = new Codes();
    private final Hand hand = new Hand();
    private final Plans plans = new Plans(codes, hand, country);
    private final Advice advice = new Advice(codes, plans, country);
    private final Bells bells = new Bells(codes, country);
    private final Journey journey = new Journey(codes);

    public ShutPasses() {
        settle();
    }

    public int feed(int a, int b, int c, int d, int e) {
        if (taped + 20 > MOST_BYTES) {
            return NONE;
        }
        tapeNumber(a);
        tapeNumber(b);
        tapeNumber(c);
        tapeNumber(d);
        tapeNumber(e);
        return taped;
    }

    public int land(int n) {
        if (n < 0 || n > taped) {
            return -2;
        }
        taped = 0;
        int lines = reader.read(tape, n, draft);
        faultKind = reader.faultKind;
        faultPlace = reader.faultPlace;
        if (lines < 0) {
            return NONE;
        }
        Country former = country;
        country = draft;
        draft = former;
        settle();
        return lines;
    }

    public int fault(int what) {
        switch (what) {
            case 0: return faultKind;
            case 1: return faultPlace;
            default: return NONE;
        }
    }

    public int look(int road, int what) throws IndexOutOfBoundsException, NoSuchElementException {
        if (road < 0 || road >= country.roads) {
            throw new IndexOutOfBoundsException("no such road");
        }
        if (what < 0 || what >= Country.ROAD_FACTS) {
            throw new NoSuchElementException("no such fact of a road");
        }
        return country.roadFact(road, what);
    }

    public long weight(int world) {
        return country.hasWorld(world) ? plans.odds.weights[world] : NONE;
    }

    public long likely(int known) {
        return country.hasKnown(known) ? plans.odds.likely[known] : NONE;
    }

    public long shut(int known, int road) {
        if (!country.hasKnown(known) || !country.hasDoubtful(road)) {
            return NONE;
        }
        switch (codes.digit(known, road)) {
            case 0: return plans.odds.likely[known + 2 * THREES[road]];
            case 1: return 0;
            default: return plans.odds.likely[known];
        }
    }

    public int knowing(int world) {
        if (!country.hasWorld(world) || !country.hasEnds()) {
            return NONE;
        }
        return plans.knowingOf(world);
    }

    public long mean(int plan) {
        if (lacksPlan(plan)) {
            return NONE;
        }
        plans.prepare(plan);
        return plans.meanOf(plan);
    }

    public int worst(int plan) {
        if (lacksPlan(plan)) {
            return NONE;
        }
        plans.prepare(plan);
        return plans.worstOf(plan);
    }

    public int hours(int plan, int world) {
        if (lacksPlan(plan) || !country.hasWorld(world) || plans.odds.weights[world] <= 0) {
            return NONE;
        }
        plans.prepare(plan);
        return plans.hoursIn(plan, world);
    }

    public int times(int plan, int what) {
        if (lacksPlan(plan) || what < 0 || what > 1) {
            return NONE;
        }
        plans.prepare(plan);
        if (!plans.gauge(plan)) {
            return STAY;
        }
        return what == 0 ? plans.timesHours : plans.timesKnowing;
    }

    public int next(int plan, int place, int known) {
        if (lacksPlan(plan) || !country.hasPlace(place) || !isLikely(known)) {
            return NONE;
        }
        if (codes.firstMissing(known, country.seenAt[place]) >= 0) {
            return NONE;
        }
        plans.prepare(plan);
        return plans.does(plan, place, known);
    }

    public long from(int place, int known) {
        if (!country.hasPlace(place) || !isLikely(known) || country.goal < 0) {
            return NONE;
        }
        plans.prepare(BEST);
        return plans.best.meanFrom(place, known);
    }

    public int row(int road) {
        if (!country.hasDoubtful(road) || plans.inRow(road)) {
            return NONE;
        }
        return plans.addToRow(road);
    }

    public int clear() {
        int had = plans.rowSize;
        plans.rowSize = 0;
        return had;
    }

    public long rows(int what) {
        if (what < 0 || what > MOST_DOUBTFUL || !country.hasEnds()) {
            return NONE;
        }
        if (what > country.doubtful) {
            return NONE;
        }
        advice.findRow();
        return what == 0 ? advice.rowMean : advice.rowOrder[what - 1];
    }

    public int rule(int place, int road, int known, int to) {
        if (!country.hasPlace(place) || !country.hasPlace(to)) {
            return NONE;
        }
        if (road != NONE && (!country.hasDoubtful(road) || known < 0 || known > 2)) {
            return NONE;
        }
        return hand.add(place, road, known, to);
    }

    public int ring(int k) {
        if (k < 0 || !country.hasEnds()) {
            return NONE;
        }
        return plans.ringPlace(k);
    }

    public long bell(int t) {
        if (t < 0 || t > LAST_BELL || !country.hasEnds()) {
            return NONE;
        }
        return bells.mostBy(t, country, plans.odds.likely);
    }

    public long worth(int road) {
        if (!country.hasDoubtful(road) || !country.hasEnds()) {
            return NONE;
        }
        plans.prepare(BEST);
        return advice.worthOf(road);
    }

    public long scout(int c, int what) {
        if (c < 0 || c > 99 || what < 0 || what > 1 || !country.hasEnds()) {
            return NONE;
        }
        plans.prepare(BEST);
        return advice.lookAhead(c, what);
    }

    public long keep(int road) {
        if (!country.hasDoubtful(road) || !country.hasEnds()) {
            return NONE;
        }
        return advice.keptOpen(road);
    }

    public int edge(int road) {
        if (!country.hasDoubtful(road) || country.doubtOf(road) == 0 || !country.hasEnds()) {
            return NONE;
        }
        plans.prepare(BEST);
        return advice.edgeOf(road);
    }

    public boolean begin(int seed) {
        if (seed < 0 || !country.hasEnds()) {
            return false;
        }
        journey.setOut(country, seed);
        return true;
    }

    public int go(int place) {
        return country.hasPlace(place) ? journey.travel(country, place) : NONE;
    }

    public int buy(int word) {
        return word >= 0 && word < country.words ? journey.hear(country, word) : NONE;
    }

    public int back() {
        return journey.undo();
    }

    public int walk(int what) {
        return journey.tell(country, what);
    }

    public int count(int what) {
        switch (what) {
            case 0: return country.places;
            case 1: return country.roads;
            case 2: return country.doubtful;
            case 3: return country.causes;
            case 4: return country.words;
            case 5: return country.start;
            case 6: return country.goal;
            case 7: return hand.size;
            case 8: return plans.rowSize;
            default: return NONE;
        }
    }

    private void tapeNumber(int number) {
        for (int shift = 24; shift >= 0 && taped < MOST_BYTES; shift -= 8) {
            tape[taped] = (byte) (number >>> shift);
            taped++;
        }
    }

    /** All that hangs on the land begins anew with it. */
    private void settle() {
        hand.size = 0;
        journey.on = false;
        bells.filled = false;
        plans.settle(country);
        advice.settle(country);
    }

    private boolean lacksPlan(int plan) {
        return plan < BEST || plan > BY_HAND || !country.hasEnds();
    }

    private boolean isLikely(int known) {
        return country.hasKnown(known) && plans.odds.likely[known] > 0;
    }

    /** The land. Roads and words lie in tables, one row each. */
    private static final class Country {
        static final int ROAD_FACTS = 7;
        static final int FIRST_END = 0;
        static final int SECOND_END = 1;
        static final int HOURS = 2;
        static final int DOUBT = 3;
        static final int CAUSE = 4;
        static final int WAIT = 5;
        static final int NUMBER = 6;

        int places;
        int causes;
        int roads;
        int doubtful;
        int sees;
        int words;
        int start;
        int goal;
        final int[] causeOdds = new int[MOST_CAUSES];
        final int[] roadTable = new int[MOST_ROADS * ROAD_FACTS];
        final int[] doubtfulRoad = new int[MOST_DOUBTFUL];
        final int[] roadBetween = new int[MOST_PLACES * MOST_PLACES];
        final int[] seenAt = new int[MOST_PLACES];
        final int[] wordPlace = new int[MOST_WORDS];
        final int[] wordRoad = new int[MOST_WORDS];
        final int[] wordHours = new int[MOST_WORDS];

        Country() {
            empty();
        }

        void empty() {
            places = 0;
            causes = 0;
            roads = 0;
            doubtful = 0;
            sees = 0;
            words = 0;
            start = NONE;
            goal = NONE;
            for (int i = 0; i < roadBetween.length; i++) {
                roadBetween[i] = NONE;
            }
            for (int i = 0; i < seenAt.length; i++) {
                seenAt[i] = 0;
            }
        }

        boolean hasPlace(int place) {
            return place >= 0 && place < places;
        }

        boolean hasDoubtful(int road) {
            return road >= 0 && road < doubtful;
        }

        boolean hasWorld(int world) {
            return world >= 0 && world < worlds();
        }

        boolean hasKnown(int known) {
            return known >= 0 && known < knowns();
        }

        boolean hasEnds() {
            return start >= 0 && goal >= 0;
        }

        int worlds() {
            return 1 << doubtful;
        }

        int knowns() {
            return THREES[doubtful];
        }

        int roadFact(int road, int what) {
            return roadTable[road * ROAD_FACTS + what];
        }

        int doubtOf(int number) {
            return roadFact(doubtfulRoad[number], DOUBT);
        }

        int causeOf(int number) {
            return roadFact(doubtfulRoad[number], CAUSE);
        }

        /** Hours to go from place to place for one to whom these are open and those shut; 0: he may not. */
        int passBetween(int a, int b, int open, int shut) {
            int road = roadBetween[a * MOST_PLACES + b];
            if (road < 0) {
                return 0;
            }
            int number = roadTable[road * ROAD_FACTS + NUMBER];
            int hours = roadTable[road * ROAD_FACTS + HOURS];
            if (number < 0 || (open >> number & 1) != 0) {
                return hours;
            }
            int wait = roadTable[road * ROAD_FACTS + WAIT];
            return (shut >> number & 1) != 0 && wait > 0 ? hours + wait : 0;
        }

        void fillPasses(int[] passes, int open, int shut) {
            for (int i = 0; i < passes.length; i++) {
                passes[i] = 0;
            }
            for (int road = 0; road < roads; road++) {
                int a = roadFact(road, FIRST_END);
                int b = roadFact(road, SECOND_END);
                int hours = passBetween(a, b, open, shut);
                passes[a * MOST_PLACES + b] = hours;
                passes[b * MOST_PLACES + a] = hours;
            }
        }

        void addRoad(int a, int b, int hours, int doubt, int cause, int wait) {
            int number = NONE;
            if (doubt > 0 || cause >= 0) {
                number = doubtful;
                doubtfulRoad[number] = roads;
                seenAt[a] |= 1 << number;
                seenAt[b] |= 1 << number;
                doubtful++;
            }
            int line = roads * ROAD_FACTS;
            roadTable[line + FIRST_END] = a;
            roadTable[line + SECOND_END] = b;
            roadTable[line + HOURS] = hours;
            roadTable[line + DOUBT] = doubt;
            roadTable[line + CAUSE] = cause;
            roadTable[line + WAIT] = wait;
            roadTable[line + NUMBER] = number;
            roadBetween[a * MOST_PLACES + b] = roads;
            roadBetween[b * MOST_PLACES + a] = roads;
            roads++;
        }

        void addWord(int place, int road, int hours) {
            wordPlace[words] = place;
            wordRoad[words] = road;
            wordHours[words] = hours;
            words++;
        }

        /** The doubtful road between two places, by its number among these; NONE. */
        int doubtfulBetween(int a, int b) {
            int road = roadBetween[a * MOST_PLACES + b];
            return road < 0 ? NONE : roadFact(road, NUMBER);
        }
    }

    /** Reads a text into a land, up to its first fault: each token is tested as it comes, the least fault first. */
    private static final class Reader {
        static final String LANGUAGE = "place cause road doubt by wait sees inn from to ";
        static final int LANGUAGE_WORDS = 10;
        static final int LONGEST_NAME = 6;
        static final int TOO_GREAT = 1000;

        static final int PLACE = 0;
        static final int CAUSE = 1;
        static final int ROAD = 2;
        static final int DOUBT = 3;
        static final int BY = 4;
        static final int WAIT = 5;
        static final int SEES = 6;
        static final int INN = 7;
        static final int FROM = 8;
        static final int TO = 9;
        static final int NAME = 10;
        static final int DIGITS = 11;
        static final int SEMICOLON = 12;
        static final int END = 13;
        static final int BAD = 14;

        static final int MISPLACED = 1;
        static final int TOO_MUCH = 2;
        static final int TOLD = 3;
        static final int UNTOLD = 4;

        private final int[] language = new int[LANGUAGE_WORDS];
        private final int[] kinds = new int[MOST_BYTES + 1];
        private final int[] tokenPlaces = new int[MOST_BYTES + 1];
        private final int[] values = new int[MOST_BYTES + 1];
        private int size;
        private final int[] placeNames = new int[MOST_PLACES];
        private final int[] causeNames = new int[MOST_CAUSES];
        private Country sketch;
        private int at;
        private int kind;
        private int value;
        int faultKind;
        int faultPlace = NONE;

        Reader(Country sketch) {
            this.sketch = sketch;
            int word = 0;
            int code = 0;
            for (int i = 0; i < LANGUAGE.length() && word < language.length; i++) {
                char sign = LANGUAGE.charAt(i);
                if (sign == ' ') {
                    language[word] = code;
                    word++;
                    code = 0;
                } else {
                    code = code * 27 + sign - 'a' + 1;
                }
            }
        }

        /** How many lines; NONE with a fault. */
        int read(byte[] text, int length, Country target) {
            cut(text, length);
            sketch = target;
            sketch.empty();
            faultKind = 0;
            faultPlace = NONE;
            moveTo(0);
            int lines = 0;
            for (int i = 0; i <= length && kind != END; i++) {
                boolean fine;
                switch (kind) {
                    case PLACE: fine = readPlaces(); break;
                    case CAUSE: fine = readCause(); break;
                    case ROAD: fine = readRoad(); break;
                    case SEES: fine = readSight(); break;
                    case INN: fine = readInn(); break;
                    case FROM: fine = readStart(); break;
                    case TO: fine = readGoal(); break;
                    default: fine = fail(MISPLACED); break;
                }
                if (fine && kind != SEMICOLON) {
                    fine = fail(MISPLACED);
                }
                if (!fine) {
                    return NONE;
                }
                moveTo(at + 1);
                lines++;
            }
            return lines;
        }

        /** Cuts the first bytes into tokens; the last one is the end, its place the length. */
        private void cut(byte[] text, int length) {
            size = 0;
            int spot = 0;
            for (int i = 0; i < length && spot < length; i++) {
                int sign = text[spot];
                if (sign == 10 || sign == 32) {
                    spot++;
                } else if (sign >= 'a' && sign <= 'z') {
                    spot = cutWord(text, length, spot);
                } else if (sign >= '0' && sign <= '9') {
                    spot = cutNumber(text, length, spot);
                } else {
                    put(sign == ';' ? SEMICOLON : BAD, spot, 0);
                    spot++;
                }
            }
            put(END, length, 0);
        }

        private int cutWord(byte[] text, int length, int start) {
            int code = 0;
            int end = start;
            for (; end < length && text[end] >= 'a' && text[end] <= 'z'; end++) {
                if (end - start < LONGEST_NAME) {
                    code = code * 27 + text[end] - 'a' + 1;
                }
            }
            int found = end - start > LONGEST_NAME ? BAD : NAME;
            for (int word = 0; word < language.length && found == NAME; word++) {
                if (language[word] == code) {
                    found = word;
                }
            }
            put(found, start, code);
            return end;
        }

        private int cutNumber(byte[] text, int length, int start) {
            int number = 0;
            int end = start;
            for (; end < length && text[end] >= '0' && text[end] <= '9'; end++) {
                if (number < TOO_GREAT) {
                    number = number * 10 + text[end] - '0';
                }
            }
            put(DIGITS, start, number);
            return end;
        }

        private void put(int tokenKind, int place, int tokenValue) {
            if (size < kinds.length) {
                kinds[size] = tokenKind;
                tokenPlaces[size] = place;
                values[size] = tokenValue;
                size++;
            }
        }

        private void moveTo(int token) {
            if (token >= 0 && token < kinds.length) {
                at = token;
                kind = kinds[at];
                value = values[at];
            }
        }

        private boolean fail(int fault) {
            faultKind = fault;
            faultPlace = tokenPlaces[at];
            return false;
        }

        private boolean readPlaces() {
            moveTo(at + 1);
            if (kind != NAME) {
                return fail(MISPLACED);
            }
            for (int i = 0; i <= MOST_PLACES && kind == NAME; i++) {
                if (sketch.places >= MOST_PLACES) {
                    return fail(TOO_MUCH);
                }
                if (numberOf(placeNames, sketch.places) >= 0) {
                    return fail(TOLD);
                }
                placeNames[sketch.places] = value;
                sketch.places++;
                moveTo(at + 1);
            }
            return true;
        }

        private boolean readCause() {
            if (sketch.causes >= MOST_CAUSES) {
                return fail(TOO_MUCH);
            }
            moveTo(at + 1);
            if (kind != NAME) {
                return fail(MISPLACED);
            }
            if (numberOf(causeNames, sketch.causes) >= 0) {
                return fail(TOLD);
            }
            causeNames[sketch.causes] = value;
            moveTo(at + 1);
            int odds = takeNumber(9);
            sketch.causeOdds[sketch.causes] = odds;
            sketch.causes++;
            return odds > 0;
        }

        private boolean readRoad() {
            if (sketch.roads >= MOST_ROADS) {
                return fail(TOO_MUCH);
            }
            moveTo(at + 1);
            int a = takePlace();
            if (a < 0) {
                return false;
            }
            int b = placeHere();
            if (b < 0) {
                return false;
            }
            if (a == b || sketch.roadBetween[a * MOST_PLACES + b] >= 0) {
                return fail(TOLD);
            }
            moveTo(at + 1);
            int hours = takeNumber(99);
            return hours > 0 && readDoubts(a, b, hours);
        }

        private boolean readDoubts(int a, int b, int hours) {
            int doubt = 0;
            int cause = NONE;
            int wait = 0;
            if ((kind == DOUBT || kind == BY) && sketch.doubtful >= MOST_DOUBTFUL) {
                return fail(TOO_MUCH);
            }
            if (kind == DOUBT) {
                moveTo(at + 1);
                doubt = takeNumber(9);
                if (doubt < 0) {
                    return false;
                }
            }
            if (kind == BY) {
                moveTo(at + 1);
                cause = takeCause();
                if (cause < 0) {
                    return false;
                }
            }
            if (kind == WAIT && (doubt > 0 || cause >= 0)) {
                moveTo(at + 1);
                wait = takeNumber(99);
                if (wait < 0) {
                    return false;
                }
            }
            sketch.addRoad(a, b, hours, doubt, cause, wait);
            return true;
        }

        private boolean readSight() {
            if (sketch.sees >= MOST_SEES) {
                return fail(TOO_MUCH);
            }
            moveTo(at + 1);
            int lookout = takePlace();
            if (lookout < 0) {
                return false;
            }
            int road = takeDoubtful();
            if (road < 0) {
                return false;
            }
            sketch.seenAt[lookout] |= 1 << road;
            sketch.sees++;
            return true;
        }

        private boolean readInn() {
            if (sketch.words >= MOST_WORDS) {
                return fail(TOO_MUCH);
            }
            moveTo(at + 1);
            int inn = takePlace();
            if (inn < 0) {
                return false;
            }
            int road = takeDoubtful();
            if (road < 0) {
                return false;
            }
            int hours = takeNumber(99);
            if (hours < 0) {
                return false;
            }
            sketch.addWord(inn, road, hours);
            return true;
        }

        private boolean readStart() {
            if (sketch.start >= 0) {
                return fail(TOLD);
            }
            moveTo(at + 1);
            sketch.start = takePlace();
            return sketch.start >= 0;
        }

        private boolean readGoal() {
            if (sketch.goal >= 0) {
                return fail(TOLD);
            }
            moveTo(at + 1);
            sketch.goal = takePlace();
            return sketch.goal >= 0;
        }

        /** The place that the token names; NONE with a fault. The token stays: more may be wrong with it. */
        private int placeHere() {
            int found = kind == NAME ? numberOf(placeNames, sketch.places) : NONE;
            if (found < 0) {
                fail(kind == NAME ? UNTOLD : MISPLACED);
            }
            return found;
        }

        private int takePlace() {
            int found = placeHere();
            if (found >= 0) {
                moveTo(at + 1);
            }
            return found;
        }

        private int takeCause() {
            int found = kind == NAME ? numberOf(causeNames, sketch.causes) : NONE;
            if (found < 0) {
                fail(kind == NAME ? UNTOLD : MISPLACED);
                return NONE;
            }
            moveTo(at + 1);
            return found;
        }

        /** The doubtful road between the next two places; NONE with a fault. */
        private int takeDoubtful() {
            int a = takePlace();
            if (a < 0) {
                return NONE;
            }
            int b = placeHere();
            if (b < 0) {
                return NONE;
            }
            int road = sketch.doubtfulBetween(a, b);
            if (road < 0) {
                fail(UNTOLD);
                return NONE;
            }
            moveTo(at + 1);
            return road;
        }

        private int takeNumber(int most) {
            if (kind != DIGITS) {
                fail(MISPLACED);
                return NONE;
            }
            if (value < 1 || value > most) {
                fail(TOO_MUCH);
                return NONE;
            }
            int number = value;
            moveTo(at + 1);
            return number;
        }

        private int numberOf(int[] names, int size) {
            for (int i = 0; i < size && i < names.length; i++) {
                if (names[i] == value) {
                    return i;
                }
            }
            return NONE;
        }
    }

    /** What is known, between its number by threes and sets of roads told as bits. */
    private static final class Codes {
        final int[] open = new int[MOST_KNOWNS];
        final int[] shut = new int[MOST_KNOWNS];
        private final int[] spread = new int[MOST_WORLDS];

        Codes() {
            for (int known = 0; known < MOST_KNOWNS; known++) {
                int rest = known;
                for (int road = 0; road < MOST_DOUBTFUL; road++) {
                    open[known] |= rest % 3 == 1 ? 1 << road : 0;
                    shut[known] |= rest % 3 == 2 ? 1 << road : 0;
                    rest /= 3;
                }
            }
            for (int set = 0; set < MOST_WORLDS; set++) {
                for (int road = 0; road < MOST_DOUBTFUL; road++) {
                    spread[set] += (set >> road & 1) * THREES[road];
                }
            }
        }

        int digit(int known, int road) {
            return (open[known] >> road & 1) + 2 * (shut[known] >> road & 1);
        }

        /** The number of one who knows just these roads, as they are in a world. */
        int told(int roads, int world) {
            return spread[roads & ~world] + 2 * spread[roads & world];
        }

        /** What is known behind a look at these roads in a world. */
        int seeing(int known, int roads, int world) {
            return known + told(roads & ~(open[known] | shut[known]), world);
        }

        /** The first of these roads that is not known; NONE. */
        int firstMissing(int known, int roads) {
            int missing = roads & ~(open[known] | shut[known]);
            for (int road = 0; road < MOST_DOUBTFUL; road++) {
                if ((missing >> road & 1) != 0) {
                    return road;
                }
            }
            return NONE;
        }
    }

    /** Weights of the worlds and sums of them by what is known. */
    private static final class Odds {
        final long[] weights = new long[MOST_WORLDS];
        final long[] likely = new long[MOST_KNOWNS];

        /** Weighs all worlds; one doubtful road (or NONE) has another doubt than told. */
        void weigh(Country country, int other, int otherDoubt) {
            for (int world = 0; world < country.worlds(); world++) {
                weights[world] = 0;
                for (int come = 0; come < 1 << country.causes; come++) {
                    long rows = causeRows(country, come);
                    for (int road = 0; road < country.doubtful; road++) {
                        int doubt = road == other ? otherDoubt : country.doubtOf(road);
                        int cause = country.causeOf(road);
                        boolean caused = cause >= 0 && (come >> cause & 1) != 0;
                        rows *= roadRows(doubt, caused, (world >> road & 1) != 0);
                    }
                    weights[world] += rows;
                }
            }
        }

        private long causeRows(Country country, int come) {
            long rows = 1;
            for (int cause = 0; cause < country.causes; cause++) {
                int odds = country.causeOdds[cause];
                rows *= (come >> cause & 1) != 0 ? odds : 10 - odds;
            }
            return rows;
        }

        private int roadRows(int doubt, boolean caused, boolean shut) {
            if (caused && shut) {
                // the ten of its own doubt, if it has one, may come out as they will
                return doubt > 0 ? 10 : 1;
            }
            if (caused) {
                return 0;
            }
            if (doubt == 0) {
                return shut ? 0 : 1;
            }
            return shut ? doubt : 10 - doubt;
        }

        /** Moves each world's weight to the one that differs by this road's being open. */
        void keepOpen(Country country, int road) {
            int bit = 1 << road;
            for (int world = 0; world < country.worlds(); world++) {
                if ((world & bit) != 0) {
                    weights[world & ~bit] += weights[world];
                    weights[world] = 0;
                }
            }
        }

        /** Sums up; numbers of those who know more are greater, so they come first. */
        void sumUp(Country country, Codes codes) {
            int all = country.worlds() - 1;
            for (int known = country.knowns() - 1; known >= 0; known--) {
                int road = codes.firstMissing(known, all);
                if (road < 0) {
                    likely[known] = weights[codes.shut[known]];
                } else {
                    int more = known + THREES[road];
                    likely[known] = likely[more] + likely[more + THREES[road]];
                }
            }
        }
    }

    /** In each world, the hours from each place to the goal and the place to go to first. */
    private static final class Ways {
        static final int FAR = 1000000;

        final int[] hoursLeft = new int[MOST_WORLDS * MOST_PLACES];
        final int[] nextPlace = new int[MOST_WORLDS * MOST_PLACES];
        private final int[] passes = new int[MOST_PLACES * MOST_PLACES];

        void fill(Country country) {
            int all = country.worlds() - 1;
            for (int world = 0; world <= all; world++) {
                country.fillPasses(passes, all & ~world, world);
                fillWorld(country, world * MOST_PLACES);
            }
        }

        private void fillWorld(Country country, int line) {
            for (int place = 0; place < country.places; place++) {
                hoursLeft[line + place] = place == country.goal ? 0 : FAR;
                nextPlace[line + place] = STAY;
            }
            boolean changed = true;
            for (int round = 0; round <= country.places && changed; round++) {
                changed = false;
                for (int place = 0; place < country.places; place++) {
                    if (place != country.goal && shorten(country, line, place)) {
                        changed = true;
                    }
                }
            }
        }

        /** Goes by rising places, and the last round changes no hours: so the least place stays. */
        private boolean shorten(Country country, int line, int place) {
            int least = FAR;
            for (int to = 0; to < country.places; to++) {
                int pass = passes[place * MOST_PLACES + to];
                if (pass > 0 && hoursLeft[line + to] + pass < least) {
                    least = hoursLeft[line + to] + pass;
                    nextPlace[line + place] = to;
                }
            }
            boolean changed = least < hoursLeft[line + place];
            hoursLeft[line + place] = least;
            return changed;
        }
    }

    /** What is best at each place and known, by sums (means) or by the worst case. */
    private static final class Solver {
        static final long HOPELESS = 1L << 60;

        private final Codes codes;
        private final long[] values = new long[MOST_STATES];
        private final int[] acts = new int[MOST_STATES];
        private final int[] passes = new int[MOST_PLACES * MOST_PLACES];
        private Country country;
        private long[] likely = new long[0];
        private boolean summing;

        Solver(Codes codes, Country country) {
            this.codes = codes;
            this.country = country;
        }

        int act(int place, int known) {
            return acts[known * MOST_PLACES + place];
        }

        long value(int place, int known) {
            return values[known * MOST_PLACES + place];
        }

        long meanFrom(int place, int known) {
            long value = value(place, known);
            return value >= HOPELESS ? NEVER : value;
        }

        void stayEverywhere() {
            for (int i = 0; i < acts.length; i++) {
                acts[i] = STAY;
            }
        }

        /** ends: what it costs to end by each known. Who knows more has a greater number: so downwards. */
        void solve(Country land, long[] odds, boolean bySums, long[] ends) {
            country = land;
            likely = odds;
            summing = bySums;
            for (int known = country.knowns() - 1; known >= 0; known--) {
                if (likely[known] > 0) {
                    country.fillPasses(passes, codes.open[known], codes.shut[known]);
                    solveKnown(known, ends[known]);
                }
            }
        }

        private void solveKnown(int known, long end) {
            int line = known * MOST_PLACES;
            for (int place = 0; place < country.places; place++) {
                int missing = codes.firstMissing(known, country.seenAt[place]);
                acts[line + place] = STAY;
                if (place == country.goal) {
                    values[line + place] = end;
                } else {
                    values[line + place] = missing < 0 ? HOPELESS : learnt(place, known, missing);
                }
            }
            boolean changed = true;
            for (int round = 0; round <= country.places && changed; round++) {
                changed = false;
                for (int place = 0; place < country.places; place++) {
                    boolean settled = place == country.goal
                            || codes.firstMissing(known, country.seenAt[place]) >= 0;
                    if (!settled && improve(place, known)) {
                        changed = true;
                    }
                }
            }
        }

        /** Places come before words and the less before the greater: only what is better replaces. */
        private boolean improve(int place, int known) {
            int line = known * MOST_PLACES;
            long least = HOPELESS;
            int act = STAY;
            for (int to = 0; to < country.places; to++) {
                int hours = passes[place * MOST_PLACES + to];
                if (hours > 0 && values[line + to] < HOPELESS) {
                    long value = values[line + to] + cost(hours, known);
                    if (value < least) {
                        least = value;
                        act = to;
                    }
                }
            }
            for (int word = 0; word < country.words; word++) {
                int road = country.wordRoad[word];
                if (country.wordPlace[word] == place && codes.digit(known, road) == 0) {
                    long value = learnt(place, known, road);
                    if (value < HOPELESS && value + cost(country.wordHours[word], known) < least) {
                        least = value + cost(country.wordHours[word], known);
                        act = WORD + word;
                    }
                }
            }
            boolean changed = least < values[line + place];
            values[line + place] = least;
            acts[line + place] = act;
            return changed;
        }

        private long cost(int hours, int known) {
            return summing ? hours * likely[known] : hours;
        }

        /** The value of a place as the state of one road more comes to be known. */
        private long learnt(int place, int known, int road) {
            int open = known + THREES[road];
            int shut = open + THREES[road];
            long first = values[open * MOST_PLACES + place];
            long second = values[shut * MOST_PLACES + place];
            if (likely[open] <= 0 || likely[shut] <= 0) {
                return likely[open] <= 0 ? second : first;
            }
            if (first >= HOPELESS || second >= HOPELESS) {
                return HOPELESS;
            }
            return summing ? first + second : Math.max(first, second);
        }
    }

    /** The rules told by hand. */
    private static final class Hand {
        static final int MOST_RULES = 30;

        int size;
        private final int[] places = new int[MOST_RULES];
        private final int[] roads = new int[MOST_RULES];
        private final int[] digits = new int[MOST_RULES];
        private final int[] targets = new int[MOST_RULES];

        int add(int place, int road, int digit, int target) {
            if (size >= MOST_RULES) {
                return NONE;
            }
            places[size] = place;
            roads[size] = road;
            digits[size] = digit;
            targets[size] = target;
            size++;
            return size - 1;
        }

        int pick(Country country, Codes codes, int place, int known) {
            for (int i = 0; i < size; i++) {
                boolean holds = places[i] == place
                        && (roads[i] < 0 || codes.digit(known, roads[i]) == digits[i]);
                if (holds && country.passBetween(place, targets[i], codes.open[known], codes.shut[known]) > 0) {
                    return targets[i];
                }
            }
            return STAY;
        }
    }

    /** All plans, and how they fare world by world. */
    private static final class Plans {
        /** A plan beyond the face's: TRY by the row that is being tried out. */
        static final int TRIAL = 7;
        /** Above ten places by each of seven states of knowing, so who goes on longer never ends. */
        static final int MOST_MOVES = 100;
        static final int MOST_ROUNDS = 1000000;

        private final Codes codes;
        private final Hand hand;
        private Country country;
        final Odds odds = new Odds();
        private final Ways ways = new Ways();
        final Solver best;
        private final Solver sure;
        private final Solver fair;
        private final long[] ends = new long[MOST_KNOWNS];
        private final boolean[] solved = new boolean[FAIR + 1];
        private final int[] row = new int[MOST_DOUBTFUL];
        int rowSize;
        final int[] trialRow = new int[MOST_DOUBTFUL];
        private final int[] trackPlace = new int[MOST_MOVES];
        private final int[] trackKnown = new int[MOST_MOVES];
        int timesHours;
        int timesKnowing;

        Plans(Codes codes, Hand hand, Country country) {
            this.codes = codes;
            this.hand = hand;
            this.country = country;
            best = new Solver(codes, country);
            sure = new Solver(codes, country);
            fair = new Solver(codes, country);
        }

        void settle(Country land) {
            country = land;
            rowSize = 0;
            for (int i = 0; i < solved.length; i++) {
                solved[i] = false;
            }
            odds.weigh(country, NONE, 0);
            odds.sumUp(country, codes);
            ways.fill(country);
        }

        boolean inRow(int road) {
            for (int i = 0; i < rowSize; i++) {
                if (row[i] == road) {
                    return true;
                }
            }
            return false;
        }

        int addToRow(int road) {
            if (rowSize < row.length) {
                row[rowSize] = road;
                rowSize++;
            }
            return rowSize;
        }

        int knowingOf(int world) {
            int hours = ways.hoursLeft[world * MOST_PLACES + country.start];
            return hours >= Ways.FAR ? STAY : hours;
        }

        /**
         * Solves what a plan stands on, once for each land. FAIR sets out from SURE's times and goes down, while some
         * plan stays below the least times found so far.
         */
        void prepare(int plan) {
            if (plan == BEST && !solved[BEST]) {
                fillEnds(0, 0, 0);
                best.solve(country, odds.likely, true, ends);
                solved[BEST] = true;
            }
            if ((plan == SURE || plan == FAIR) && !solved[SURE]) {
                fillEnds(0, 0, 0);
                sure.solve(country, odds.likely, false, ends);
                solved[SURE] = true;
            }
            if (plan != FAIR || solved[FAIR]) {
                return;
            }
            solved[FAIR] = true;
            if (!gauge(SURE)) {
                fair.stayEverywhere();
                return;
            }
            boolean lower = timesHours > 0;
            for (int round = 0; round < MOST_ROUNDS && lower; round++) {
                solveFair(1);
                lower = fair.value(country.start, 0) <= 0 && gauge(FAIR);
            }
            solveFair(0);
        }

        private void solveFair(int less) {
            fillEnds(timesHours, less, timesKnowing);
            fair.solve(country, odds.likely, false, ends);
        }

        /** Ending costs less the more hours a world leaves: (times by its knowing, less a bit), by a divisor. */
        private void fillEnds(int times, int less, int divisor) {
            int all = country.worlds() - 1;
            for (int known = country.knowns() - 1; known >= 0; known--) {
                int road = codes.firstMissing(known, all);
                if (road >= 0) {
                    ends[known] = greaterEnd(known + THREES[road], known + 2 * THREES[road]);
                } else if (divisor <= 0 || times <= 0) {
                    ends[known] = 0;
                } else {
                    ends[known] = -(((long) times * knowingOf(codes.shut[known]) - less) / divisor);
                }
            }
        }

        /** Of two knowns the greater end, but that of an unlikely one counts for nothing. */
        private long greaterEnd(int open, int shut) {
            if (odds.likely[open] <= 0) {
                return ends[shut];
            }
            return odds.likely[shut] <= 0 ? ends[open] : Math.max(ends[open], ends[shut]);
        }

        int does(int plan, int place, int known) {
            if (place == country.goal) {
                return STAY;
            }
            int unopened = (country.worlds() - 1) & ~codes.open[known];
            switch (plan) {
                case BEST: return best.act(place, known);
                case SURE: return sure.act(place, known);
                case FAIR: return fair.act(place, known);
                case HOPE: return ways.nextPlace[codes.shut[known] * MOST_PLACES + place];
                case FEAR: return ways.nextPlace[unopened * MOST_PLACES + place];
                case TRY: return ways.nextPlace[trying(row, rowSize, known, unopened) * MOST_PLACES + place];
                case TRIAL:
                    return ways.nextPlace[trying(trialRow, country.doubtful, known, unopened) * MOST_PLACES + place];
                default: return hand.pick(country, codes, place, known);
            }
        }

        /** The roads that are as if shut to one who tries by a row. */
        private int trying(int[] order, int size, int known, int unopened) {
            int told = codes.open[known] | codes.shut[known];
            for (int i = 0; i < size && i < order.length; i++) {
                if ((told >> order[i] & 1) == 0) {
                    return unopened & ~(1 << order[i]);
                }
            }
            return unopened;
        }

        int hoursIn(int plan, int world) {
            int place = country.start;
            int known = codes.seeing(0, country.seenAt[place], world);
            int hours = 0;
            for (int i = 0; i < MOST_MOVES && place != country.goal; i++) {
                int act = does(plan, place, known);
                if (act < 0) {
                    return STAY;
                }
                if (act >= WORD) {
                    hours += country.wordHours[act - WORD];
                    known = codes.seeing(known, 1 << country.wordRoad[act - WORD], world);
                } else {
                    hours += country.passBetween(place, act, codes.open[known], codes.shut[known]);
                    place = act;
                    known = codes.seeing(known, country.seenAt[place], world);
                }
            }
            return place == country.goal ? hours : STAY;
        }

        long meanOf(int plan) {
            long sum = 0;
            for (int world = 0; world < country.worlds(); world++) {
                if (odds.weights[world] > 0) {
                    int hours = hoursIn(plan, world);
                    if (hours < 0) {
                        return NEVER;
                    }
                    sum += odds.weights[world] * hours;
                }
            }
            return sum;
        }

        int worstOf(int plan) {
            int most = 0;
            for (int world = 0; world < country.worlds(); world++) {
                if (odds.weights[world] > 0) {
                    int hours = hoursIn(plan, world);
                    if (hours < 0) {
                        return STAY;
                    }
                    most = Math.max(most, hours);
                }
            }
            return most;
        }

        /** Finds a plan's greatest times; false: in some world it never ends. */
        boolean gauge(int plan) {
            timesHours = 0;
            timesKnowing = 0;
            for (int world = 0; world < country.worlds(); world++) {
                if (odds.weights[world] > 0) {
                    int hours = hoursIn(plan, world);
                    int knowing = knowingOf(world);
                    if (hours < 0 || knowing < 0) {
                        return false;
                    }
                    if (timesKnowing == 0 || hours * timesKnowing > timesHours * knowing) {
                        timesHours = hours;
                        timesKnowing = knowing;
                    }
                }
            }
            return true;
        }

        /** A place of the ring in which the plan by hand goes round; NONE. */
        int ringPlace(int k) {
            for (int world = 0; world < country.worlds(); world++) {
                if (odds.weights[world] > 0 && hoursIn(BY_HAND, world) < 0) {
                    return ringIn(world, k);
                }
            }
            return NONE;
        }

        private int ringIn(int world, int k) {
            int place = country.start;
            int known = codes.seeing(0, country.seenAt[place], world);
            for (int i = 0; i < MOST_MOVES; i++) {
                int first = trackedAt(place, known, i);
                if (first >= 0) {
                    return k < i - first ? trackPlace[first + k] : NONE;
                }
                trackPlace[i] = place;
                trackKnown[i] = known;
                int act = does(BY_HAND, place, known);
                if (act < 0) {
                    return k == 0 ? place : NONE;
                }
                place = act;
                known = codes.seeing(known, country.seenAt[place], world);
            }
            return NONE;
        }

        private int trackedAt(int place, int known, int size) {
            for (int i = 0; i < size; i++) {
                if (trackPlace[i] == place && trackKnown[i] == known) {
                    return i;
                }
            }
            return NONE;
        }
    }

    /** What BEST's means say of words, scouts, kept roads and changed doubts, and the row to try by. */
    private static final class Advice {
        static final int UNASKED = -9;

        private final Codes codes;
        private final Plans plans;
        private final Odds odds = new Odds();
        private final Solver trial;
        private final long[] noEnds = new long[MOST_KNOWNS];
        private final long[] kept = new long[MOST_DOUBTFUL];
        private final int[] edges = new int[MOST_DOUBTFUL];
        private Country country;
        private boolean rowFound;
        long rowMean;
        final int[] rowOrder = new int[MOST_DOUBTFUL];

        Advice(Codes codes, Plans plans, Country country) {
            this.codes = codes;
            this.plans = plans;
            this.country = country;
            trial = new Solver(codes, country);
        }

        void settle(Country land) {
            country = land;
            rowFound = false;
            for (int i = 0; i < MOST_DOUBTFUL; i++) {
                kept[i] = UNASKED;
                edges[i] = UNASKED;
            }
        }

        /** BEST's mean of one who sets out with these roads known; NEVER. */
        private long meanWith(int roads) {
            long sum = 0;
            for (int world = 0; world <= roads; world++) {
                int known = codes.told(roads, world);
                if ((world & ~roads) == 0 && plans.odds.likely[known] > 0) {
                    long mean = plans.best.meanFrom(country.start, known);
                    if (mean < 0) {
                        return NEVER;
                    }
                    sum += mean;
                }
            }
            return sum;
        }

        long worthOf(int road) {
            long without = meanWith(0);
            long with = meanWith(1 << road);
            return without < 0 || with < 0 ? NEVER : without - with;
        }

        long lookAhead(int hours, int what) {
            int chosen = NONE;
            long least = 0;
            for (int roads = 0; roads < country.worlds(); roads++) {
                long mean = meanWith(roads);
                long sum = mean + (long) Integer.bitCount(roads) * hours * plans.odds.likely[0];
                if (mean >= 0 && (chosen < 0 || sum < least
                        || sum == least && Integer.bitCount(roads) < Integer.bitCount(chosen))) {
                    chosen = roads;
                    least = sum;
                }
            }
            if (chosen < 0) {
                return NEVER;
            }
            return what == 0 ? chosen : least;
        }

        long keptOpen(int road) {
            if (kept[road] == UNASKED) {
                odds.weigh(country, NONE, 0);
                odds.keepOpen(country, road);
                solveTrial();
                kept[road] = trial.meanFrom(country.start, 0);
            }
            return kept[road];
        }

        int edgeOf(int road) {
            for (int doubt = country.doubtOf(road) + 1; doubt <= 10 && edges[road] == UNASKED; doubt++) {
                odds.weigh(country, road, doubt);
                solveTrial();
                if (actsOtherwise()) {
                    edges[road] = doubt;
                }
            }
            if (edges[road] == UNASKED) {
                edges[road] = 11;
            }
            return edges[road];
        }

        private void solveTrial() {
            odds.sumUp(country, codes);
            trial.solve(country, odds.likely, true, noEnds);
        }

        private boolean actsOtherwise() {
            int seen = country.seenAt[country.start];
            for (int world = 0; world <= seen; world++) {
                int known = codes.told(seen, world);
                if (plans.odds.likely[known] > 0 && odds.likely[known] > 0
                        && plans.best.act(country.start, known) != trial.act(country.start, known)) {
                    return true;
                }
            }
            return false;
        }

        /** Tries all rows by numbers, the first of the best stays. */
        void findRow() {
            if (rowFound) {
                return;
            }
            rowFound = true;
            rowMean = NEVER;
            int[] order = plans.trialRow;
            for (int i = 0; i < MOST_DOUBTFUL; i++) {
                order[i] = i;
                rowOrder[i] = i;
            }
            boolean more = true;
            for (int round = 0; round < MOST_KNOWNS && more; round++) {
                long mean = plans.meanOf(Plans.TRIAL);
                if (mean >= 0 && (rowMean < 0 || mean < rowMean)) {
                    rowMean = mean;
                    System.arraycopy(order, 0, rowOrder, 0, MOST_DOUBTFUL);
                }
                more = permute(order, country.doubtful);
            }
        }

        /** To the next order by numbers; false: this was the last. */
        private boolean permute(int[] order, int size) {
            int rise = size - 2;
            while (rise >= 0 && order[rise] > order[rise + 1]) {
                rise--;
            }
            if (rise < 0) {
                return false;
            }
            int other = size - 1;
            while (other > rise && order[other] < order[rise]) {
                other--;
            }
            swap(order, rise, other);
            for (int i = 0; rise + 1 + i < size - 1 - i; i++) {
                swap(order, rise + 1 + i, size - 1 - i);
            }
            return true;
        }

        private void swap(int[] order, int i, int j) {
            int kept = order[i];
            order[i] = order[j];
            order[j] = kept;
        }
    }

    /** The greatest sums of weights with which the goal is reached in time, by place, known and hours left. */
    private static final class Bells {
        static final int HOURS = LAST_BELL + 1;

        boolean filled;
        private final Codes codes;
        private int[] sums = new int[0];
        private final int[] passes = new int[MOST_PLACES * MOST_PLACES];
        private final int[] missing = new int[MOST_PLACES];
        private Country country;

        Bells(Codes codes, Country country) {
            this.codes = codes;
            this.country = country;
        }

        long mostBy(int hours, Country land, long[] likely) {
            if (!filled) {
                country = land;
                fill(likely);
                filled = true;
            }
            return sums[at(0, country.start) + hours];
        }

        private int at(int known, int place) {
            return (known * country.places + place) * HOURS;
        }

        /** Grows by doubling at least, as land comes after land. */
        private void makeRoom() {
            int need = at(country.knowns(), 0);
            if (sums.length < need) {
                sums = new int[Math.min(MOST_STATES * HOURS, Math.max(need, 2 * sums.length))];
            }
        }

        private void fill(long[] likely) {
            makeRoom();
            for (int known = country.knowns() - 1; known >= 0; known--) {
                country.fillPasses(passes, codes.open[known], codes.shut[known]);
                for (int place = 0; place < country.places; place++) {
                    missing[place] = codes.firstMissing(known, country.seenAt[place]);
                }
                for (int hours = 0; hours < HOURS; hours++) {
                    fillHour(known, hours, (int) likely[known]);
                }
            }
        }

        private void fillHour(int known, int hours, int likely) {
            for (int place = 0; place < country.places; place++) {
                int sum;
                if (place == country.goal || likely == 0) {
                    sum = likely;
                } else if (missing[place] >= 0) {
                    sum = learnt(known, place, missing[place], hours);
                } else {
                    sum = Math.max(mostByGoing(known, place, hours), mostByHearing(known, place, hours));
                }
                sums[at(known, place) + hours] = sum;
            }
        }

        private int mostByGoing(int known, int place, int hours) {
            int most = 0;
            for (int to = 0; to < country.places; to++) {
                int pass = passes[place * MOST_PLACES + to];
                if (pass > 0 && pass <= hours) {
                    most = Math.max(most, sums[at(known, to) + hours - pass]);
                }
            }
            return most;
        }

        private int mostByHearing(int known, int place, int hours) {
            int most = 0;
            for (int word = 0; word < country.words; word++) {
                int road = country.wordRoad[word];
                int left = hours - country.wordHours[word];
                if (left >= 0 && country.wordPlace[word] == place && codes.digit(known, road) == 0) {
                    most = Math.max(most, learnt(known, place, road, left));
                }
            }
            return most;
        }

        private int learnt(int known, int place, int road, int hours) {
            int open = known + THREES[road];
            return sums[at(open, place) + hours] + sums[at(open + THREES[road], place) + hours];
        }
    }

    /** A walk through a drawn world, with all its steps. */
    private static final class Journey {
        static final int MOST_STEPS = 100;

        boolean on;
        private final Codes codes;
        private int world;
        private int steps;
        private final int[] places = new int[MOST_STEPS + 1];
        private final int[] hours = new int[MOST_STEPS + 1];
        private final int[] knowns = new int[MOST_STEPS + 1];

        Journey(Codes codes) {
            this.codes = codes;
        }

        void setOut(Country country, int seed) {
            on = true;
            steps = 0;
            world = draw(country, seed);
            places[0] = country.start;
            hours[0] = 0;
            knowns[0] = codes.seeing(0, country.seenAt[country.start], world);
        }

        private int draw(Country country, int seed) {
            long number = seed;
            int drawn = 0;
            for (int road = 0; road < country.doubtful; road++) {
                if (country.doubtOf(road) > 0) {
                    number = follow(number);
                    drawn |= comes(number, country.doubtOf(road)) ? 1 << road : 0;
                }
            }
            for (int cause = 0; cause < country.causes; cause++) {
                number = follow(number);
                if (comes(number, country.causeOdds[cause])) {
                    drawn |= shutBy(country, cause);
                }
            }
            return drawn;
        }

        private long follow(long number) {
            return number * 1103515245L + 12345L & 0x7fffffffL;
        }

        private boolean comes(long number, int odds) {
            return number / 65536 % 10 < odds;
        }

        private int shutBy(Country country, int cause) {
            int roads = 0;
            for (int road = 0; road < country.doubtful; road++) {
                roads |= country.causeOf(road) == cause ? 1 << road : 0;
            }
            return roads;
        }

        private boolean rests(Country country) {
            return !on || steps >= MOST_STEPS || places[steps] == country.goal;
        }

        int travel(Country country, int to) {
            if (rests(country)) {
                return NONE;
            }
            int known = knowns[steps];
            int pass = country.passBetween(places[steps], to, codes.open[known], codes.shut[known]);
            if (pass <= 0) {
                return NONE;
            }
            take(to, pass, codes.seeing(known, country.seenAt[to], world));
            return hours[steps];
        }

        int hear(Country country, int word) {
            if (rests(country) || country.wordPlace[word] != places[steps]) {
                return NONE;
            }
            int known = knowns[steps];
            int road = country.wordRoad[word];
            if (codes.digit(known, road) != 0) {
                return NONE;
            }
            take(places[steps], country.wordHours[word], codes.seeing(known, 1 << road, world));
            return codes.digit(knowns[steps], road);
        }

        private void take(int place, int pass, int known) {
            places[steps + 1] = place;
            hours[steps + 1] = hours[steps] + pass;
            knowns[steps + 1] = known;
            steps++;
        }

        int undo() {
            if (!on || steps == 0) {
                return NONE;
            }
            steps--;
            return steps;
        }

        int tell(Country country, int what) {
            if (!on) {
                return NONE;
            }
            switch (what) {
                case 0: return places[steps];
                case 1: return hours[steps];
                case 2: return knowns[steps];
                case 3: return steps;
                case 4: return world;
                case 5: return places[steps] == country.goal ? 1 : 0;
                default: return NONE;
            }
        }
    }
}
