import java.util.Arrays;

/** Lays short reads along the walks of a graph of sequences that need the fewest edits. */
public final class WalkAligner {
    /** A number is out of its range, or it is no time for this. */
    public static final int BAD = -1;
    /** There is no graph with a segment. */
    public static final int NONE = -2;

    private static final int MOST_CHARACTERS = 400;
    private static final int MOST_SEGMENTS = 8;
    private static final int MOST_BASES = 4;
    private static final int MOST_LINKS = 12;
    private static final int MOST_PATHS = 4;
    private static final int MOST_STEPS = 8;
    private static final int MOST_NAME = 3;
    private static final int MOST_READ = 12;

    private static final int MOST_SIDES = 2 * MOST_SEGMENTS;
    private static final int MOST_PLACES = MOST_SIDES * MOST_BASES;
    // Within the sides, and two for each link: the link itself and the link turned about.
    private static final int MOST_JOINS = MOST_SIDES * (MOST_BASES - 1) + 2 * MOST_LINKS;
    // No result deletes more places than it costs, and it never costs more than one change or
    // insert for each base (one delete, if there is no base).
    private static final int MOST_EDITS = 2 * MOST_READ + 1;

    private static final char TAB = 9;
    private static final char NEWLINE = 10;
    private static final char NOTHING = 0;
    private static final int NAME_RADIX = 128;

    private final Text text = new Text();
    private final Read reading = new Read();
    private final Costs costs = new Costs();
    private final Result result = new Result();
    private final StringBuilder told = new StringBuilder();
    // A text is read into the spare graph, so that a text that is not good leaves the graph alone.
    private Graph graph = new Graph();
    private Graph spare = new Graph();

    /** Makes an object with an empty text, no segments, an empty read, no result, an empty record. */
    public WalkAligner() {
    }

    /** Puts a character at the end of the text; false when it may not stand there. */
    public boolean type(char c) {
        return text.put(c);
    }

    /** Makes the text empty. */
    public void clear() {
        text.length = 0;
    }

    /** Makes the text the graph: 0, or minus the number of the first line that is not good. */
    public int load() {
        spare.forget();
        int line = firstBadLine(text, spare);
        if (line > 0) {
            return -line;
        }
        spare.joinPlaces();
        Graph former = graph;
        graph = spare;
        spare = former;
        result.found = false;
        return 0;
    }

    /** How many segments (0), links (1), paths (2) or places (3) the graph has. */
    public int size(int what) {
        switch (what) {
            case 0:
                return graph.segments;
            case 1:
                return graph.links;
            case 2:
                return graph.paths;
            case 3:
                return graph.places;
            default:
                return BAD;
        }
    }

    /** The code of the base of a place. */
    public int base(int place) {
        return graph.hasPlace(place) ? graph.placeBases[place] : BAD;
    }

    /** Whether place u is followed by place v. */
    public boolean follows(int u, int v) {
        return graph.areJoined(u, v);
    }

    /** Puts a base at the end of the read; false when it may not stand there. */
    public boolean read(char c) {
        return reading.put(c);
    }

    /** Makes the read empty. */
    public void drop() {
        reading.length = 0;
    }

    /** Aligns the read to the graph: the cost of the result. */
    public int align() {
        if (graph.segments == 0) {
            return NONE;
        }
        costs.fill(graph, reading, reading.length);
        result.find(graph, reading, costs);
        return result.cost;
    }

    /** The least cost of the first i bases of the read along any walk whose last place is v. */
    public int least(int i, int v) {
        if (i < 0 || i > reading.length || !graph.hasPlace(v)) {
            return BAD;
        }
        costs.fill(graph, reading, i);
        return costs.at(i, v);
    }

    /** The k-th place of the result's walk. */
    public int walk(int k) {
        return result.found && k >= 0 && k < result.walkLength ? result.placeAt(k) : BAD;
    }

    /** The code of the k-th edit of the result. */
    public int edit(int k) {
        return result.found && k >= 0 && k < result.editCount ? result.editAt(k) : BAD;
    }

    /** Whether the sides of the result's walk stand side by side in a path, either way about. */
    public boolean lies(int path) {
        if (!result.found || path < 0 || path >= graph.paths) {
            return false;
        }
        int lastStart = graph.stepCounts[path] - result.sideCount;
        for (int start = 0; start <= lastStart; start++) {
            int first = path * MOST_STEPS + start;
            if (liesForwards(first) || liesTurned(first)) {
                return true;
            }
        }
        return false;
    }

    /** Writes the record of the result: its length. */
    public int tell() {
        if (!result.found) {
            return BAD;
        }
        told.setLength(0);
        writeSides();
        writeEnds();
        told.append(TAB);
        told.append(result.cost);
        told.append(TAB);
        writeEdits();
        return told.length();
    }

    /** The code of the i-th character of the record that was written last. */
    public int letter(int i) {
        return i >= 0 && i < told.length() ? told.charAt(i) : BAD;
    }

    private static int firstBadLine(Text text, Graph graph) {
        text.at = 0;
        // Every line has a character at least, so there are no more lines than characters.
        for (int line = 1; line <= text.length && text.at < text.length; line++) {
            if (!takeLine(text, graph)) {
                return line;
            }
        }
        return 0;
    }

    private static boolean takeLine(Text text, Graph graph) {
        if (text.takes('H')) {
            return text.takesRestOfLine();
        }
        if (text.takes('S')) {
            return takeSegment(text, graph);
        }
        if (text.takes('L')) {
            return takeLink(text, graph);
        }
        return text.takes('P') && takePath(text, graph);
    }

    private static boolean takeSegment(Text text, Graph graph) {
        if (!text.takes(TAB)) {
            return false;
        }
        int name = text.takeName();
        if (name == NOTHING || !text.takes(TAB)) {
            return false;
        }
        int from = text.at;
        int count = text.takeBases();
        return text.takes(NEWLINE) && graph.addSegment(name, text.characters, from, count);
    }

    private static boolean takeLink(Text text, Graph graph) {
        if (!text.takes(TAB)) {
            return false;
        }
        int from = takeSide(text, graph, true);
        if (from < 0 || !text.takes(TAB)) {
            return false;
        }
        int to = takeSide(text, graph, true);
        return to >= 0 && text.takes(TAB) && text.takes('0') && text.takes('M')
                && text.takes(NEWLINE) && graph.addLink(from, to);
    }

    private static boolean takePath(Text text, Graph graph) {
        if (!text.takes(TAB)) {
            return false;
        }
        int name = text.takeName();
        if (name == NOTHING || !text.takes(TAB) || !graph.addPath(name)) {
            return false;
        }
        boolean more = true;
        for (int step = 0; more && step < MOST_STEPS; step++) {
            int side = takeSide(text, graph, false);
            if (side < 0 || !graph.addStep(side)) {
                return false;
            }
            more = text.takes(',');
        }
        // A comma behind the last step that a path may have announces one too many.
        return !more && text.takes(TAB) && text.takes('*') && text.takes(NEWLINE);
    }

    /** A segment's name and + or -, with a TAB between or without one; BAD when there is no such side. */
    private static int takeSide(Text text, Graph graph, boolean tabBetween) {
        int segment = graph.segmentNamed(text.takeName());
        if (segment < 0 || (tabBetween && !text.takes(TAB))) {
            return BAD;
        }
        if (text.takes('+')) {
            return 2 * segment;
        }
        return text.takes('-') ? turned(2 * segment) : BAD;
    }

    /** Sides are numbered 2 * segment forwards and 2 * segment + 1 backwards. */
    private static int turned(int side) {
        return side ^ 1;
    }

    private static boolean isBase(char c) {
        return c == 'A' || c == 'C' || c == 'G' || c == 'T';
    }

    private static boolean isOfName(char c) {
        return (c >= 'a' && c <= 'z') || (c >= '0' && c <= '9');
    }

    private static char partner(char base) {
        switch (base) {
            case 'A':
                return 'T';
            case 'C':
                return 'G';
            case 'G':
                return 'C';
            default:
                return 'A';
        }
    }

    private boolean liesForwards(int firstStep) {
        for (int k = 0; k < result.sideCount; k++) {
            if (graph.steps[firstStep + k] != result.sides[k]) {
                return false;
            }
        }
        return true;
    }

    private boolean liesTurned(int firstStep) {
        int last = result.sideCount - 1;
        for (int k = 0; k <= last; k++) {
            if (graph.steps[firstStep + k] != turned(result.sides[last - k])) {
                return false;
            }
        }
        return true;
    }

    private void writeSides() {
        for (int k = 0; k < result.sideCount; k++) {
            int side = result.sides[k];
            told.append(side % 2 == 0 ? '>' : '<');
            writeName(graph.segmentNames[side / 2]);
        }
    }

    private void writeName(int name) {
        if (name >= NAME_RADIX * NAME_RADIX) {
            told.append((char) (name / NAME_RADIX / NAME_RADIX));
        }
        if (name >= NAME_RADIX) {
            told.append((char) (name / NAME_RADIX % NAME_RADIX));
        }
        told.append((char) (name % NAME_RADIX));
    }

    private void writeEnds() {
        int first = result.placeAt(0);
        int last = result.placeAt(result.walkLength - 1);
        told.append(TAB);
        told.append(first - graph.firstPlace(graph.placeSides[first]));
        told.append(TAB);
        told.append(graph.lastPlace(graph.placeSides[last]) - last);
    }

    private void writeEdits() {
        int run = 0;
        for (int k = 0; k < result.editCount; k++) {
            run++;
            boolean runEnds = k + 1 == result.editCount || result.editAt(k + 1) != result.editAt(k);
            if (runEnds) {
                told.append(run);
                told.append(result.editAt(k));
                run = 0;
            }
        }
    }

    /** The characters of the text, and how far it has been read. */
    private static final class Text {
        final char[] characters = new char[MOST_CHARACTERS];
        int length;
        int at;

        boolean put(char c) {
            boolean known = c == TAB || c == NEWLINE || (c >= 32 && c <= 126);
            if (!known || length >= MOST_CHARACTERS) {
                return false;
            }
            characters[length] = c;
            length++;
            return true;
        }

        /** The next character, or NOTHING, which no text holds, behind the last one. */
        char next() {
            return at < length ? characters[at] : NOTHING;
        }

        boolean takes(char c) {
            if (next() != c) {
                return false;
            }
            at++;
            return true;
        }

        boolean takesRestOfLine() {
            while (at < length && characters[at] != NEWLINE) {
                at++;
            }
            return takes(NEWLINE);
        }

        /** A name, its characters packed into a number so that equal names are equal numbers; or NOTHING. */
        int takeName() {
            int name = NOTHING;
            for (int k = 0; k < MOST_NAME && isOfName(next()); k++) {
                name = name * NAME_RADIX + next();
                at++;
            }
            return name;
        }

        /** How many bases stand next. */
        int takeBases() {
            int from = at;
            while (at < length && isBase(characters[at])) {
                at++;
            }
            return at - from;
        }
    }

    /** Segments, links and paths; what would go beyond a graph's limits or rules is refused. */
    private static final class Graph {
        int segments;
        int links;
        int paths;
        int places;
        int joins;
        final int[] segmentNames = new int[MOST_SEGMENTS];
        final int[] sideStarts = new int[MOST_SIDES];
        final char[] placeBases = new char[MOST_PLACES];
        final int[] placeSides = new int[MOST_PLACES];
        // Bit y of followers[x] is set if side y may follow side x.
        final int[] followers = new int[MOST_SIDES];
        final int[] pathNames = new int[MOST_PATHS];
        final int[] stepCounts = new int[MOST_PATHS];
        final int[] steps = new int[MOST_PATHS * MOST_STEPS];
        // Each place with each place that follows it, in the order of the former ones.
        final int[] joinFrom = new int[MOST_JOINS];
        final int[] joinTo = new int[MOST_JOINS];

        void forget() {
            segments = 0;
            links = 0;
            paths = 0;
            places = 0;
            joins = 0;
            Arrays.fill(followers, 0);
        }

        boolean hasPlace(int place) {
            return place >= 0 && place < places;
        }

        int segmentNamed(int name) {
            return positionOf(name, segmentNames, segments);
        }

        static int positionOf(int name, int[] names, int count) {
            for (int k = 0; k < count; k++) {
                if (names[k] == name) {
                    return k;
                }
            }
            return BAD;
        }

        boolean addSegment(int name, char[] bases, int from, int count) {
            boolean fits = segments < MOST_SEGMENTS && count >= 1 && count <= MOST_BASES;
            if (!fits || segmentNamed(name) >= 0) {
                return false;
            }
            int side = 2 * segments;
            segmentNames[segments] = name;
            segments++;
            sideStarts[side] = places;
            for (int k = 0; k < count; k++) {
                addPlace(bases[from + k], side);
            }
            sideStarts[turned(side)] = places;
            for (int k = count - 1; k >= 0; k--) {
                addPlace(partner(bases[from + k]), turned(side));
            }
            return true;
        }

        void addPlace(char base, int side) {
            placeBases[places] = base;
            placeSides[places] = side;
            places++;
        }

        boolean mayFollow(int x, int y) {
            return (followers[x] >> y & 1) != 0;
        }

        boolean addLink(int x, int y) {
            if (links >= MOST_LINKS || mayFollow(x, y)) {
                return false;
            }
            links++;
            followers[x] |= 1 << y;
            followers[turned(y)] |= 1 << turned(x);
            return true;
        }

        boolean addPath(int name) {
            if (paths >= MOST_PATHS || positionOf(name, pathNames, paths) >= 0) {
                return false;
            }
            pathNames[paths] = name;
            stepCounts[paths] = 0;
            paths++;
            return true;
        }

        /** Puts a step at the end of the path that was added last. */
        boolean addStep(int side) {
            int path = paths - 1;
            if (path < 0 || stepCounts[path] >= MOST_STEPS) {
                return false;
            }
            int at = path * MOST_STEPS + stepCounts[path];
            if (stepCounts[path] > 0 && !mayFollow(steps[at - 1], side)) {
                return false;
            }
            steps[at] = side;
            stepCounts[path]++;
            return true;
        }

        int firstPlace(int side) {
            return sideStarts[side];
        }

        int lastPlace(int side) {
            return (side + 1 < 2 * segments ? sideStarts[side + 1] : places) - 1;
        }

        boolean beginsSide(int place) {
            return place == firstPlace(placeSides[place]);
        }

        void joinPlaces() {
            for (int place = 0; place < places; place++) {
                int side = placeSides[place];
                if (place < lastPlace(side)) {
                    join(place, place + 1);
                } else {
                    joinToFollowers(place, side);
                }
            }
        }

        void joinToFollowers(int place, int side) {
            for (int next = 0; next < 2 * segments; next++) {
                if (mayFollow(side, next)) {
                    join(place, firstPlace(next));
                }
            }
        }

        void join(int from, int to) {
            if (joins < MOST_JOINS) {
                joinFrom[joins] = from;
                joinTo[joins] = to;
                joins++;
            }
        }

        boolean areJoined(int u, int v) {
            for (int k = 0; k < joins; k++) {
                if (joinFrom[k] == u && joinTo[k] == v) {
                    return true;
                }
            }
            return false;
        }
    }

    /** The bases of the read. */
    private static final class Read {
        final char[] bases = new char[MOST_READ];
        int length;

        boolean put(char c) {
            if (!isBase(c) || length >= MOST_READ) {
                return false;
            }
            bases[length] = c;
            length++;
            return true;
        }

        /** What it costs to lay the i-th base (from 1) on a place with this base. */
        int costOn(int i, char base) {
            return bases[i - 1] == base ? 0 : 1;
        }
    }

    /** The document's E(i, v) for a graph and a read. */
    private static final class Costs {
        private final int[] table = new int[(MOST_READ + 1) * MOST_PLACES];

        int at(int i, int v) {
            return table[i * MOST_PLACES + v];
        }

        void fill(Graph graph, Read read, int lastRow) {
            for (int i = 0; i <= lastRow; i++) {
                beginRow(graph, read, i);
                if (i > 0) {
                    comeFromRowBefore(graph, read, i);
                }
                deletePlaces(graph, i);
            }
        }

        /** Walks of one place, and inserts behind v. */
        private void beginRow(Graph graph, Read read, int i) {
            for (int v = 0; v < graph.places; v++) {
                int cost = i + 1;
                if (i > 0) {
                    int alone = i - 1 + read.costOn(i, graph.placeBases[v]);
                    cost = Math.min(alone, at(i - 1, v) + 1);
                }
                table[i * MOST_PLACES + v] = cost;
            }
        }

        private void comeFromRowBefore(Graph graph, Read read, int i) {
            for (int k = 0; k < graph.joins; k++) {
                int v = graph.joinTo[k];
                int cost = at(i - 1, graph.joinFrom[k]) + read.costOn(i, graph.placeBases[v]);
                lower(i, v, cost);
            }
        }

        /** Deletes may go round a circle of places, so they are tried until none makes a cost less. */
        private void deletePlaces(Graph graph, int i) {
            boolean lowered = true;
            for (int round = 0; lowered && round < MOST_PLACES; round++) {
                lowered = false;
                for (int k = 0; k < graph.joins; k++) {
                    if (lower(i, graph.joinTo[k], at(i, graph.joinFrom[k]) + 1)) {
                        lowered = true;
                    }
                }
            }
        }

        private boolean lower(int i, int v, int cost) {
            if (cost >= at(i, v)) {
                return false;
            }
            table[i * MOST_PLACES + v] = cost;
            return true;
        }

        int bestPlace(Graph graph, int i) {
            int best = 0;
            for (int v = 1; v < graph.places; v++) {
                if (at(i, v) < at(i, best)) {
                    best = v;
                }
            }
            return best;
        }

        /** The least place u that is followed by v with E(i, u) = cost; BAD when there is none. */
        int placeBefore(Graph graph, int v, int i, int cost) {
            for (int k = 0; k < graph.joins; k++) {
                if (graph.joinTo[k] == v && at(i, graph.joinFrom[k]) == cost) {
                    return graph.joinFrom[k];
                }
            }
            return BAD;
        }
    }

    /** The walk and the alignment that were found; held from the last to the first, as they are found. */
    private static final class Result {
        boolean found;
        int cost;
        int walkLength;
        int editCount;
        int sideCount;
        final int[] sides = new int[MOST_EDITS];
        private final int[] walkBackwards = new int[MOST_EDITS];
        private final char[] editsBackwards = new char[MOST_EDITS];
        private int basesLeft;
        private int place;

        int placeAt(int k) {
            return walkBackwards[walkLength - 1 - k];
        }

        char editAt(int k) {
            return editsBackwards[editCount - 1 - k];
        }

        void find(Graph graph, Read read, Costs costs) {
            walkLength = 0;
            editCount = 0;
            basesLeft = read.length;
            place = costs.bestPlace(graph, basesLeft);
            cost = costs.at(basesLeft, place);
            boolean more = true;
            for (int k = 0; more && k < MOST_EDITS; k++) {
                more = stepBack(graph, read, costs);
            }
            listSides(graph);
            found = true;
        }

        /** Finds the edit before those that are found; false when it was the walk's first place. */
        private boolean stepBack(Graph graph, Read read, Costs costs) {
            int due = costs.at(basesLeft, place);
            if (basesLeft > 0) {
                int here = read.costOn(basesLeft, graph.placeBases[place]);
                char edit = here == 0 ? '=' : 'X';
                if (basesLeft - 1 + here == due) {
                    usePlace(edit);
                    insertFirst(basesLeft - 1);
                    return false;
                }
                int before = costs.placeBefore(graph, place, basesLeft - 1, due - here);
                if (before >= 0) {
                    usePlace(edit);
                    basesLeft--;
                    place = before;
                    return true;
                }
                if (costs.at(basesLeft - 1, place) + 1 == due) {
                    addEdit('I');
                    basesLeft--;
                    return true;
                }
            }
            return stepBackByDelete(graph, costs, due);
        }

        private boolean stepBackByDelete(Graph graph, Costs costs, int due) {
            usePlace('D');
            int before = costs.placeBefore(graph, place, basesLeft, due - 1);
            if (before < 0) {
                insertFirst(basesLeft);
                return false;
            }
            place = before;
            return true;
        }

        private void usePlace(char edit) {
            addEdit(edit);
            if (walkLength < MOST_EDITS) {
                walkBackwards[walkLength] = place;
                walkLength++;
            }
        }

        private void insertFirst(int count) {
            for (int k = 0; k < count; k++) {
                addEdit('I');
            }
        }

        private void addEdit(char edit) {
            if (editCount < MOST_EDITS) {
                editsBackwards[editCount] = edit;
                editCount++;
            }
        }

        private void listSides(Graph graph) {
            sideCount = 0;
            for (int k = 0; k < walkLength; k++) {
                int at = placeAt(k);
                // Only from the end of a side does a walk come to the first place of one.
                if (k == 0 || graph.beginsSide(at)) {
                    sides[sideCount] = graph.placeSides[at];
                    sideCount++;
                }
            }
        }
    }
}
