import java.util.ArrayList;
import java.util.Collections;
import java.util.HashMap;
import java.util.HashSet;
import java.util.LinkedHashMap;
import java.util.List;
import java.util.Map;
import java.util.Set;
import java.util.regex.Matcher;
import java.util.regex.Pattern;

/**
 * Made-up graphs, reads and spoilt texts: every answer is compared with a slow one that is found
 * from the document's words by other means.
 */
public final class ReferenceTest {
    private static final int MOST_CALLS = 512;
    // Leaves calls enough for the longest record to be looked at letter by letter.
    private static final int MOST_TEXT = 320;
    // Long ways round, of which the reads leave out much.
    private static final String CHAIN = "S\ta\tACCA\nS\tb\tGGG\nS\tc\tTTGT\nS\td\tGGG\nS\te\tCAAC\n"
            + "L\ta\t+\tb\t+\t0M\nL\tb\t+\tc\t+\t0M\nL\tc\t+\td\t+\t0M\nL\td\t+\te\t+\t0M\n";
    private static final String RING = "S\ta\tAACC\nS\tb\tTTTT\nS\tc\tGTTG\nS\td\tTGG\nS\te\tACAC\n"
            + "L\ta\t+\tb\t+\t0M\nL\tb\t+\tc\t+\t0M\nL\tc\t+\td\t+\t0M\nL\td\t+\te\t+\t0M\nL\te\t+\ta\t+\t0M\n";
    private static final String WIDE_RING = "S\ta\tTTTT\nS\tb\tCCC\nS\tc\tCCGC\nS\td\tTATA\n"
            + "L\ta\t+\tb\t+\t0M\nL\tb\t+\tc\t+\t0M\nL\tc\t+\td\t+\t0M\nL\td\t+\ta\t+\t0M\n";
    private static final Checks checks = new Checks("Reference");
    private static long state = 20240607;

    public static void main(String[] args) {
        checks.test("made-up graphs, reads and spoilt texts", ReferenceTest::compareMadeUp);
        checks.test("long ways round", ReferenceTest::compareLongWays);
        checks.end();
    }

    private static void compareMadeUp() {
        for (int round = 0; round < 400; round++) {
            String text = madeUpText(1 + below(8), below(13), below(5), 1 + below(4));
            compareGraph(text);
            for (int k = 0; k < 4; k++) {
                compareResult(text, madeUpRead(new Model(text)));
            }
            compareLeast(text, madeUpRead(new Model(text)));
            for (int k = 0; k < 20; k++) {
                compareLoad(spoilt(text));
            }
        }
    }

    private static void compareLongWays() {
        compareResult(CHAIN, "ACCATTGTCAAC");
        compareResult(RING, "AACCGTTGACAC");
        compareResult(WIDE_RING, "ATTTTCGTAATT");
        compareResult(WIDE_RING, "TATATTTTCCCG");
    }

    // ---- what is compared

    private static void compareGraph(String text) {
        Model model = new Model(text);
        checks.same("the test's own text: " + text, model.firstBadLine, 0);
        Session session = new Session(text, "");
        for (int u = -1; u <= model.places.size(); u++) {
            checks.same("base " + u, session.next().base(u), u < 0 || u >= model.places.size() ? -1 : model.places.get(u).base);
            for (int v = -1; v <= model.places.size(); v++) {
                boolean due = u >= 0 && v >= 0 && u < model.places.size() && v < model.places.size() && model.followed(u, v);
                checks.same("follows " + u + ", " + v + " in " + text, session.next().follows(u, v) ? 1 : 0, due ? 1 : 0);
            }
        }
        int[] sizes = {model.segments.size(), model.links.size(), model.paths.size(), model.places.size()};
        for (int what = 0; what < 4; what++) {
            checks.same("size " + what, session.next().size(what), sizes[what]);
        }
    }

    private static void compareLeast(String text, String read) {
        int[][] due = new Model(text).leastCosts(read);
        Session session = new Session(text, read);
        for (int i = 0; i <= read.length(); i++) {
            for (int v = 0; v < due[i].length; v++) {
                checks.same("least " + i + ", " + v + " of " + read + " in " + text, session.next().least(i, v), due[i][v]);
            }
        }
    }

    private static void compareResult(String text, String read) {
        Model model = new Model(text);
        model.align(read);
        String of = " of " + read + " in " + text;
        WalkAligner x = new Session(text, read).next();
        checks.same("cost" + of, x.align(), model.cost);
        checks.same("walk" + of, Calls.walk(x), model.walkText());
        checks.same("edits" + of, Calls.edits(x), model.edits);
        for (int path = 0; path < 5; path++) {
            checks.same("lies " + path + of, x.lies(path) ? 1 : 0, model.lies(path) ? 1 : 0);
        }
        WalkAligner y = new Session(text, read).next();
        y.align();
        checks.same("tell" + of, y.tell(), model.record().length());
        checks.same("record" + of, Calls.record(y), model.record());
    }

    private static void compareLoad(String text) {
        checks.same("load " + text, Calls.typed(text).load(), -new Model(text).firstBadLine);
    }

    /** Hands out an object with a graph and a read, and a new one before its calls are used up. */
    private static final class Session {
        private final String text;
        private final String read;
        private WalkAligner object;
        private int callsLeft;

        Session(String text, String read) {
            this.text = text;
            this.read = read;
        }

        WalkAligner next() {
            if (callsLeft == 0) {
                object = Calls.loaded(text);
                Calls.read(object, read);
                callsLeft = MOST_CALLS - text.length() - 1 - read.length();
            }
            callsLeft--;
            return object;
        }
    }

    // ---- what is made up

    private static int below(int bound) {
        state = state * 6364136223846793005L + 1442695040888963407L;
        return (int) ((state >>> 33) % bound);
    }

    private static String madeUpName() {
        String name = "";
        int length = below(4) == 0 ? 2 + below(2) : 1;
        for (int k = 0; k < length; k++) {
            name += "abyz0189".charAt(below(8));
        }
        return name;
    }

    private static String madeUpBases(int count, int kinds) {
        String bases = "";
        for (int k = 0; k < count; k++) {
            bases += "ACGT".charAt(below(kinds));
        }
        return bases;
    }

    /** Lines are tried and kept if they keep the text good and short. */
    private static String madeUpText(int segments, int links, int paths, int kinds) {
        String text = below(3) == 0 ? "H\tx\n" : "";
        int most = 1 + below(4);
        for (int k = 0; k < segments; k++) {
            text = kept(text, "S\t" + madeUpName() + "\t" + madeUpBases(1 + below(most), kinds) + "\n");
        }
        List<String> names = new ArrayList<>(new Model(text).segments.keySet());
        for (int k = 0; k < links; k++) {
            String from = names.get(below(names.size())) + "\t" + "+-".charAt(below(2));
            String to = names.get(below(names.size())) + "\t" + "+-".charAt(below(2));
            text = kept(text, "L\t" + from + "\t" + to + "\t0M\n");
        }
        for (int k = 0; k < paths; k++) {
            text = kept(text, "P\t" + madeUpName() + "\t" + madeUpSteps(new Model(text)) + "\t*\n");
        }
        return text;
    }

    private static String kept(String text, String line) {
        boolean fits = text.length() + line.length() <= MOST_TEXT && new Model(text + line).firstBadLine == 0;
        return fits ? text + line : text;
    }

    private static String madeUpSteps(Model model) {
        List<String> names = new ArrayList<>(model.segments.keySet());
        String side = names.get(below(names.size())) + "+-".charAt(below(2));
        String steps = side;
        int count = below(8);
        for (int k = 0; k < count; k++) {
            List<String> next = new ArrayList<>();
            for (String name : names) {
                for (String turn : new String[] {"+", "-"}) {
                    if (model.mayFollow(side, name + turn)) {
                        next.add(name + turn);
                    }
                }
            }
            if (next.isEmpty()) {
                return steps;
            }
            side = next.get(below(next.size()));
            steps += "," + side;
        }
        return steps;
    }

    /** Now any bases, now those along a walk with some spoilt, put in, or left out in runs. */
    private static String madeUpRead(Model model) {
        if (below(4) == 0) {
            return madeUpBases(below(13), 4);
        }
        String read = "";
        int place = below(model.places.size());
        int length = below(13);
        int stretch = 3 + below(6);
        int gap = below(4);
        for (int k = 0; k < 30 && read.length() < length; k++) {
            int dice = below(12);
            boolean leftOut = k % (stretch + gap) >= stretch || dice == 0;
            read += leftOut ? "" : dice == 1 ? madeUpBases(1, 4) : "" + model.places.get(place).base;
            List<Integer> next = new ArrayList<>();
            for (int v = 0; v < model.places.size(); v++) {
                if (model.followed(place, v)) {
                    next.add(v);
                }
            }
            if (next.isEmpty()) {
                return read;
            }
            place = dice == 2 ? place : next.get(below(next.size()));
        }
        return read;
    }

    private static String spoilt(String text) {
        StringBuilder all = new StringBuilder(text);
        int at = all.length() == 0 ? 0 : below(all.length());
        switch (below(5)) {
            case 0:
                all.deleteCharAt(at);
                break;
            case 1:
                all.setCharAt(at, "\t\n+-,*0MSLPHACGTabyz".charAt(below(20)));
                break;
            case 2:
                all.insert(at, "\t\n+-,*0MSLPHACGTabyz".charAt(below(20)));
                break;
            case 3:
                all.setLength(at);
                break;
            default:
                swapLines(all);
        }
        return all.length() > 400 ? all.substring(0, 400) : all.toString();
    }

    private static void swapLines(StringBuilder all) {
        String[] lines = all.toString().split("\n");
        int one = below(lines.length);
        int other = below(lines.length);
        String kept = lines[one];
        lines[one] = lines[other];
        lines[other] = kept;
        all.setLength(0);
        all.append(String.join("\n", lines)).append("\n");
    }

    // ---- the slow answers

    private record Place(String side, int inSide, int sideLength, char base) {
    }

    private static String turned(String side) {
        int last = side.length() - 1;
        return side.substring(0, last) + (side.charAt(last) == '+' ? '-' : '+');
    }

    private static final class Model {
        private static final Pattern SEGMENT = Pattern.compile("S\t([a-z0-9]{1,3})\t([ACGT]{1,4})");
        private static final Pattern LINK = Pattern.compile("L\t([a-z0-9]{1,3})\t([+-])\t([a-z0-9]{1,3})\t([+-])\t0M");
        private static final Pattern PATH = Pattern.compile("P\t([a-z0-9]{1,3})\t([a-z0-9]{1,3}[+-](?:,[a-z0-9]{1,3}[+-]){0,7})\t\\*");

        final Map<String, String> segments = new LinkedHashMap<>();
        final Set<List<String>> links = new HashSet<>();
        final Map<String, List<String>> pathsByName = new HashMap<>();
        final List<List<String>> paths = new ArrayList<>();
        final List<Place> places = new ArrayList<>();
        int firstBadLine;
        int cost;
        final List<Integer> walk = new ArrayList<>();
        String edits = "";

        Model(String text) {
            int number = 0;
            int from = 0;
            while (from < text.length() && firstBadLine == 0) {
                number++;
                int to = text.indexOf('\n', from);
                if (to < 0 || !takes(text.substring(from, to))) {
                    firstBadLine = number;
                }
                from = to + 1;
            }
            for (Map.Entry<String, String> segment : segments.entrySet()) {
                addPlaces(segment.getKey() + "+", segment.getValue());
                addPlaces(segment.getKey() + "-", turnedBases(segment.getValue()));
            }
        }

        private static String turnedBases(String bases) {
            String crossed = bases.replace('A', 't').replace('T', 'a').replace('C', 'g').replace('G', 'c');
            return new StringBuilder(crossed.toUpperCase()).reverse().toString();
        }

        private void addPlaces(String side, String bases) {
            for (int k = 0; k < bases.length(); k++) {
                places.add(new Place(side, k, bases.length(), bases.charAt(k)));
            }
        }

        private boolean takes(String line) {
            if (line.startsWith("H")) {
                return true;
            }
            Matcher segment = SEGMENT.matcher(line);
            if (segment.matches()) {
                return segments.putIfAbsent(segment.group(1), segment.group(2)) == null && segments.size() <= 8;
            }
            Matcher link = LINK.matcher(line);
            if (link.matches()) {
                boolean known = segments.containsKey(link.group(1)) && segments.containsKey(link.group(3));
                String from = link.group(1) + link.group(2);
                String to = link.group(3) + link.group(4);
                return known && !links.contains(List.of(turned(to), turned(from))) && links.add(List.of(from, to))
                        && links.size() <= 12;
            }
            Matcher path = PATH.matcher(line);
            return path.matches() && takesPath(path.group(1), List.of(path.group(2).split(",")));
        }

        private boolean takesPath(String name, List<String> steps) {
            for (int k = 0; k < steps.size(); k++) {
                String step = steps.get(k);
                boolean known = segments.containsKey(step.substring(0, step.length() - 1));
                if (!known || (k > 0 && !mayFollow(steps.get(k - 1), step))) {
                    return false;
                }
            }
            paths.add(steps);
            return pathsByName.put(name, steps) == null && paths.size() <= 4;
        }

        boolean mayFollow(String x, String y) {
            return links.contains(List.of(x, y)) || links.contains(List.of(turned(y), turned(x)));
        }

        boolean followed(int u, int v) {
            Place from = places.get(u);
            Place to = places.get(v);
            if (from.inSide + 1 < from.sideLength) {
                return from.side.equals(to.side) && from.inSide + 1 == to.inSide;
            }
            return to.inSide == 0 && mayFollow(from.side, to.side);
        }

        /**
         * E(i, v) as the least over walks of 1, 2, .. places. A walk of more than 2 * i + 1 places
         * needs more deletes than the read has bases, and a walk of one place never costs that much.
         */
        int[][] leastCosts(String read) {
            int n = read.length();
            int[][] least = new int[n + 1][places.size()];
            int[][] shorter = null;
            for (int length = 1; length <= 2 * n + 1; length++) {
                int[][] costs = costsOfWalks(read, shorter);
                for (int i = 0; i <= n; i++) {
                    for (int v = 0; v < places.size(); v++) {
                        least[i][v] = length == 1 ? costs[i][v] : Math.min(least[i][v], costs[i][v]);
                    }
                }
                shorter = costs;
            }
            return least;
        }

        private int[][] costsOfWalks(String read, int[][] shorter) {
            int[][] costs = new int[read.length() + 1][places.size()];
            for (int i = 0; i <= read.length(); i++) {
                for (int v = 0; v < places.size(); v++) {
                    int best = i > 0 ? costs[i - 1][v] + 1 : 1000;
                    int change = i > 0 && read.charAt(i - 1) == places.get(v).base ? 0 : 1;
                    if (shorter == null) {
                        best = Math.min(best, i > 0 ? i - 1 + change : 1000);
                        best = Math.min(best, i + 1);
                    } else {
                        for (int u = 0; u < places.size(); u++) {
                            if (followed(u, v)) {
                                best = Math.min(best, shorter[i][u] + 1);
                                best = Math.min(best, i > 0 ? shorter[i - 1][u] + change : 1000);
                            }
                        }
                    }
                    costs[i][v] = best;
                }
            }
            return costs;
        }

        void align(String read) {
            int[][] least = leastCosts(read);
            int i = read.length();
            int v = 0;
            for (int w = 0; w < places.size(); w++) {
                v = least[i][w] < least[i][v] ? w : v;
            }
            cost = least[i][v];
            while (true) {
                int due = least[i][v];
                int m = i > 0 && read.charAt(i - 1) == places.get(v).base ? 0 : 1;
                String both = m == 0 ? "=" : "X";
                if (i > 0 && i - 1 + m == due) {
                    walk.add(0, v);
                    edits = "I".repeat(i - 1) + both + edits;
                    return;
                }
                int before = i > 0 ? before(least[i - 1], v, due - m) : -1;
                if (before >= 0) {
                    walk.add(0, v);
                    edits = both + edits;
                    i--;
                    v = before;
                    continue;
                }
                if (i > 0 && least[i - 1][v] + 1 == due) {
                    edits = "I" + edits;
                    i--;
                    continue;
                }
                walk.add(0, v);
                before = before(least[i], v, due - 1);
                if (before < 0) {
                    checks.same("rule 5", due, i + 1);
                    edits = "I".repeat(i) + "D" + edits;
                    return;
                }
                edits = "D" + edits;
                v = before;
            }
        }

        private int before(int[] row, int v, int due) {
            for (int u = 0; u < row.length; u++) {
                if (row[u] == due && followed(u, v)) {
                    return u;
                }
            }
            return -1;
        }

        String walkText() {
            return String.join(" ", walk.stream().map(String::valueOf).toList());
        }

        private List<String> walkSides() {
            List<String> sides = new ArrayList<>();
            for (int k = 0; k < walk.size(); k++) {
                Place place = places.get(walk.get(k));
                Place former = k == 0 ? null : places.get(walk.get(k - 1));
                if (former == null || former.inSide + 1 == former.sideLength) {
                    sides.add(place.side);
                }
            }
            return sides;
        }

        boolean lies(int path) {
            if (path >= paths.size()) {
                return false;
            }
            List<String> about = new ArrayList<>();
            for (String side : walkSides()) {
                about.add(0, turned(side));
            }
            List<String> steps = paths.get(path);
            return Collections.indexOfSubList(steps, walkSides()) >= 0
                    || Collections.indexOfSubList(steps, about) >= 0;
        }

        String record() {
            String all = "";
            for (String side : walkSides()) {
                int last = side.length() - 1;
                all += (side.charAt(last) == '+' ? ">" : "<") + side.substring(0, last);
            }
            Place end = places.get(walk.get(walk.size() - 1));
            all += "\t" + places.get(walk.get(0)).inSide + "\t" + (end.sideLength - 1 - end.inSide) + "\t" + cost + "\t";
            Matcher run = Pattern.compile("(.)\\1*").matcher(edits);
            while (run.find()) {
                all += run.group().length() + run.group(1);
            }
            return all;
        }
    }
}
