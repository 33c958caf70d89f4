import java.util.ArrayList;
import java.util.Collections;
import java.util.HashMap;
import java.util.HashSet;
import java.util.LinkedHashMap;
import java.util.List;
import java.util.Map;
import java.util.Set;
import java.util.regex.Matcher;
import java.util.regex.Pattern;

/** Answers found slowly from the document's words, by other means than the program's. */
public final class Model {
    /** A place, and where in which side it lies. */
    public record Place(String side, int inSide, int sideLength, char base) {
    }

    private static final Pattern SEGMENT = Pattern.compile("S\t([a-z0-9]{1,3})\t([ACGT]{1,4})");
    private static final Pattern LINK = Pattern.compile("L\t([a-z0-9]{1,3})\t([+-])\t([a-z0-9]{1,3})\t([+-])\t0M");
    private static final Pattern PATH = Pattern.compile("P\t([a-z0-9]{1,3})\t([a-z0-9]{1,3}[+-](?:,[a-z0-9]{1,3}[+-]){0,7})\t\\*");

    final Map<String, String> segments = new LinkedHashMap<>();
    final Set<List<String>> links = new HashSet<>();
    final Map<String, List<String>> pathsByName = new HashMap<>();
    final List<List<String>> paths = new ArrayList<>();
    final List<Place> places = new ArrayList<>();
    int firstBadLine;
    int cost;
    final List<Integer> walk = new ArrayList<>();
    String edits = "";

    Model(String text) {
        int number = 0;
        int from = 0;
        while (from < text.length() && firstBadLine == 0) {
            number++;
            int to = text.indexOf('\n', from);
            if (to < 0 || !takes(text.substring(from, to))) {
                firstBadLine = number;
            }
            from = to + 1;
        }
        for (Map.Entry<String, String> segment : segments.entrySet()) {
            addPlaces(segment.getKey() + "+", segment.getValue());
            addPlaces(segment.getKey() + "-", turnedBases(segment.getValue()));
        }
    }

    private static String turned(String side) {
        int last = side.length() - 1;
        return side.substring(0, last) + (side.charAt(last) == '+' ? '-' : '+');
    }

    private static String turnedBases(String bases) {
        String crossed = bases.replace('A', 't').replace('T', 'a').replace('C', 'g').replace('G', 'c');
        return new StringBuilder(crossed.toUpperCase()).reverse().toString();
    }

    private void addPlaces(String side, String bases) {
        for (int k = 0; k < bases.length(); k++) {
            places.add(new Place(side, k, bases.length(), bases.charAt(k)));
        }
    }

    private boolean takes(String line) {
        if (line.startsWith("H")) {
            return true;
        }
        Matcher segment = SEGMENT.matcher(line);
        if (segment.matches()) {
            return segments.putIfAbsent(segment.group(1), segment.group(2)) == null && segments.size() <= 8;
        }
        Matcher link = LINK.matcher(line);
        if (link.matches()) {
            boolean known = segments.containsKey(link.group(1)) && segments.containsKey(link.group(3));
            String from = link.group(1) + link.group(2);
            String to = link.group(3) + link.group(4);
            return known && !links.contains(List.of(turned(to), turned(from))) && links.add(List.of(from, to))
                    && links.size() <= 12;
        }
        Matcher path = PATH.matcher(line);
        return path.matches() && takesPath(path.group(1), List.of(path.group(2).split(",")));
    }

    private boolean takesPath(String name, List<String> steps) {
        for (int k = 0; k < steps.size(); k++) {
            String step = steps.get(k);
            boolean known = segments.containsKey(step.substring(0, step.length() - 1));
            if (!known || (k > 0 && !mayFollow(steps.get(k - 1), step))) {
                return false;
            }
        }
        paths.add(steps);
        return pathsByName.put(name, steps) == null && paths.size() <= 4;
    }

    boolean mayFollow(String x, String y) {
        return links.contains(List.of(x, y)) || links.contains(List.of(turned(y), turned(x)));
    }

    boolean followed(int u, int v) {
        Place from = places.get(u);
        Place to = places.get(v);
        if (from.inSide + 1 < from.sideLength) {
            return from.side.equals(to.side) && from.inSide + 1 == to.inSide;
        }
        return to.inSide == 0 && mayFollow(from.side, to.side);
    }

    /**
     * E(i, v) as the least over walks of 1, 2, .. places. A walk of more than 2 * i + 1 places
     * needs more deletes than the read has bases, and a walk of one place never costs that much.
     */
    int[][] leastCosts(String read) {
        int n = read.length();
        int[][] least = new int[n + 1][places.size()];
        int[][] shorter = null;
        for (int length = 1; length <= 2 * n + 1; length++) {
            int[][] costs = costsOfWalks(read, shorter);
            for (int i = 0; i <= n; i++) {
                for (int v = 0; v < places.size(); v++) {
                    least[i][v] = length == 1 ? costs[i][v] : Math.min(least[i][v], costs[i][v]);
                }
            }
            shorter = costs;
        }
        return least;
    }

    private int[][] costsOfWalks(String read, int[][] shorter) {
        int[][] costs = new int[read.length() + 1][places.size()];
        for (int i = 0; i <= read.length(); i++) {
            for (int v = 0; v < places.size(); v++) {
                int best = i > 0 ? costs[i - 1][v] + 1 : 1000;
                int change = i > 0 && read.charAt(i - 1) == places.get(v).base ? 0 : 1;
                if (shorter == null) {
                    best = Math.min(best, i > 0 ? i - 1 + change : 1000);
                    best = Math.min(best, i + 1);
                } else {
                    for (int u = 0; u < places.size(); u++) {
                        if (followed(u, v)) {
                            best = Math.min(best, shorter[i][u] + 1);
                            best = Math.min(best, i > 0 ? shorter[i - 1][u] + change : 1000);
                        }
                    }
                }
                costs[i][v] = best;
            }
        }
        return costs;
    }

    void align(String read) {
        int[][] least = leastCosts(read);
        int i = read.length();
        int v = 0;
        for (int w = 0; w < places.size(); w++) {
            v = least[i][w] < least[i][v] ? w : v;
        }
        cost = least[i][v];
        while (true) {
            int due = least[i][v];
            int m = i > 0 && read.charAt(i - 1) == places.get(v).base ? 0 : 1;
            String both = m == 0 ? "=" : "X";
            if (i > 0 && i - 1 + m == due) {
                walk.add(0, v);
                edits = "I".repeat(i - 1) + both + edits;
                return;
            }
            int before = i > 0 ? before(least[i - 1], v, due - m) : -1;
            if (before >= 0) {
                walk.add(0, v);
                edits = both + edits;
                i--;
                v = before;
                continue;
            }
            if (i > 0 && least[i - 1][v] + 1 == due) {
                edits = "I" + edits;
                i--;
                continue;
            }
            walk.add(0, v);
            before = before(least[i], v, due - 1);
            if (before < 0) {
                if (due != i + 1) {
                    throw new IllegalStateException("no rule holds");
                }
                edits = "I".repeat(i) + "D" + edits;
                return;
            }
            edits = "D" + edits;
            v = before;
        }
    }

    private int before(int[] row, int v, int due) {
        for (int u = 0; u < row.length; u++) {
            if (row[u] == due && followed(u, v)) {
                return u;
            }
        }
        return -1;
    }

    String walkText() {
        return String.join(" ", walk.stream().map(String::valueOf).toList());
    }

    private List<String> walkSides() {
        List<String> sides = new ArrayList<>();
        for (int k = 0; k < walk.size(); k++) {
            Place place = places.get(walk.get(k));
            Place former = k == 0 ? null : places.get(walk.get(k - 1));
            if (former == null || former.inSide + 1 == former.sideLength) {
                sides.add(place.side);
            }
        }
        return sides;
    }

    boolean lies(int path) {
        if (path >= paths.size()) {
            return false;
        }
        List<String> about = new ArrayList<>();
        for (String side : walkSides()) {
            about.add(0, turned(side));
        }
        List<String> steps = paths.get(path);
        return Collections.indexOfSubList(steps, walkSides()) >= 0
                || Collections.indexOfSubList(steps, about) >= 0;
    }

    String record() {
        String all = "";
        for (String side : walkSides()) {
            int last = side.length() - 1;
            all += (side.charAt(last) == '+' ? ">" : "<") + side.substring(0, last);
        }
        Place end = places.get(walk.get(walk.size() - 1));
        all += "\t" + places.get(walk.get(0)).inSide + "\t" + (end.sideLength - 1 - end.inSide) + "\t" + cost + "\t";
        Matcher run = Pattern.compile("(.)\\1*").matcher(edits);
        while (run.find()) {
            all += run.group().length() + run.group(1);
        }
        return all;
    }
}
