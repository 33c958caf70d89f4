import java.util.ArrayList;
import java.util.List;

/** Makes up texts and reads, the same ones in every run of a test. */
public final class MadeUp {
    private static final String SPOILERS = "\t\n+-,*0MSLPHACGTabyz";

    private final int mostText;
    private long state;

    public MadeUp(long seed, int mostText) {
        this.state = seed;
        this.mostText = mostText;
    }

    /** A number from 0, below the bound. */
    public int below(int bound) {
        state = state * 6364136223846793005L + 1442695040888963407L;
        return (int) ((state >>> 33) % bound);
    }

    private String name() {
        String name = "";
        int length = below(4) == 0 ? 2 + below(2) : 1;
        for (int k = 0; k < length; k++) {
            name += "abyz0189".charAt(below(8));
        }
        return name;
    }

    private String bases(int count, int kinds) {
        String bases = "";
        for (int k = 0; k < count; k++) {
            bases += "ACGT".charAt(below(kinds));
        }
        return bases;
    }

    /** Lines are tried and kept if they keep the text good and short. */
    public String text() {
        int segments = 1 + below(8);
        int links = below(13);
        int paths = below(5);
        int kinds = 1 + below(4);
        String text = below(3) == 0 ? "H\tx\n" : "";
        int most = 1 + below(4);
        for (int k = 0; k < segments; k++) {
            text = kept(text, "S\t" + name() + "\t" + bases(1 + below(most), kinds) + "\n");
        }
        List<String> names = new ArrayList<>(new Model(text).segments.keySet());
        for (int k = 0; k < links; k++) {
            String from = names.get(below(names.size())) + "\t" + "+-".charAt(below(2));
            String to = names.get(below(names.size())) + "\t" + "+-".charAt(below(2));
            text = kept(text, "L\t" + from + "\t" + to + "\t0M\n");
        }
        for (int k = 0; k < paths; k++) {
            text = kept(text, "P\t" + name() + "\t" + steps(new Model(text)) + "\t*\n");
        }
        return text;
    }

    private String kept(String text, String line) {
        boolean fits = text.length() + line.length() <= mostText && new Model(text + line).firstBadLine == 0;
        return fits ? text + line : text;
    }

    private String steps(Model model) {
        List<String> names = new ArrayList<>(model.segments.keySet());
        String side = names.get(below(names.size())) + "+-".charAt(below(2));
        String steps = side;
        int count = below(8);
        for (int k = 0; k < count; k++) {
            List<String> next = new ArrayList<>();
            for (String name : names) {
                for (String turn : new String[] {"+", "-"}) {
                    if (model.mayFollow(side, name + turn)) {
                        next.add(name + turn);
                    }
                }
            }
            if (next.isEmpty()) {
                return steps;
            }
            side = next.get(below(next.size()));
            steps += "," + side;
        }
        return steps;
    }

    /** Now any bases, now those along a walk with some spoilt, put in, or left out in runs. */
    public String read(Model model) {
        if (below(4) == 0) {
            return bases(below(13), 4);
        }
        String read = "";
        int place = below(model.places.size());
        int length = below(13);
        int stretch = 3 + below(6);
        int gap = below(4);
        for (int k = 0; k < 30 && read.length() < length; k++) {
            int dice = below(12);
            boolean leftOut = k % (stretch + gap) >= stretch || dice == 0;
            read += leftOut ? "" : dice == 1 ? bases(1, 4) : "" + model.places.get(place).base();
            List<Integer> next = new ArrayList<>();
            for (int v = 0; v < model.places.size(); v++) {
                if (model.followed(place, v)) {
                    next.add(v);
                }
            }
            if (next.isEmpty()) {
                return read;
            }
            place = dice == 2 ? place : next.get(below(next.size()));
        }
        return read;
    }

    /** A text with a character or a line where it should not be. */
    public String spoilt(String text) {
        StringBuilder all = new StringBuilder(text);
        int at = all.length() == 0 ? 0 : below(all.length());
        switch (below(5)) {
            case 0:
                all.deleteCharAt(at);
                break;
            case 1:
                all.setCharAt(at, SPOILERS.charAt(below(SPOILERS.length())));
                break;
            case 2:
                all.insert(at, SPOILERS.charAt(below(SPOILERS.length())));
                break;
            case 3:
                all.setLength(at);
                break;
            default:
                swapLines(all);
        }
        return all.length() > 400 ? all.substring(0, 400) : all.toString();
    }

    private void swapLines(StringBuilder all) {
        String[] lines = all.toString().split("\n");
        int one = below(lines.length);
        int other = below(lines.length);
        String kept = lines[one];
        lines[one] = lines[other];
        lines[other] = kept;
        all.setLength(0);
        all.append(String.join("\n", lines)).append("\n");
    }
}
