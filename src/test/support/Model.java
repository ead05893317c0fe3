import java.util.ArrayDeque;
import java.util.ArrayList;
import java.util.Deque;
import java.util.List;
import java.util.TreeSet;
import java.util.regex.Matcher;
import java.util.regex.Pattern;

/**
 * The document once more, in another way than the program (whole copies, regular expressions, the library's float
 * bits, the machine's own exceptions for the shelves), so that a slip in one of the two shows as a difference.
 */
final class Model {
    private static final Pattern TOKEN = Pattern.compile("[a-z]+|[0-9]+|[^ ]", Pattern.DOTALL);

    private record Way(int from, int to, int frames, boolean breaking, int condition, int p, int v) {
    }

    private record Told(List<List<Integer>> states, List<Way> ways, int mask, int weight) {
        static Told first() {
            return new Told(List.of(), List.of(), 0, 16);
        }
    }

    private record Blend(int way, int frames, int done, List<Float> begin) {
    }

    private record Lay(int in, int lasted, List<Float> shares, Blend blend) {
        static Lay first() {
            return new Lay(0, 0, wholly(0), null);
        }

        static List<Float> wholly(int state) {
            List<Float> shares = new ArrayList<>();
            for (int i = 0; i < 6; i++) {
                shares.add(i == state ? 1f : 0f);
            }
            return shares;
        }
    }

    private record Now(List<Lay> layers, List<Integer> numbers, TreeSet<Integer> triggers) {
        static Now first() {
            return new Now(List.of(Lay.first(), Lay.first()), List.of(0, 0, 0), new TreeSet<>());
        }
    }

    private static class Mark {
        int number;
    }

    private static final class Dot extends Mark {
    }

    private static final class Stroke extends Mark {
    }

    private static final class Fault extends RuntimeException {
        private static final long serialVersionUID = 1L;
        final int place;

        Fault(int place) {
            this.place = place;
        }
    }

    private String text = "";
    private Told told = Told.first();
    private Now now = Now.first();
    private final Deque<Now> past = new ArrayDeque<>();
    private final Now[] kept = new Now[2];
    private Mark[][] shelves = new Mark[3][];

    // ---- what is told

    int write(int letter) {
        if (letter < 0 || letter > 255) {
            return -3;
        }
        if (text.length() == 200) {
            return -5;
        }
        text += (char) letter;
        return text.length();
    }

    int erase() {
        int had = text.length();
        text = "";
        return had;
    }

    int fault() {
        try {
            read();
            return -1;
        } catch (Fault fault) {
            return fault.place;
        }
    }

    int figure() {
        try {
            Object[] read = read();
            told = (Told) read[0];
            text = "";
            now = Now.first();
            past.clear();
            kept[0] = null;
            kept[1] = null;
            shelves = new Mark[3][];
            return (int) read[1];
        } catch (Fault fault) {
            return -4;
        }
    }

    /** The tokens that are left while a text is read. */
    private final class Tokens {
        private final Matcher matcher = TOKEN.matcher(text);
        private boolean more = matcher.find();

        Fault faultHere() {
            return new Fault(more ? matcher.start() : text.length());
        }

        String see() {
            return more ? matcher.group() : "";
        }

        String take(String shape) {
            if (!more || !matcher.group().matches(shape)) {
                throw faultHere();
            }
            String taken = matcher.group();
            more = matcher.find();
            return taken;
        }

        int number(int... allowed) {
            if (more && matcher.group().matches("[0-9]{1,2}")) {
                int n = Integer.parseInt(matcher.group());
                for (int one : allowed) {
                    if (one == n) {
                        more = matcher.find();
                        return n;
                    }
                }
            }
            throw faultHere();
        }

        int signed() {
            if (see().equals("-")) {
                take("-");
                return -number(upTo(99));
            }
            return number(upTo(99));
        }
    }

    private static int[] upTo(int most) {
        int[] all = new int[most + 1];
        for (int i = 0; i <= most; i++) {
            all[i] = i;
        }
        return all;
    }

    private static int[] with(int[] row, int more) {
        int[] all = java.util.Arrays.copyOf(row, row.length + 1);
        all[row.length] = more;
        return all;
    }

    private Object[] read() {
        Tokens tokens = new Tokens();
        Told so = told;
        int clauses = 0;
        while (true) {
            so = clause(tokens, so);
            clauses++;
            if (!tokens.more) {
                return new Object[] {so, clauses};
            }
            if (clauses == 24) {
                throw tokens.faultHere();
            }
            tokens.take(";");
        }
    }

    private static <T> List<T> plus(List<T> list, T one) {
        List<T> longer = new ArrayList<>(list);
        longer.add(one);
        return longer;
    }

    private static Told clause(Tokens tokens, Told so) {
        String word = tokens.see();
        boolean full = word.equals("state") && so.states.size() == 6 || word.equals("way") && so.ways.size() == 12
            || word.equals("breaking") && so.ways.isEmpty();
        if (full) {
            throw tokens.faultHere();
        }
        tokens.take("figure|state|way|breaking|mask");
        switch (word) {
            case "figure":
                return Told.first();
            case "state":
                return new Told(plus(so.states, List.of(tokens.signed(), tokens.signed(), tokens.signed(), tokens.signed())),
                    so.ways, so.mask, so.weight);
            case "way":
                return new Told(so.states, plus(so.ways, way(tokens, so.states.size())), so.mask, so.weight);
            case "breaking":
                Way last = so.ways.get(so.ways.size() - 1);
                Way breaking = new Way(last.from, last.to, last.frames, true, last.condition, last.p, last.v);
                return new Told(so.states, plus(so.ways.subList(0, so.ways.size() - 1), breaking), so.mask, so.weight);
            default:
                return new Told(so.states, so.ways, tokens.number(upTo(15)), tokens.number(upTo(16)));
        }
    }

    private static Way way(Tokens tokens, int states) {
        int from = tokens.number(with(upTo(states - 1), 9));
        int to = tokens.number(upTo(states - 1));
        int frames = tokens.number(0, 1, 2, 4, 8, 16);
        switch (tokens.take("after|over|under|trigger")) {
            case "after":
                return new Way(from, to, frames, false, 0, 0, tokens.number(upTo(99)));
            case "over":
                return new Way(from, to, frames, false, 1, tokens.number(0, 1, 2), tokens.signed());
            case "under":
                return new Way(from, to, frames, false, 2, tokens.number(0, 1, 2), tokens.signed());
            default:
                return new Way(from, to, frames, false, 3, tokens.number(0, 1, 2), 0);
        }
    }

    private boolean no(int which, int many) {
        return which < 0 || which >= many;
    }

    private boolean noStates() {
        return told.states.isEmpty();
    }

    int value(int state, int limb) {
        return no(state, told.states.size()) || no(limb, 4) ? -2 : told.states.get(state).get(limb) + 100;
    }

    int way(int way, int what) {
        if (no(way, told.ways.size())) {
            return -2;
        }
        if (no(what, 7)) {
            return -3;
        }
        Way w = told.ways.get(way);
        return new int[] {w.from, w.to, w.frames, w.breaking ? 1 : 0, w.condition, w.p, w.v + 100}[what];
    }

    // ---- what is done

    private void did(Now next) {
        past.addLast(now);
        if (past.size() > 8) {
            past.removeFirst();
        }
        now = next;
    }

    int set(int number, int v) {
        if (no(number, 3)) {
            return -2;
        }
        if (v < -99 || v > 99) {
            return -3;
        }
        int was = now.numbers.get(number);
        if (was == v) {
            return -4;
        }
        List<Integer> numbers = new ArrayList<>(now.numbers);
        numbers.set(number, v);
        did(new Now(now.layers, numbers, now.triggers));
        return was + 100;
    }

    private Now withPulled(int trigger) {
        TreeSet<Integer> triggers = new TreeSet<>(now.triggers);
        triggers.add(trigger);
        return new Now(now.layers, now.numbers, triggers);
    }

    int pull(int trigger) {
        if (no(trigger, 3)) {
            return -2;
        }
        if (now.triggers.contains(trigger)) {
            return -4;
        }
        did(withPulled(trigger));
        return 1;
    }

    int step(int n) {
        if (n < 1 || n > 99) {
            return -3;
        }
        if (noStates()) {
            return -4;
        }
        Now next = now;
        for (int i = 0; i < n; i++) {
            next = frame(next);
        }
        did(next);
        return now.layers.get(0).in;
    }

    private Now frame(Now before) {
        TreeSet<Integer> triggers = new TreeSet<>(before.triggers);
        List<Lay> layers = new ArrayList<>();
        for (Lay lay : before.layers) {
            layers.add(blended(taken(lay, before.numbers, triggers)));
        }
        return new Now(layers, before.numbers, triggers);
    }

    private Lay taken(Lay lay, List<Integer> numbers, TreeSet<Integer> triggers) {
        if (lay.blend != null && !told.ways.get(lay.blend.way).breaking) {
            return lay;
        }
        for (int i = 0; i < told.ways.size(); i++) {
            Way w = told.ways.get(i);
            if ((w.from == 9 || w.from == lay.in) && w.to != lay.in && holds(w, lay.lasted, numbers, triggers)) {
                if (w.condition == 3) {
                    triggers.remove(w.p);
                }
                return w.frames == 0 ? new Lay(w.to, 0, Lay.wholly(w.to), null)
                    : new Lay(w.to, 0, lay.shares, new Blend(i, w.frames, 0, lay.shares));
            }
        }
        return lay;
    }

    private static boolean holds(Way w, int lasted, List<Integer> numbers, TreeSet<Integer> triggers) {
        return w.condition == 0 && lasted >= w.v || w.condition == 1 && numbers.get(w.p) > w.v
            || w.condition == 2 && numbers.get(w.p) < w.v || w.condition == 3 && triggers.contains(w.p);
    }

    private static Lay blended(Lay lay) {
        int lasted = lay.lasted == 9999 ? 9999 : lay.lasted + 1;
        Blend b = lay.blend;
        if (b == null) {
            return new Lay(lay.in, lasted, lay.shares, null);
        }
        int done = b.done + 1;
        if (done == b.frames) {
            return new Lay(lay.in, lasted, Lay.wholly(lay.in), null);
        }
        float u = (float) done / b.frames;
        List<Float> shares = new ArrayList<>();
        for (int i = 0; i < 6; i++) {
            float share = b.begin.get(i) * (1 - u);
            if (i == lay.in) {
                share += u;
            }
            shares.add(share);
        }
        return new Lay(lay.in, lasted, shares, new Blend(b.way, b.frames, done, b.begin));
    }

    int undo() {
        if (past.isEmpty()) {
            return -4;
        }
        now = past.removeLast();
        return past.size();
    }

    int keep(int k) {
        if (no(k, 2)) {
            return -2;
        }
        kept[k] = now;
        return noStates() ? -1 : now.layers.get(0).in;
    }

    int back(int k) {
        if (no(k, 2)) {
            return -2;
        }
        if (kept[k] == null) {
            return -4;
        }
        now = kept[k];
        past.clear();
        return noStates() ? -1 : now.layers.get(0).in;
    }

    // ---- how it stands

    int layer(int layer, int what) {
        if (no(layer, 2)) {
            return -2;
        }
        if (no(what, 6)) {
            return -3;
        }
        if (noStates()) {
            return -4;
        }
        Lay lay = now.layers.get(layer);
        Blend b = lay.blend == null ? new Blend(-1, 0, 0, null) : lay.blend;
        return new int[] {lay.in, lay.lasted, b.frames, b.done, lay.blend == null ? 1 : 0, b.way}[what];
    }

    int share(int layer, int state) {
        return no(layer, 2) || no(state, told.states.size()) ? -2 : (int) (now.layers.get(layer).shares.get(state) * 65536);
    }

    int bits(int layer, int state) {
        return no(layer, 2) || no(state, told.states.size()) ? -2
            : Float.floatToRawIntBits(now.layers.get(layer).shares.get(state));
    }

    private float limbOf(int layer, int limb) {
        float sum = 0;
        for (int i = 0; i < told.states.size(); i++) {
            float v = told.states.get(i).get(limb);
            v /= 4;
            sum += v * now.layers.get(layer).shares.get(i);
        }
        return sum;
    }

    private float theLimb(int limb) {
        if ((told.mask & 1 << limb) == 0) {
            return limbOf(0, limb);
        }
        float w = told.weight / 16f;
        return limbOf(0, limb) * (1 - w) + limbOf(1, limb) * w;
    }

    int limb(int limb) {
        return no(limb, 4) ? -2 : noStates() ? -4 : (int) (theLimb(limb) * 1024) + 1000000;
    }

    long exact(int limb) {
        return no(limb, 4) ? -2 : noStates() ? -4 : Double.doubleToRawLongBits(theLimb(limb));
    }

    int whole(int layer) {
        if (no(layer, 2)) {
            return -2;
        }
        if (noStates()) {
            return -4;
        }
        float sum = 0;
        for (int i = 0; i < told.states.size(); i++) {
            sum += now.layers.get(layer).shares.get(i);
        }
        return (int) ((sum - 1) * 16777216) + 100;
    }

    // ---- foretold

    private boolean leads(int from, int to) {
        return told.ways.stream().anyMatch(w -> (w.from == from || w.from == 9) && w.to == to);
    }

    int reach(int state) {
        if (no(state, told.states.size())) {
            return -2;
        }
        Deque<Integer> open = new ArrayDeque<>(List.of(state));
        TreeSet<Integer> seen = new TreeSet<>(open);
        while (!open.isEmpty()) {
            int at = open.removeFirst();
            for (int to = 0; to < told.states.size(); to++) {
                if (leads(at, to) && seen.add(to)) {
                    open.addLast(to);
                }
            }
        }
        return seen.stream().mapToInt(s -> 1 << s).sum();
    }

    int dead() {
        if (noStates()) {
            return -4;
        }
        int ends = 0;
        for (int from = 0; from < told.states.size(); from++) {
            boolean on = false;
            for (int to = 0; to < told.states.size(); to++) {
                on |= to != from && leads(from, to);
            }
            ends += on ? 0 : 1 << from;
        }
        return ends;
    }

    int until(int layer, int state) {
        if (no(layer, 2) || no(state, told.states.size())) {
            return -2;
        }
        Now then = now;
        int frames = 0;
        while (then.layers.get(layer).in != state) {
            if (++frames > 300) {
                return -1;
            }
            then = frame(then);
        }
        return frames;
    }

    int pulled(int layer, int trigger) {
        if (no(layer, 2) || no(trigger, 3)) {
            return -2;
        }
        return noStates() || now.triggers.contains(trigger) ? -4 : frame(withPulled(trigger)).layers.get(layer).in;
    }

    // ---- shelves: here the machine itself finds what is wrong, as the document tells it

    private interface Doing {
        int on(Mark[] shelf, Mark[] other);
    }

    private int found(int shelf, int other, Doing doing) {
        if (no(shelf, 3) || no(other, 3)) {
            return -2;
        }
        try {
            return doing.on(shelves[shelf], shelves[other]);
        } catch (NullPointerException e) {
            return -11;
        } catch (NegativeArraySizeException e) {
            return -12;
        } catch (ArrayIndexOutOfBoundsException e) {
            return -13;
        } catch (ArrayStoreException e) {
            return -14;
        }
    }

    private static Mark[] row(int sort, int n) {
        return sort == 0 ? new Mark[n] : sort == 1 ? new Dot[n] : new Stroke[n];
    }

    private static int seen(Mark mark) {
        return mark == null ? -15 : mark instanceof Dot ? mark.number : 1000 + mark.number;
    }

    int shelf(int shelf, int sort, int n) {
        if (!no(shelf, 3) && (no(sort, 3) || n > 8)) {
            return -3;
        }
        return found(shelf, shelf, (a, b) -> {
            shelves[shelf] = row(sort, n);
            return n;
        });
    }

    int lay(int shelf, int i, int sort, int v) {
        if (!no(shelf, 3) && (sort < 1 || sort > 2 || no(v, 1000))) {
            return -3;
        }
        Mark mark = sort == 1 ? new Dot() : new Stroke();
        mark.number = v;
        return found(shelf, shelf, (a, b) -> {
            a[i] = mark;
            return v;
        });
    }

    int look(int shelf, int i) {
        return found(shelf, shelf, (a, b) -> seen(a[i]));
    }

    int lift(int shelf, int i) {
        return found(shelf, shelf, (a, b) -> {
            int was = seen(a[i]);
            a[i] = null;
            return was;
        });
    }

    int likeness(int shelf, int other) {
        return found(shelf, other, (a, b) -> {
            shelves[shelf] = b.clone();
            return b.length;
        });
    }

    int hand(int shelf, int i, int other, int j) {
        return found(shelf, other, (a, b) -> {
            int lengths = a.length + b.length;
            Mark mark = a[i];
            Mark before = b[j];
            b[j] = mark;
            if (mark == null) {
                b[j] = before;
                return -15;
            }
            return lengths > 0 ? 1 : 0;
        });
    }

    int drop(int shelf) {
        return found(shelf, shelf, (a, b) -> {
            int had = a.length;
            shelves[shelf] = null;
            return had;
        });
    }

    int count(int what) {
        switch (what) {
            case 0: return told.states.size();
            case 1: return told.ways.size();
            case 2: return now.triggers.stream().mapToInt(t -> 1 << t).sum();
            case 3: case 4: case 5: return now.numbers.get(what - 3) + 100;
            case 6: return told.mask;
            case 7: return told.weight;
            case 8: return things();
            case 9: return past.size();
            case 10: return text.length();
            default: return -3;
        }
    }

    private int things() {
        int sum = 0;
        for (Mark[] shelf : shelves) {
            for (int i = 0; shelf != null && i < shelf.length; i++) {
                sum += shelf[i] == null ? 0 : 1;
            }
        }
        return sum;
    }
}
