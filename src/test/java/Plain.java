import java.util.ArrayDeque;
import java.util.ArrayList;
import java.util.Comparator;
import java.util.Deque;
import java.util.List;
import java.util.regex.Pattern;

/** The document once more, in the plainest way: everything is found anew at each call, by lists and searches. */
public final class Plain {
    private static final String NUMBER5 = "(0|[1-9][0-9]{0,4})";
    private static final String NUMBER4 = "(0|[1-9][0-9]{0,3})";
    private static final String ENTRY = "(m" + NUMBER5 + "?|[0-9]-[0-9]:-?" + NUMBER4 + "/[1-9][0-9]?)";
    private static final Pattern BOOK = Pattern.compile(ENTRY + "(;" + ENTRY + ")*");
    private static final String[] ENDS = {"", "m", "0-1:0/1", "-1:0/1", "1:0/1", ":0/1", "0/1", "/1", "1"};

    record Leg(int from, int to, int difference, int length) {
        int other(int mark) {
            return mark == from ? to : from;
        }
    }

    record Step(int leg, int sign) {
    }

    record Loop(int closing, List<Step> steps) {
    }

    record State(List<Integer> known, List<Leg> legs, List<Integer> settings) {
    }

    private List<Integer> known = new ArrayList<>();
    private List<Leg> legs = new ArrayList<>();
    private List<Integer> settings = new ArrayList<>(List.of(10, 2, 5));
    private String buffer = "";
    private final Deque<State> saved = new ArrayDeque<>();

    private State state() {
        return new State(new ArrayList<>(known), new ArrayList<>(legs), new ArrayList<>(settings));
    }

    private void save() {
        saved.addLast(state());
        if (saved.size() > 6) {
            saved.removeFirst();
        }
    }

    private void needMark(int mark) {
        if (mark < 0 || mark >= known.size()) {
            throw new IndexOutOfBoundsException();
        }
    }

    private void needLeg(int leg) {
        if (leg < 0 || leg >= legs.size()) {
            throw new IndexOutOfBoundsException();
        }
    }

    private static void needRange(int value, int least, int most) {
        if (value < least || value > most) {
            throw new IllegalArgumentException();
        }
    }

    private static void needState(boolean holds) {
        if (!holds) {
            throw new IllegalStateException();
        }
    }

    public int addMark(int height) {
        needRange(height, -1, 99999);
        needState(known.size() < 10);
        save();
        known.add(height);
        return known.size() - 1;
    }

    public int know(int mark, int height) {
        needMark(mark);
        needRange(height, -1, 99999);
        save();
        return known.set(mark, height);
    }

    public int accept(int mark) {
        needMark(mark);
        needState(base(mark) >= 0);
        int height = height(mark);
        needState(height >= 0 && height <= 99999);
        save();
        known.set(mark, height);
        return height;
    }

    private void checkLeg(int from, int to, int difference, int length) {
        needMark(from);
        needMark(to);
        if (from == to) {
            throw new IllegalArgumentException();
        }
        needRange(difference, -9999, 9999);
        needRange(length, 1, 99);
        needState(legs.size() < 20);
    }

    public int addLeg(int from, int to, int difference, int length) {
        checkLeg(from, to, difference, length);
        save();
        legs.add(new Leg(from, to, difference, length));
        return legs.size() - 1;
    }

    public int measure(int leg, int difference) {
        needLeg(leg);
        needRange(difference, -9999, 9999);
        save();
        int before = misses();
        Leg l = legs.get(leg);
        legs.set(leg, new Leg(l.from, l.to, difference, l.length));
        return before - misses() + 1000000;
    }

    public int turn(int leg) {
        needLeg(leg);
        save();
        Leg l = legs.get(leg);
        legs.set(leg, new Leg(l.to, l.from, -l.difference, l.length));
        return l.to;
    }

    public int removeLeg(int leg) {
        needLeg(leg);
        save();
        legs.remove(leg);
        return loops().size();
    }

    public int set(int setting, int value) {
        setting(setting);
        needRange(value, 0, setting == 2 ? 999 : 99);
        save();
        return settings.set(setting, value);
    }

    public int append(int code) {
        needRange(code, 33, 126);
        needState(buffer.length() < 60);
        buffer += (char) code;
        return buffer.length();
    }

    public int clearBuffer() {
        int length = buffer.length();
        buffer = "";
        return length;
    }

    private static boolean canBegin(String start) {
        for (String end : ENDS) {
            if (BOOK.matcher(start + end).matches()) {
                return true;
            }
        }
        return false;
    }

    public int firstError() {
        int good = 0;
        while (good < buffer.length() && canBegin(buffer.substring(0, good + 1))) {
            good++;
        }
        return good;
    }

    public int book() {
        if (!BOOK.matcher(buffer).matches()) {
            throw new IllegalArgumentException();
        }
        save();
        int done = 0;
        try {
            for (String entry : buffer.split(";")) {
                doEntry(entry);
                done++;
            }
        } catch (IllegalArgumentException | IllegalStateException | IndexOutOfBoundsException e) {
            // the entries behind it are left out
        }
        buffer = "";
        return done;
    }

    private void doEntry(String entry) {
        if (entry.startsWith("m")) {
            needState(known.size() < 10);
            known.add(entry.length() == 1 ? -1 : Integer.parseInt(entry.substring(1)));
            return;
        }
        String[] parts = entry.substring(4).split("/");
        Leg l = new Leg(entry.charAt(0) - '0', entry.charAt(2) - '0',
                Integer.parseInt(parts[0]), Integer.parseInt(parts[1]));
        checkLeg(l.from, l.to, l.difference, l.length);
        legs.add(l);
    }

    public int undo() {
        needState(!saved.isEmpty());
        restore(saved.removeLast());
        return saved.size();
    }

    private void restore(State s) {
        known = s.known;
        legs = s.legs;
        settings = s.settings;
    }

    // ---- what follows

    private List<Integer> tree() {
        List<Integer> tree = new ArrayList<>();
        for (int length = 1; length <= 99; length++) {
            for (int leg = 0; leg < legs.size(); leg++) {
                Leg l = legs.get(leg);
                if (l.length == length && way(tree, l.from, l.to, -1) == null) {
                    tree.add(leg);
                }
            }
        }
        return tree;
    }

    /** Null if there is none. */
    private List<Step> way(List<Integer> tree, int from, int to, int butFor) {
        if (from == to) {
            return new ArrayList<>();
        }
        for (int leg : tree) {
            Leg l = legs.get(leg);
            if (leg != butFor && (l.from == from || l.to == from)) {
                List<Step> rest = way(tree, l.other(from), to, leg);
                if (rest != null) {
                    rest.add(0, new Step(leg, l.from == from ? 1 : -1));
                    return rest;
                }
            }
        }
        return null;
    }

    private List<Step> treeWay(int from, int to) {
        return way(tree(), from, to, -1);
    }

    private List<Loop> loops() {
        List<Integer> tree = tree();
        List<Loop> loops = new ArrayList<>();
        for (int leg = 0; leg < legs.size(); leg++) {
            if (!tree.contains(leg)) {
                List<Step> steps = way(tree, legs.get(leg).to, legs.get(leg).from, -1);
                steps.add(0, new Step(leg, 1));
                loops.add(new Loop(leg, steps));
            }
        }
        return loops;
    }

    private int sum(List<Step> steps, int[] corrections) {
        int sum = 0;
        for (Step s : steps) {
            sum += s.sign * (legs.get(s.leg).difference + corrections[s.leg]);
        }
        return sum;
    }

    private int length(List<Step> steps) {
        return steps.stream().mapToInt(s -> legs.get(s.leg).length).sum();
    }

    private int miss(Loop loop) {
        return sum(loop.steps, new int[legs.size()]);
    }

    private int misses() {
        return loops().stream().mapToInt(l -> Math.abs(miss(l))).sum();
    }

    private int allowed(Loop loop) {
        return settings.get(0) * length(loop.steps) / 10 + settings.get(1);
    }

    private boolean bad(Loop loop) {
        return Math.abs(miss(loop)) > allowed(loop);
    }

    private static boolean has(Loop loop, int leg) {
        return loop.steps.stream().anyMatch(s -> s.leg == leg);
    }

    private int[] corrections(List<Integer> spreadMisses) {
        int[] corrections = new int[legs.size()];
        boolean[] met = new boolean[legs.size()];
        for (Loop loop : loops()) {
            int miss = sum(loop.steps, corrections);
            spreadMisses.add(Math.abs(miss));
            List<Step> free = new ArrayList<>(loop.steps.stream().filter(s -> !met[s.leg]).toList());
            long total = length(free);
            long size = Math.abs(miss);
            long left = size;
            for (Step s : free) {
                long share = size * legs.get(s.leg).length / total;
                left -= share;
                corrections[s.leg] -= s.sign * Integer.signum(miss) * (int) share;
                met[s.leg] = true;
            }
            Comparator<Step> byRest = Comparator.comparingLong(s -> -(size * legs.get(s.leg).length % total));
            free.sort(byRest.thenComparingInt(Step::leg));
            for (Step s : free.subList(0, (int) left)) {
                corrections[s.leg] -= s.sign * Integer.signum(miss);
            }
        }
        return corrections;
    }

    private int[] corrections() {
        return corrections(new ArrayList<>());
    }

    private int rise(int from, int to) {
        return sum(treeWay(from, to), corrections());
    }

    private int agreeing(int mark) {
        if (known.get(mark) < 0) {
            return -1;
        }
        int sum = 0;
        for (int other = 0; other < known.size(); other++) {
            if (other != mark && known.get(other) >= 0 && treeWay(mark, other) != null
                    && Math.abs(known.get(other) - known.get(mark) - rise(mark, other)) <= settings.get(2)) {
                sum++;
            }
        }
        return sum;
    }

    private int base(int mark) {
        int best = -1;
        int most = -1;
        for (int other = 0; other < known.size(); other++) {
            if (treeWay(mark, other) != null && agreeing(other) > most) {
                best = other;
                most = agreeing(other);
            }
        }
        return best;
    }

    private int height(int mark) {
        return base(mark) < 0 ? -1000000 : known.get(base(mark)) + rise(base(mark), mark);
    }

    private int net(int mark) {
        int other = 0;
        while (treeWay(mark, other) == null) {
            other++;
        }
        return other;
    }

    private int moved(int mark) {
        if (known.get(mark) < 0) {
            return 0;
        }
        int risen = height(mark) - known.get(mark);
        return risen < -settings.get(2) ? 1 : risen > settings.get(2) ? 2 : 0;
    }

    // ---- looks

    public int mark(int mark, int what) {
        needMark(mark);
        needRange(what, 0, 6);
        switch (what) {
            case 0: return known.get(mark);
            case 1: return height(mark);
            case 2: return net(mark);
            case 3: return moved(mark);
            case 4: return (int) legs.stream().filter(l -> l.from == mark || l.to == mark).count();
            case 5: return base(mark);
            default: return agreeing(mark);
        }
    }

    public int leg(int leg, int what) {
        needLeg(leg);
        needRange(what, 0, 9);
        Leg l = legs.get(leg);
        List<Loop> with = loops().stream().filter(loop -> has(loop, leg)).toList();
        switch (what) {
            case 0: return l.from;
            case 1: return l.to;
            case 2: return l.length;
            case 3: return l.difference + 100000;
            case 4: return l.difference + corrections()[leg] + 100000;
            case 5: return corrections()[leg] + 100000;
            case 6: return tree().contains(leg) ? 1 : 0;
            case 7: return loops().stream().map(Loop::closing).toList().indexOf(leg);
            case 8: return with.size();
            default: return (int) with.stream().filter(this::bad).count();
        }
    }

    public int loop(int loop, int what) {
        if (loop < 0 || loop >= loops().size()) {
            throw new IndexOutOfBoundsException();
        }
        needRange(what, 0, 7);
        Loop l = loops().get(loop);
        switch (what) {
            case 0: return l.closing;
            case 1: return l.steps.stream().mapToInt(s -> 1 << s.leg).sum();
            case 2: return length(l.steps);
            case 3: return Math.abs(miss(l));
            case 4: return miss(l) == 0 ? 0 : miss(l) > 0 ? 1 : 2;
            case 5: return allowed(l);
            case 6: return bad(l) ? 1 : 0;
            default: {
                List<Integer> spreadMisses = new ArrayList<>();
                corrections(spreadMisses);
                return spreadMisses.get(loop);
            }
        }
    }

    public int way(int from, int to, int what) {
        needMark(from);
        needMark(to);
        needRange(what, 0, 3);
        List<Step> way = treeWay(from, to);
        if (way == null) {
            return -1;
        }
        switch (what) {
            case 0: return way.size();
            case 1: return length(way);
            case 2: return sum(way, corrections()) + 1000000;
            default: return way.isEmpty() ? -1 : way.get(0).leg;
        }
    }

    public int count(int what) {
        needRange(what, 0, 10);
        List<Integer> marks = new ArrayList<>();
        for (int i = 0; i < known.size(); i++) {
            marks.add(i);
        }
        switch (what) {
            case 0: return known.size();
            case 1: return legs.size();
            case 2: return loops().size();
            case 3: return (int) loops().stream().filter(this::bad).count();
            case 4: return (int) marks.stream().map(this::net).distinct().count();
            case 5: return (int) marks.stream().filter(m -> moved(m) != 0).count();
            case 6: return misses();
            case 7: return java.util.Arrays.stream(corrections()).map(Math::abs).sum();
            case 8: return (int) marks.stream().filter(m -> base(m) >= 0).count();
            case 9: return legs.stream().mapToInt(Leg::length).sum();
            default: return saved.size();
        }
    }

    public int setting(int setting) {
        if (setting < 0 || setting > 2) {
            throw new IndexOutOfBoundsException();
        }
        return settings.get(setting);
    }

    public int worst() {
        List<Loop> loops = loops();
        int worst = -1;
        int most = Integer.MIN_VALUE;
        for (int i = 0; i < loops.size(); i++) {
            int above = Math.abs(miss(loops.get(i))) - allowed(loops.get(i));
            if (above > most) {
                worst = i;
                most = above;
            }
        }
        return worst;
    }

    public int suspect() {
        List<Loop> bad = loops().stream().filter(this::bad).toList();
        List<Loop> good = loops().stream().filter(l -> !bad(l)).toList();
        if (bad.isEmpty()) {
            return -1;
        }
        List<Integer> suspects = new ArrayList<>();
        for (int leg = 0; leg < legs.size(); leg++) {
            int number = leg;
            if (bad.stream().allMatch(l -> has(l, number))) {
                suspects.add(leg);
            }
        }
        Comparator<Integer> order = Comparator.comparingLong(leg -> good.stream().filter(l -> has(l, leg)).count());
        order = order.thenComparing(leg -> -legs.get(leg).length).thenComparing(leg -> leg);
        return suspects.stream().min(order).orElse(-1);
    }

    // ---- what would be

    public int without(int leg, int what) {
        needLeg(leg);
        needRange(what, 0, 3);
        State now = state();
        legs.remove(leg);
        int[] counts = {2, 3, 4, 6};
        int answer = count(counts[what]);
        restore(now);
        return answer;
    }

    public int fitting(int leg) {
        needLeg(leg);
        State now = state();
        Leg l = legs.remove(leg);
        int answer = way(l.from, l.to, 2);
        restore(now);
        return answer;
    }

    public double goodShare() {
        return loops().isEmpty() ? 1.0 : (count(2) - count(3)) / (double) count(2);
    }

    public long digest() {
        List<Long> values = new ArrayList<>();
        for (int i = 0; i <= 10; i++) {
            values.add((long) count(i));
        }
        for (int i = 0; i <= 2; i++) {
            values.add((long) setting(i));
        }
        for (int m = 0; m < known.size(); m++) {
            for (int i = 0; i <= 6; i++) {
                values.add((long) mark(m, i));
            }
            for (int i = 0; i <= 3; i++) {
                values.add((long) way(0, m, i));
            }
        }
        for (int l = 0; l < legs.size(); l++) {
            for (int i = 0; i <= 9; i++) {
                values.add((long) leg(l, i));
            }
            for (int i = 0; i <= 3; i++) {
                values.add((long) without(l, i));
            }
            values.add((long) fitting(l));
        }
        for (int l = 0; l < count(2); l++) {
            for (int i = 0; i <= 7; i++) {
                values.add((long) loop(l, i));
            }
        }
        values.add((long) worst());
        values.add((long) suspect());
        values.add(Double.doubleToLongBits(goodShare()));
        values.add((long) buffer.length());
        buffer.chars().forEach(c -> values.add((long) c));
        long hash = 2741;
        for (long v : values) {
            hash = 31 * hash + v;
        }
        return hash;
    }
}
