/** A levelling survey: marks, legs between them, and what follows from them. */
public final class LevelLoops {

    public static final int NONE = -1;
    public static final int NO_HEIGHT = -1000000;

    private static final int MOST_MARKS = 10;
    private static final int MOST_LEGS = 20;
    private static final int MOST_SAVED = 6;
    private static final int MOST_CHARACTERS = 60;
    private static final int MOST_KNOWN = 99999;
    private static final int MOST_DIFFERENCE = 9999;
    private static final int MOST_LENGTH = 99;
    private static final int SETTINGS = 3;
    private static final int BY_LENGTH = 0;
    private static final int BESIDES = 1;
    private static final int EXACTNESS = 2;
    private static final int MARK_PROPERTIES = 7;
    private static final int LEG_PROPERTIES = 10;
    private static final int LOOP_PROPERTIES = 8;
    private static final int WAY_PROPERTIES = 4;
    private static final int COUNTS = 11;
    private static final int WOULD_BE = 4;
    /** What is added to a difference of a leg, so that it can be told without a sign. */
    private static final int LEG_SHIFT = 100000;
    /** The same for a way, and for misses that become less. */
    private static final int WAY_SHIFT = 1000000;
    private static final long DIGEST_START = 2741;

    private final Survey survey;
    private final Study study;
    /** The survey without one leg: made anew for each question what would be. */
    private final Survey lesser;
    private final Study lesserStudy;
    private final History history;
    private final Text text;
    private final Reader reader;

    public LevelLoops() {
        Survey whole = new Survey();
        Survey part = new Survey();
        survey = whole;
        study = new Study(whole);
        lesser = part;
        lesserStudy = new Study(part);
        history = new History();
        text = new Text();
        reader = new Reader();
    }

    // ---- marks, legs

    public int addMark(int known) throws IllegalArgumentException, IllegalStateException {
        if (!isKnownOrNone(known)) {
            throw new IllegalArgumentException();
        }
        if (survey.marks >= MOST_MARKS) {
            throw new IllegalStateException();
        }
        history.save(survey);
        survey.putMark(known);
        study.renew();
        return survey.marks - 1;
    }

    public int know(int mark, int known) throws IndexOutOfBoundsException, IllegalArgumentException {
        if (!survey.hasMark(mark)) {
            throw new IndexOutOfBoundsException();
        }
        if (!isKnownOrNone(known)) {
            throw new IllegalArgumentException();
        }
        history.save(survey);
        int previous = survey.known[mark];
        survey.known[mark] = known;
        study.renew();
        return previous;
    }

    public int accept(int mark) throws IndexOutOfBoundsException, IllegalStateException {
        if (!survey.hasMark(mark)) {
            throw new IndexOutOfBoundsException();
        }
        if (!study.heights.isThere(mark)) {
            throw new IllegalStateException();
        }
        int height = study.heights.of(mark);
        if (height < 0 || height > MOST_KNOWN) {
            throw new IllegalStateException();
        }
        history.save(survey);
        survey.known[mark] = height;
        study.renew();
        return height;
    }

    public int addLeg(int from, int to, int difference, int length)
            throws IndexOutOfBoundsException, IllegalArgumentException, IllegalStateException {
        if (!survey.hasMark(from) || !survey.hasMark(to)) {
            throw new IndexOutOfBoundsException();
        }
        if (from == to || !isDifference(difference) || !isLength(length)) {
            throw new IllegalArgumentException();
        }
        if (survey.legs >= MOST_LEGS) {
            throw new IllegalStateException();
        }
        history.save(survey);
        survey.putLeg(from, to, difference, length);
        study.renew();
        return survey.legs - 1;
    }

    public int measure(int leg, int difference) throws IndexOutOfBoundsException, IllegalArgumentException {
        if (!survey.hasLeg(leg)) {
            throw new IndexOutOfBoundsException();
        }
        if (!isDifference(difference)) {
            throw new IllegalArgumentException();
        }
        history.save(survey);
        int before = study.loops.missesTogether();
        survey.difference[leg] = difference;
        study.renew();
        return before - study.loops.missesTogether() + WAY_SHIFT;
    }

    public int turn(int leg) throws IndexOutOfBoundsException {
        if (!survey.hasLeg(leg)) {
            throw new IndexOutOfBoundsException();
        }
        history.save(survey);
        survey.turnAround(leg);
        study.renew();
        return survey.from[leg];
    }

    public int removeLeg(int leg) throws IndexOutOfBoundsException {
        if (!survey.hasLeg(leg)) {
            throw new IndexOutOfBoundsException();
        }
        history.save(survey);
        survey.dropLeg(leg);
        study.renew();
        return study.loops.size;
    }

    public int set(int setting, int value) throws IndexOutOfBoundsException, IllegalArgumentException {
        if (!isSetting(setting)) {
            throw new IndexOutOfBoundsException();
        }
        if (value < 0 || value > (setting == EXACTNESS ? 999 : 99)) {
            throw new IllegalArgumentException();
        }
        history.save(survey);
        int previous = survey.settings[setting];
        survey.settings[setting] = value;
        study.renew();
        return previous;
    }

    // ---- texts

    public int append(int code) throws IllegalArgumentException, IllegalStateException {
        if (code < 33 || code > 126) {
            throw new IllegalArgumentException();
        }
        if (text.size >= MOST_CHARACTERS) {
            throw new IllegalStateException();
        }
        text.put(code);
        return text.size;
    }

    public int clearBuffer() {
        int size = text.size;
        text.size = 0;
        return size;
    }

    public int firstError() {
        return readThrough();
    }

    public int book() throws IllegalArgumentException {
        if (readThrough() < text.size || !reader.isAtEntryEnd()) {
            throw new IllegalArgumentException();
        }
        history.save(survey);
        int done = doEntries();
        text.size = 0;
        study.renew();
        return done;
    }

    public int undo() throws IllegalStateException {
        if (history.size == 0) {
            throw new IllegalStateException();
        }
        history.restore(survey);
        study.renew();
        return history.size;
    }

    // ---- looks; nothing is changed

    public int mark(int mark, int what) throws IndexOutOfBoundsException, IllegalArgumentException {
        if (!survey.hasMark(mark)) {
            throw new IndexOutOfBoundsException();
        }
        if (what < 0 || what >= MARK_PROPERTIES) {
            throw new IllegalArgumentException();
        }
        return study.ofMark(mark, what);
    }

    public int leg(int leg, int what) throws IndexOutOfBoundsException, IllegalArgumentException {
        if (!survey.hasLeg(leg)) {
            throw new IndexOutOfBoundsException();
        }
        if (what < 0 || what >= LEG_PROPERTIES) {
            throw new IllegalArgumentException();
        }
        return study.ofLeg(leg, what);
    }

    public int loop(int loop, int what) throws IndexOutOfBoundsException, IllegalArgumentException {
        if (loop < 0 || loop >= study.loops.size) {
            throw new IndexOutOfBoundsException();
        }
        if (what < 0 || what >= LOOP_PROPERTIES) {
            throw new IllegalArgumentException();
        }
        return study.loops.ofLoop(loop, what);
    }

    public int way(int from, int to, int what) throws IndexOutOfBoundsException, IllegalArgumentException {
        if (!survey.hasMark(from) || !survey.hasMark(to)) {
            throw new IndexOutOfBoundsException();
        }
        if (what < 0 || what >= WAY_PROPERTIES) {
            throw new IllegalArgumentException();
        }
        return study.ofWay(from, to, what);
    }

    public int count(int what) throws IllegalArgumentException {
        if (what < 0 || what >= COUNTS) {
            throw new IllegalArgumentException();
        }
        return counted(what);
    }

    public int setting(int setting) throws IndexOutOfBoundsException {
        if (!isSetting(setting)) {
            throw new IndexOutOfBoundsException();
        }
        return survey.settings[setting];
    }

    public int worst() {
        return study.loops.worstLoop();
    }

    public int suspect() {
        return study.loops.suspectLeg();
    }

    // ---- what would be; nothing is changed

    public int without(int leg, int what) throws IndexOutOfBoundsException, IllegalArgumentException {
        if (!survey.hasLeg(leg)) {
            throw new IndexOutOfBoundsException();
        }
        if (what < 0 || what >= WOULD_BE) {
            throw new IllegalArgumentException();
        }
        thinkAway(leg);
        return wouldBe(what);
    }

    public int fitting(int leg) throws IndexOutOfBoundsException {
        if (!survey.hasLeg(leg)) {
            throw new IndexOutOfBoundsException();
        }
        thinkAway(leg);
        return wouldFit(leg);
    }

    public double goodShare() {
        return study.loops.shareOfGood();
    }

    public long digest() {
        long hash = DIGEST_START;
        for (int what = 0; what < COUNTS; what++) {
            hash = 31 * hash + counted(what);
        }
        for (int setting = 0; setting < SETTINGS; setting++) {
            hash = 31 * hash + survey.settings[setting];
        }
        for (int mark = 0; mark < survey.marks; mark++) {
            hash = withMark(hash, mark);
        }
        for (int leg = 0; leg < survey.legs; leg++) {
            thinkAway(leg);
            hash = withLeg(hash, leg);
        }
        for (int loop = 0; loop < study.loops.size; loop++) {
            hash = withLoop(hash, loop);
        }
        hash = 31 * hash + study.loops.worstLoop();
        hash = 31 * hash + study.loops.suspectLeg();
        hash = 31 * hash + bitsOf(study.loops.shareOfGood());
        return withText(hash);
    }

    // ---- the digest's parts

    private long withMark(long start, int mark) {
        long hash = start;
        for (int what = 0; what < MARK_PROPERTIES; what++) {
            hash = 31 * hash + study.ofMark(mark, what);
        }
        for (int what = 0; what < WAY_PROPERTIES; what++) {
            hash = 31 * hash + study.ofWay(0, mark, what);
        }
        return hash;
    }

    /** To be asked behind thinkAway of the same leg. */
    private long withLeg(long start, int leg) {
        long hash = start;
        for (int what = 0; what < LEG_PROPERTIES; what++) {
            hash = 31 * hash + study.ofLeg(leg, what);
        }
        for (int what = 0; what < WOULD_BE; what++) {
            hash = 31 * hash + wouldBe(what);
        }
        return 31 * hash + wouldFit(leg);
    }

    private long withLoop(long start, int loop) {
        long hash = start;
        for (int what = 0; what < LOOP_PROPERTIES; what++) {
            hash = 31 * hash + study.loops.ofLoop(loop, what);
        }
        return hash;
    }

    private long withText(long start) {
        long hash = 31 * start + text.size;
        for (int i = 0; i < text.size; i++) {
            hash = 31 * hash + text.codes[i];
        }
        return hash;
    }

    /** The bits of a share, 0 to 1: reckoned, since Double.doubleToLongBits is not in the language. */
    private static long bitsOf(double share) {
        if (share <= 0.0) {
            return 0;
        }
        double scaled = share;
        long exponent = 1023;
        while (scaled < 1.0 && exponent > 1) {
            scaled = scaled * 2.0;
            exponent--;
        }
        long fraction = (long) ((scaled - 1.0) * (double) (1L << 52));
        return (exponent << 52) | fraction;
    }

    // ---- helpers of the calls

    private int counted(int what) {
        switch (what) {
            case 0: return survey.marks;
            case 1: return survey.legs;
            case 2: return study.loops.size;
            case 3: return study.loops.howManyBad();
            case 4: return study.tree.howManyNets();
            case 5: return study.heights.howManyMoved();
            case 6: return study.loops.missesTogether();
            case 7: return study.loops.correctionsTogether();
            case 8: return study.heights.howManyThere();
            case 9: return survey.lengthOf(survey.allLegs());
            default: return history.size;
        }
    }

    private void thinkAway(int leg) {
        lesser.copy(survey);
        lesser.dropLeg(leg);
        lesserStudy.renew();
    }

    /** To be asked behind thinkAway. */
    private int wouldBe(int what) {
        switch (what) {
            case 0: return lesserStudy.loops.size;
            case 1: return lesserStudy.loops.howManyBad();
            case 2: return lesserStudy.tree.howManyNets();
            default: return lesserStudy.loops.missesTogether();
        }
    }

    /** To be asked behind thinkAway of the same leg. */
    private int wouldFit(int leg) {
        return lesserStudy.ofWay(survey.from[leg], survey.to[leg], 2);
    }

    /** Leaves the reader behind the last character that is no error; answers the index of the first that is one. */
    private int readThrough() {
        reader.start();
        for (int i = 0; i < text.size; i++) {
            if (!reader.take(text.codes[i])) {
                return i;
            }
        }
        return text.size;
    }

    private int doEntries() {
        int done = 0;
        reader.start();
        for (int i = 0; i < text.size; i++) {
            reader.take(text.codes[i]);
            if (i + 1 == text.size || text.codes[i + 1] == ';') {
                if (!doEntry()) {
                    return done;
                }
                done++;
            }
        }
        return done;
    }

    private boolean doEntry() {
        if (reader.isAtMark()) {
            return survey.putMark(reader.known());
        }
        if (!survey.hasMark(reader.from) || !survey.hasMark(reader.to) || reader.from == reader.to) {
            return false;
        }
        return survey.putLeg(reader.from, reader.to, reader.difference, reader.number);
    }

    private static boolean isKnownOrNone(int known) {
        return known == NONE || (known >= 0 && known <= MOST_KNOWN);
    }

    private static boolean isDifference(int difference) {
        return difference >= -MOST_DIFFERENCE && difference <= MOST_DIFFERENCE;
    }

    private static boolean isLength(int length) {
        return length >= 1 && length <= MOST_LENGTH;
    }

    private static boolean isSetting(int setting) {
        return setting >= 0 && setting < SETTINGS;
    }

    private static boolean isIn(int mask, int index) {
        return ((mask >> index) & 1) != 0;
    }

    // ---- the classes inside

    /** What is told by the surveyor, and what undo brings back. */
    private static final class Survey {
        int marks;
        int legs;
        final int[] known = new int[MOST_MARKS];
        final int[] from = new int[MOST_LEGS];
        final int[] to = new int[MOST_LEGS];
        final int[] difference = new int[MOST_LEGS];
        final int[] length = new int[MOST_LEGS];
        final int[] settings = new int[SETTINGS];

        Survey() {
            settings[BY_LENGTH] = 10;
            settings[BESIDES] = 2;
            settings[EXACTNESS] = 5;
        }

        void copy(Survey other) {
            marks = other.marks;
            legs = other.legs;
            System.arraycopy(other.known, 0, known, 0, MOST_MARKS);
            System.arraycopy(other.from, 0, from, 0, MOST_LEGS);
            System.arraycopy(other.to, 0, to, 0, MOST_LEGS);
            System.arraycopy(other.difference, 0, difference, 0, MOST_LEGS);
            System.arraycopy(other.length, 0, length, 0, MOST_LEGS);
            System.arraycopy(other.settings, 0, settings, 0, SETTINGS);
        }

        boolean hasMark(int mark) {
            return mark >= 0 && mark < marks;
        }

        boolean hasLeg(int leg) {
            return leg >= 0 && leg < legs;
        }

        /** Answers whether there was room. */
        boolean putMark(int height) {
            if (marks >= MOST_MARKS) {
                return false;
            }
            known[marks] = height;
            marks++;
            return true;
        }

        /** Answers whether there was room. */
        boolean putLeg(int former, int latter, int rise, int hundreds) {
            if (legs >= MOST_LEGS) {
                return false;
            }
            from[legs] = former;
            to[legs] = latter;
            difference[legs] = rise;
            length[legs] = hundreds;
            legs++;
            return true;
        }

        void turnAround(int leg) {
            int former = from[leg];
            from[leg] = to[leg];
            to[leg] = former;
            difference[leg] = -difference[leg];
        }

        void dropLeg(int leg) {
            for (int i = leg; i + 1 < legs; i++) {
                from[i] = from[i + 1];
                to[i] = to[i + 1];
                difference[i] = difference[i + 1];
                length[i] = length[i + 1];
            }
            legs--;
        }

        int allLegs() {
            return (1 << legs) - 1;
        }

        int lengthOf(int mask) {
            int sum = 0;
            for (int leg = 0; leg < legs; leg++) {
                if (isIn(mask, leg)) {
                    sum += length[leg];
                }
            }
            return sum;
        }

        int legsAt(int mark) {
            int sum = 0;
            for (int leg = 0; leg < legs; leg++) {
                if (from[leg] == mark || to[leg] == mark) {
                    sum++;
                }
            }
            return sum;
        }
    }

    /** The saved states, the oldest one first. */
    private static final class History {
        int size;
        private final Survey[] saved = new Survey[MOST_SAVED];

        History() {
            for (int i = 0; i < MOST_SAVED; i++) {
                saved[i] = new Survey();
            }
        }

        void save(Survey now) {
            if (size >= MOST_SAVED) {
                dropOldest();
            }
            Survey row = saved[size];
            if (row != null) {
                row.copy(now);
                size++;
            }
        }

        void restore(Survey now) {
            if (size == 0) {
                return;
            }
            Survey row = saved[size - 1];
            if (row != null) {
                now.copy(row);
                size--;
            }
        }

        /** The oldest row comes to the end, to be written over. */
        private void dropOldest() {
            Survey oldest = saved[0];
            for (int i = 1; i < MOST_SAVED; i++) {
                saved[i - 1] = saved[i];
            }
            saved[MOST_SAVED - 1] = oldest;
            size = MOST_SAVED - 1;
        }
    }

    /** All that follows from a survey; to be renewed behind each change of it. */
    private static final class Study {
        final Tree tree;
        final Loops loops;
        final Heights heights;
        private final Survey survey;

        Study(Survey source) {
            Tree shortest = new Tree(source);
            Loops closed = new Loops(source, shortest);
            survey = source;
            tree = shortest;
            loops = closed;
            heights = new Heights(source, shortest, closed);
        }

        void renew() {
            tree.grow();
            loops.close();
            loops.spread();
            heights.find();
        }

        int ofMark(int mark, int what) {
            switch (what) {
                case 0: return survey.known[mark];
                case 1: return heights.isThere(mark) ? heights.of(mark) : NO_HEIGHT;
                case 2: return tree.net[mark];
                case 3: return heights.movement(mark);
                case 4: return survey.legsAt(mark);
                case 5: return heights.baseOf(mark);
                default: return heights.agreeing[mark];
            }
        }

        int ofLeg(int leg, int what) {
            switch (what) {
                case 0: return survey.from[leg];
                case 1: return survey.to[leg];
                case 2: return survey.length[leg];
                case 3: return survey.difference[leg] + LEG_SHIFT;
                case 4: return survey.difference[leg] + loops.correction[leg] + LEG_SHIFT;
                case 5: return loops.correction[leg] + LEG_SHIFT;
                case 6: return isIn(tree.legs, leg) ? 1 : 0;
                case 7: return loops.closedBy(leg);
                case 8: return loops.howManyWith(leg);
                default: return loops.howManyBadWith(leg);
            }
        }

        int ofWay(int from, int to, int what) {
            if (tree.net[from] != tree.net[to]) {
                return NONE;
            }
            int legs = tree.between(from, to);
            switch (what) {
                case 0: return Integer.bitCount(legs);
                case 1: return survey.lengthOf(legs);
                case 2: return heights.rise[to] - heights.rise[from] + WAY_SHIFT;
                default: return tree.legAt(from, legs);
            }
        }
    }

    /** The tree of the shortest legs; each net of it hangs on its lowest mark, the top. */
    private static final class Tree {
        /** As a mask. */
        int legs;
        /** The legs that lead away from the top of their net. */
        int downward;
        /** For each mark the top of its net. */
        final int[] net = new int[MOST_MARKS];
        /** For each mark the legs between it and the top. */
        final int[] toTop = new int[MOST_MARKS];
        private final Survey survey;
        private final int[] order = new int[MOST_LEGS];

        Tree(Survey source) {
            survey = source;
        }

        void grow() {
            sortLegs();
            legs = 0;
            for (int mark = 0; mark < survey.marks; mark++) {
                net[mark] = mark;
            }
            for (int i = 0; i < survey.legs; i++) {
                int leg = order[i];
                int one = net[survey.from[leg]];
                int other = net[survey.to[leg]];
                if (one != other) {
                    legs |= 1 << leg;
                    join(Math.max(one, other), Math.min(one, other));
                }
            }
            hang();
        }

        private void sortLegs() {
            for (int leg = 0; leg < survey.legs; leg++) {
                int place = leg;
                while (place > 0 && survey.length[order[place - 1]] > survey.length[leg]) {
                    order[place] = order[place - 1];
                    place--;
                }
                order[place] = leg;
            }
        }

        private void join(int higher, int lower) {
            for (int mark = 0; mark < survey.marks; mark++) {
                if (net[mark] == higher) {
                    net[mark] = lower;
                }
            }
        }

        private void hang() {
            int reached = 0;
            downward = 0;
            for (int mark = 0; mark < survey.marks; mark++) {
                toTop[mark] = 0;
                if (net[mark] == mark) {
                    reached |= 1 << mark;
                }
            }
            // Each round reaches a mark at least, as long as one is left.
            int all = (1 << survey.marks) - 1;
            for (int round = 1; round < survey.marks && reached != all; round++) {
                for (int leg = 0; leg < survey.legs; leg++) {
                    if (isIn(legs, leg)) {
                        reached |= reachBy(leg, reached);
                    }
                }
            }
        }

        /** Answers the mark that is reached by a leg now, as a mask. */
        private int reachBy(int leg, int reached) {
            int from = survey.from[leg];
            int to = survey.to[leg];
            if (isIn(reached, from) == isIn(reached, to)) {
                return 0;
            }
            if (isIn(reached, from)) {
                downward |= 1 << leg;
                toTop[to] = toTop[from] | (1 << leg);
                return 1 << to;
            }
            toTop[from] = toTop[to] | (1 << leg);
            return 1 << from;
        }

        /** The legs on the way between two marks of one net: those between the top and one of the two alone. */
        int between(int one, int other) {
            return toTop[one] ^ toTop[other];
        }

        int legAt(int mark, int mask) {
            for (int leg = 0; leg < survey.legs; leg++) {
                if (isIn(mask, leg) && (survey.from[leg] == mark || survey.to[leg] == mark)) {
                    return leg;
                }
            }
            return NONE;
        }

        int howManyNets() {
            int sum = 0;
            for (int mark = 0; mark < survey.marks; mark++) {
                if (net[mark] == mark) {
                    sum++;
                }
            }
            return sum;
        }
    }

    /** The loops, their misses, and the corrections that close them. */
    private static final class Loops {
        int size;
        final int[] correction = new int[MOST_LEGS];
        private final Survey survey;
        private final Tree tree;
        /** The bad loops, as a mask. */
        private int bad;
        private final int[] closing = new int[MOST_LEGS];
        private final int[] legs = new int[MOST_LEGS];
        private final int[] length = new int[MOST_LEGS];
        /** For each loop those of its legs that are gone along in their direction. */
        private final int[] forward = new int[MOST_LEGS];
        private final int[] miss = new int[MOST_LEGS];
        private final int[] spreadMiss = new int[MOST_LEGS];
        private final int[] share = new int[MOST_LEGS];
        private final int[] rest = new int[MOST_LEGS];

        Loops(Survey source, Tree shortest) {
            survey = source;
            tree = shortest;
        }

        void close() {
            size = 0;
            bad = 0;
            for (int leg = 0; leg < survey.legs; leg++) {
                correction[leg] = 0;
            }
            for (int leg = 0; leg < survey.legs; leg++) {
                if (!isIn(tree.legs, leg)) {
                    closeBy(leg);
                }
            }
        }

        private void closeBy(int leg) {
            int former = survey.from[leg];
            int latter = survey.to[leg];
            int back = tree.between(former, latter);
            int up = back & tree.toTop[latter];
            int down = back & tree.toTop[former];
            closing[size] = leg;
            legs[size] = back | (1 << leg);
            length[size] = survey.lengthOf(legs[size]);
            forward[size] = (1 << leg) | (down & tree.downward) | (up & ~tree.downward);
            miss[size] = goneAlong(size);
            if (excess(size) > 0) {
                bad |= 1 << size;
            }
            size++;
        }

        /** By how much a loop misses with the corrections that there are. */
        private int goneAlong(int loop) {
            int sum = 0;
            for (int leg = 0; leg < survey.legs; leg++) {
                if (isIn(legs[loop], leg)) {
                    int corrected = survey.difference[leg] + correction[leg];
                    sum += isIn(forward[loop], leg) ? corrected : -corrected;
                }
            }
            return sum;
        }

        void spread() {
            int bound = 0;
            for (int loop = 0; loop < size; loop++) {
                int left = goneAlong(loop);
                int free = legs[loop] & ~bound;
                spreadMiss[loop] = Math.abs(left);
                shareOut(spreadMiss[loop], free);
                correct(loop, free, left > 0);
                bound |= legs[loop];
            }
        }

        private void shareOut(int whole, int free) {
            int total = survey.lengthOf(free);
            if (total <= 0) {
                return;
            }
            int left = whole;
            for (int leg = 0; leg < survey.legs; leg++) {
                rest[leg] = NONE;
                if (isIn(free, leg)) {
                    long part = (long) whole * survey.length[leg];
                    share[leg] = (int) (part / total);
                    rest[leg] = (int) (part % total);
                    left -= share[leg];
                }
            }
            for (int given = 0; given < left; given++) {
                giveOne();
            }
        }

        private void giveOne() {
            int best = NONE;
            int most = NONE;
            for (int leg = 0; leg < survey.legs; leg++) {
                if (rest[leg] > most) {
                    best = leg;
                    most = rest[leg];
                }
            }
            if (best >= 0) {
                share[best]++;
                rest[best] = NONE;
            }
        }

        private void correct(int loop, int free, boolean tooMuch) {
            for (int leg = 0; leg < survey.legs; leg++) {
                if (isIn(free, leg)) {
                    boolean less = isIn(forward[loop], leg) == tooMuch;
                    correction[leg] = less ? -share[leg] : share[leg];
                }
            }
        }

        private int allowed(int loop) {
            return survey.settings[BY_LENGTH] * length[loop] / 10 + survey.settings[BESIDES];
        }

        private int excess(int loop) {
            return Math.abs(miss[loop]) - allowed(loop);
        }

        int ofLoop(int loop, int what) {
            switch (what) {
                case 0: return closing[loop];
                case 1: return legs[loop];
                case 2: return length[loop];
                case 3: return Math.abs(miss[loop]);
                case 4: return miss[loop] == 0 ? 0 : miss[loop] > 0 ? 1 : 2;
                case 5: return allowed(loop);
                case 6: return isIn(bad, loop) ? 1 : 0;
                default: return spreadMiss[loop];
            }
        }

        int closedBy(int leg) {
            for (int loop = 0; loop < size; loop++) {
                if (closing[loop] == leg) {
                    return loop;
                }
            }
            return NONE;
        }

        int howManyWith(int leg) {
            int sum = 0;
            for (int loop = 0; loop < size; loop++) {
                if (isIn(legs[loop], leg)) {
                    sum++;
                }
            }
            return sum;
        }

        int howManyBadWith(int leg) {
            int sum = 0;
            for (int loop = 0; loop < size; loop++) {
                if (isIn(bad, loop) && isIn(legs[loop], leg)) {
                    sum++;
                }
            }
            return sum;
        }

        int howManyBad() {
            return Integer.bitCount(bad);
        }

        int missesTogether() {
            int sum = 0;
            for (int loop = 0; loop < size; loop++) {
                sum += Math.abs(miss[loop]);
            }
            return sum;
        }

        int correctionsTogether() {
            int sum = 0;
            for (int leg = 0; leg < survey.legs; leg++) {
                sum += Math.abs(correction[leg]);
            }
            return sum;
        }

        int worstLoop() {
            int found = NONE;
            for (int loop = 0; loop < size; loop++) {
                if (found < 0 || excess(loop) > excess(found)) {
                    found = loop;
                }
            }
            return found;
        }

        int suspectLeg() {
            int found = NONE;
            for (int leg = 0; leg < survey.legs; leg++) {
                if (bad != 0 && howManyBadWith(leg) == howManyBad()
                        && (found < 0 || isMoreSuspect(leg, found))) {
                    found = leg;
                }
            }
            return found;
        }

        /** Of legs that are in all bad loops. */
        private boolean isMoreSuspect(int leg, int other) {
            int with = howManyWith(leg);
            int withOther = howManyWith(other);
            return with < withOther || (with == withOther && survey.length[leg] > survey.length[other]);
        }

        double shareOfGood() {
            if (size == 0) {
                return 1.0;
            }
            return (double) (size - howManyBad()) / (double) size;
        }
    }

    /** The bases of the nets, and the heights from them. */
    private static final class Heights {
        /** For each mark, by how much it is above the top of its net, by corrected legs. */
        final int[] rise = new int[MOST_MARKS];
        final int[] agreeing = new int[MOST_MARKS];
        private final Survey survey;
        private final Tree tree;
        private final Loops loops;
        /** For each top the base of its net. */
        private final int[] base = new int[MOST_MARKS];

        Heights(Survey source, Tree shortest, Loops closed) {
            survey = source;
            tree = shortest;
            loops = closed;
        }

        void find() {
            for (int mark = 0; mark < survey.marks; mark++) {
                rise[mark] = riseOf(tree.toTop[mark]);
                base[mark] = NONE;
            }
            for (int mark = 0; mark < survey.marks; mark++) {
                agreeing[mark] = survey.known[mark] == NONE ? NONE : howManyAgree(mark);
                int top = tree.net[mark];
                if (agreeing[mark] >= 0 && (base[top] < 0 || agreeing[mark] > agreeing[base[top]])) {
                    base[top] = mark;
                }
            }
        }

        private int riseOf(int legsToTop) {
            int sum = 0;
            for (int leg = 0; leg < survey.legs; leg++) {
                if (isIn(legsToTop, leg)) {
                    int corrected = survey.difference[leg] + loops.correction[leg];
                    sum += isIn(tree.downward, leg) ? corrected : -corrected;
                }
            }
            return sum;
        }

        private int howManyAgree(int mark) {
            int sum = 0;
            for (int other = 0; other < survey.marks; other++) {
                if (other != mark && survey.known[other] != NONE
                        && tree.net[other] == tree.net[mark] && agree(mark, other)) {
                    sum++;
                }
            }
            return sum;
        }

        private boolean agree(int mark, int other) {
            int told = survey.known[other] - survey.known[mark];
            int measured = rise[other] - rise[mark];
            return Math.abs(told - measured) <= survey.settings[EXACTNESS];
        }

        int baseOf(int mark) {
            return base[tree.net[mark]];
        }

        boolean isThere(int mark) {
            return baseOf(mark) >= 0;
        }

        /** To be asked where it is there. */
        int of(int mark) {
            int start = baseOf(mark);
            return start < 0 ? NO_HEIGHT : survey.known[start] + rise[mark] - rise[start];
        }

        /** 0: none, or nothing is to be told; 1: it sank; 2: it rose. */
        int movement(int mark) {
            if (survey.known[mark] == NONE || !isThere(mark)) {
                return 0;
            }
            int risen = of(mark) - survey.known[mark];
            if (Math.abs(risen) <= survey.settings[EXACTNESS]) {
                return 0;
            }
            return risen < 0 ? 1 : 2;
        }

        int howManyMoved() {
            int sum = 0;
            for (int mark = 0; mark < survey.marks; mark++) {
                if (movement(mark) != 0) {
                    sum++;
                }
            }
            return sum;
        }

        int howManyThere() {
            int sum = 0;
            for (int mark = 0; mark < survey.marks; mark++) {
                if (isThere(mark)) {
                    sum++;
                }
            }
            return sum;
        }
    }

    /** The buffer. */
    private static final class Text {
        int size;
        final int[] codes = new int[MOST_CHARACTERS];

        void put(int code) {
            if (size < MOST_CHARACTERS) {
                codes[size] = code;
                size++;
            }
        }
    }

    /** Reads a field book character by character. */
    private static final class Reader {
        private static final int ENTRY = 0;
        private static final int MARK = 1;
        private static final int KNOWN = 2;
        private static final int FROM = 3;
        private static final int DASH = 4;
        private static final int TO = 5;
        private static final int COLON = 6;
        private static final int SIGN = 7;
        private static final int DIFFERENCE = 8;
        private static final int SLASH = 9;
        private static final int LENGTH = 10;

        /** The number that is read, or was read last. */
        int number;
        int from;
        int to;
        int difference;
        /** What was read last. */
        private int state;
        private boolean negative;

        void start() {
            state = ENTRY;
        }

        boolean isAtEntryEnd() {
            return isAtMark() || state == LENGTH;
        }

        boolean isAtMark() {
            return state == MARK || state == KNOWN;
        }

        /** To be asked at the end of a mark's entry. */
        int known() {
            return state == KNOWN ? number : NONE;
        }

        /** Answers false, and stays where it is, if the character is a syntax error. */
        boolean take(int code) {
            switch (state) {
                case ENTRY: return code == 'm' ? comeTo(MARK) : takeFrom(code);
                case MARK: return code == ';' ? comeTo(ENTRY) : begin(code, 0, KNOWN);
                case KNOWN: return code == ';' ? comeTo(ENTRY) : goOn(code, MOST_KNOWN);
                case FROM: return code == '-' && comeTo(DASH);
                case DASH: return takeTo(code);
                case TO: return code == ':' && takeColon();
                case COLON: return code == '-' ? takeSign() : begin(code, 0, DIFFERENCE);
                case SIGN: return begin(code, 0, DIFFERENCE);
                case DIFFERENCE: return code == '/' ? takeSlash() : goOn(code, MOST_DIFFERENCE);
                case SLASH: return begin(code, 1, LENGTH);
                default: return code == ';' ? comeTo(ENTRY) : goOn(code, MOST_LENGTH);
            }
        }

        private boolean comeTo(int next) {
            state = next;
            return true;
        }

        private boolean takeFrom(int code) {
            from = code - '0';
            return isDigit(code) && comeTo(FROM);
        }

        private boolean takeTo(int code) {
            to = code - '0';
            return isDigit(code) && comeTo(TO);
        }

        private boolean takeColon() {
            negative = false;
            return comeTo(COLON);
        }

        private boolean takeSign() {
            negative = true;
            return comeTo(SIGN);
        }

        private boolean takeSlash() {
            difference = negative ? -number : number;
            return comeTo(SLASH);
        }

        private boolean begin(int code, int least, int next) {
            if (!isDigit(code) || code - '0' < least) {
                return false;
            }
            number = code - '0';
            return comeTo(next);
        }

        /** A 0 has no digit behind it: numbers are without leading zeros. */
        private boolean goOn(int code, int most) {
            if (!isDigit(code) || number == 0 || 10 * number + code - '0' > most) {
                return false;
            }
            number = 10 * number + code - '0';
            return true;
        }

        private static boolean isDigit(int code) {
            return code >= '0' && code <= '9';
        }
    }
}
