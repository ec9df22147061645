/**
 * A manual whose sections are ordered so that terms are defined before they are used.
 * Sets of sections and of terms are bit sets throughout.
 */
public final class TermsFirst {
    public static final int NONE = -1, UNKNOWN = -2, OUTSIDE = -3, NOT = -4, FULL = -5;

    private static final int FIRST_SECTIONS = 4;
    private static final int LEAST_SECTIONS = 2;
    private static final int MOST_SECTIONS = 10;
    private static final int TERMS = 12;
    private static final int MOST_PAGES = 9;
    private static final int TEXT_ROOM = 200;
    private static final int MOST_BYTE = 255;
    private static final int MOST_CLAUSES = 24;
    private static final int UNDO_ROOM = 8;
    private static final int SAVED_STATES = 2;

    private final Manual manual;
    /** What-if questions and texts work on this copy, so that the manual itself stays as it is. */
    private final Manual draft;
    private final int[] trialOrder;
    private final Text text;
    private final ClauseReader reader;
    private final History history;
    private final Manual[] saved;
    private final boolean[] isSaved;
    private final NeedGraph graph;
    private final BestOrder bestOrder;

    public TermsFirst() {
        manual = new Manual();
        draft = new Manual();
        trialOrder = new int[MOST_SECTIONS];
        text = new Text();
        reader = new ClauseReader(text);
        history = new History();
        saved = new Manual[SAVED_STATES];
        isSaved = new boolean[SAVED_STATES];
        for (int k = 0; k < SAVED_STATES; k++) {
            saved[k] = new Manual();
        }
        graph = new NeedGraph();
        bestOrder = new BestOrder();
    }

    // ---- the text

    public int write(int letter) {
        if (letter < 0 || letter > MOST_BYTE) {
            return OUTSIDE;
        }
        if (text.length >= TEXT_ROOM) {
            return FULL;
        }
        text.append(letter);
        return text.length;
    }

    public int erase() {
        int length = text.length;
        text.clear();
        return length;
    }

    public int fault() {
        draft.become(manual);
        return reader.carryOut(draft);
    }

    public int tell() {
        draft.become(manual);
        if (reader.carryOut(draft) != NONE) {
            return NOT;
        }
        manual.become(draft);
        text.clear();
        history.forget();
        return reader.clauses;
    }

    // ---- editing

    public int pages(int section, int l) {
        if (!manual.hasSection(section)) {
            return UNKNOWN;
        }
        if (l < 1 || l > MOST_PAGES) {
            return OUTSIDE;
        }
        history.remember(manual);
        int old = manual.lengths[section];
        manual.lengths[section] = l;
        return old;
    }

    public int uses(int section, int term, int on) {
        if (!manual.hasSection(section) || !isTerm(term)) {
            return UNKNOWN;
        }
        if (on != 0 && on != 1) {
            return OUTSIDE;
        }
        history.remember(manual);
        int old = manual.used[section];
        manual.used[section] = on == 1 ? with(old, term) : without(old, term);
        return manual.used[section] == old ? 0 : 1;
    }

    public int home(int term, int section) {
        if (!isTerm(term) || (section != NONE && !manual.hasSection(section))) {
            return UNKNOWN;
        }
        history.remember(manual);
        int old = manual.homes[term];
        manual.homes[term] = section;
        return old;
    }

    public int ahead(int a, int b) {
        if (!manual.hasSection(a) || !manual.hasSection(b) || a == b) {
            return UNKNOWN;
        }
        if (!manual.canTakePrecedence(a, b)) {
            return NOT;
        }
        history.remember(manual);
        manual.before[b] = with(manual.before[b], a);
        return manual.countPrecedences();
    }

    public int loosen(int a, int b) {
        if (!manual.hasSection(a) || !manual.hasSection(b)) {
            return UNKNOWN;
        }
        if (!has(manual.before[b], a)) {
            return NOT;
        }
        history.remember(manual);
        manual.before[b] = without(manual.before[b], a);
        return manual.countPrecedences();
    }

    public int move(int section, int p) {
        int notes = tryMove(section, p);
        if (notes < 0) {
            return notes;
        }
        history.remember(manual);
        manual.takeOrder(trialOrder);
        return notes;
    }

    public int settle() {
        bestOrder.find(manual);
        history.remember(manual);
        manual.takeOrder(bestOrder.order);
        return bestOrder.inversions;
    }

    public int undo() {
        if (history.size == 0) {
            return NOT;
        }
        history.restore(manual);
        return history.size;
    }

    public int keep(int k) {
        if (k < 0 || k >= SAVED_STATES) {
            return OUTSIDE;
        }
        saved[k].become(manual);
        isSaved[k] = true;
        return manual.countNotes(manual.order);
    }

    public int back(int k) {
        if (k < 0 || k >= SAVED_STATES) {
            return OUTSIDE;
        }
        if (!isSaved[k]) {
            return NOT;
        }
        manual.become(saved[k]);
        history.forget();
        return manual.countNotes(manual.order);
    }

    // ---- the manual as it is

    public int at(int place) {
        return manual.hasPlace(place) ? manual.order[place] : UNKNOWN;
    }

    public int section(int section, int what) {
        if (!manual.hasSection(section)) {
            return UNKNOWN;
        }
        switch (what) {
            case 0:
                return manual.placeOf(section);
            case 1:
                return manual.lengths[section];
            case 2:
                return manual.used[section];
            case 3:
                return manual.termsAtHome(section);
            case 4:
                return manual.earlyTerms(section);
            case 5:
                return manual.notesIn(section);
            case 6:
                return manual.neededBy(section);
            case 7:
                graph.draw(manual);
                return graph.component(section);
            case 8:
                return manual.before[section];
            default:
                return OUTSIDE;
        }
    }

    public int term(int term, int what) {
        if (!isTerm(term)) {
            return UNKNOWN;
        }
        switch (what) {
            case 0:
                return manual.homes[term];
            case 1:
                return manual.usersOf(term);
            case 2:
                return manual.noteSection(term);
            case 3:
                return manual.noteLength(term, manual.order);
            case 4:
                return manual.isLoose(term) ? 1 : 0;
            default:
                return OUTSIDE;
        }
    }

    public int ring(int k) {
        if (k < NONE) {
            return OUTSIDE;
        }
        graph.draw(manual);
        graph.findRing();
        if (k == NONE) {
            return graph.ringLength;
        }
        return k < graph.ringLength ? graph.ring[k] : NONE;
    }

    // ---- the best order and what-if questions

    public int best(int place) {
        if (!manual.hasPlace(place)) {
            return UNKNOWN;
        }
        bestOrder.find(manual);
        return bestOrder.order[place];
    }

    public int least(int what) {
        if (what < 0 || what > 3) {
            return OUTSIDE;
        }
        bestOrder.find(manual);
        switch (what) {
            case 0:
                return manual.notedTerms(bestOrder.order);
            case 1:
                return bestOrder.notes;
            case 2:
                return bestOrder.inversions;
            default:
                return manual.sumNoteLengths(bestOrder.order);
        }
    }

    public int would(int section, int term) {
        if (!manual.hasSection(section) || !isTerm(term)) {
            return UNKNOWN;
        }
        draft.become(manual);
        draft.used[section] = with(draft.used[section], term);
        bestOrder.find(draft);
        return bestOrder.notes;
    }

    public int after(int section, int p) {
        return tryMove(section, p);
    }

    public int count(int what) {
        switch (what) {
            case 0:
                return manual.n;
            case 1:
                return manual.countNotes(manual.order);
            case 2:
                return manual.countLoose();
            case 3:
                return manual.countHomes();
            case 4:
                return manual.countUses();
            case 5:
                return manual.countEarly();
            case 6:
                return manual.countPrecedences();
            case 7:
                return manual.sumNoteLengths(manual.order);
            case 8:
                graph.draw(manual);
                return graph.countLargeComponents();
            case 9:
                return history.size;
            case 10:
                return text.length;
            case 11:
                return manual.sumPages();
            default:
                return OUTSIDE;
        }
    }

    /** Leaves the order after the move in trialOrder; answers its number of notes or an error code. */
    private int tryMove(int section, int p) {
        if (!manual.hasSection(section) || !manual.hasPlace(p)) {
            return UNKNOWN;
        }
        manual.orderAfterMove(section, p, trialOrder);
        if (!manual.respectsPrecedences(trialOrder)) {
            return NOT;
        }
        return manual.countNotes(trialOrder);
    }

    private static boolean isTerm(int term) {
        return term >= 0 && term < TERMS;
    }

    private static boolean has(int set, int element) {
        return (set & 1 << element) != 0;
    }

    private static int with(int set, int element) {
        return set | 1 << element;
    }

    private static int without(int set, int element) {
        return set & ~(1 << element);
    }

    /** A whole manual. Rows by section have room for the most sections; the first n entries count. */
    private static final class Manual {
        int n;
        final int[] lengths = new int[MOST_SECTIONS];
        final int[] used = new int[MOST_SECTIONS];
        final int[] homes = new int[TERMS];
        /** The section at each place. */
        final int[] order = new int[MOST_SECTIONS];
        /** For each section the set of those that must come before it by a precedence. */
        final int[] before = new int[MOST_SECTIONS];

        Manual() {
            beginAnew(FIRST_SECTIONS);
        }

        void beginAnew(int sections) {
            n = sections;
            for (int s = 0; s < MOST_SECTIONS; s++) {
                lengths[s] = 1;
                used[s] = 0;
                order[s] = s;
                before[s] = 0;
            }
            for (int t = 0; t < TERMS; t++) {
                homes[t] = NONE;
            }
        }

        void become(Manual other) {
            n = other.n;
            for (int s = 0; s < MOST_SECTIONS; s++) {
                lengths[s] = other.lengths[s];
                used[s] = other.used[s];
                order[s] = other.order[s];
                before[s] = other.before[s];
            }
            for (int t = 0; t < TERMS; t++) {
                homes[t] = other.homes[t];
            }
        }

        boolean isSame(Manual other) {
            if (n != other.n) {
                return false;
            }
            for (int s = 0; s < n; s++) {
                if (lengths[s] != other.lengths[s] || used[s] != other.used[s]
                        || order[s] != other.order[s] || before[s] != other.before[s]) {
                    return false;
                }
            }
            for (int t = 0; t < TERMS; t++) {
                if (homes[t] != other.homes[t]) {
                    return false;
                }
            }
            return true;
        }

        void takeOrder(int[] sections) {
            for (int p = 0; p < n; p++) {
                order[p] = sections[p];
            }
        }

        boolean hasSection(int section) {
            return section >= 0 && section < n;
        }

        boolean hasPlace(int place) {
            return place >= 0 && place < n;
        }

        int placeOf(int section) {
            int place = 0;
            for (int p = 0; p < n; p++) {
                if (order[p] == section) {
                    place = p;
                }
            }
            return place;
        }

        void orderAfterMove(int section, int p, int[] target) {
            int from = placeOf(section);
            for (int i = 0; i < n; i++) {
                target[i] = order[i];
            }
            for (int i = from; i < p; i++) {
                target[i] = order[i + 1];
            }
            for (int i = from; i > p; i--) {
                target[i] = order[i - 1];
            }
            target[p] = section;
        }

        // ---- precedences

        boolean canTakePrecedence(int a, int b) {
            return placeOf(a) < placeOf(b) && !has(before[b], a);
        }

        boolean respectsPrecedences(int[] sections) {
            int placed = 0;
            for (int p = 0; p < n; p++) {
                int s = sections[p];
                if ((before[s] & ~placed) != 0) {
                    return false;
                }
                placed = with(placed, s);
            }
            return true;
        }

        int countPrecedences() {
            int sum = 0;
            for (int s = 0; s < n; s++) {
                sum += Integer.bitCount(before[s]);
            }
            return sum;
        }

        // ---- terms and sections

        int termsAtHome(int section) {
            int terms = 0;
            for (int t = 0; t < TERMS; t++) {
                if (homes[t] == section) {
                    terms = with(terms, t);
                }
            }
            return terms;
        }

        int usersOf(int term) {
            int users = 0;
            for (int s = 0; s < n; s++) {
                if (has(used[s], term)) {
                    users = with(users, s);
                }
            }
            return users;
        }

        boolean isLoose(int term) {
            return homes[term] == NONE && usersOf(term) != 0;
        }

        /** A section that uses a term of its own home does not need itself. */
        int neededBy(int section) {
            int needed = 0;
            for (int t = 0; t < TERMS; t++) {
                int home = homes[t];
                if (home != NONE && home != section && has(used[section], t)) {
                    needed = with(needed, home);
                }
            }
            return needed;
        }

        int countLoose() {
            int sum = 0;
            for (int t = 0; t < TERMS; t++) {
                if (isLoose(t)) {
                    sum++;
                }
            }
            return sum;
        }

        int countHomes() {
            int sum = 0;
            for (int t = 0; t < TERMS; t++) {
                if (homes[t] != NONE) {
                    sum++;
                }
            }
            return sum;
        }

        int countUses() {
            int sum = 0;
            for (int s = 0; s < n; s++) {
                sum += Integer.bitCount(used[s]);
            }
            return sum;
        }

        int sumPages() {
            int sum = 0;
            for (int s = 0; s < n; s++) {
                sum += lengths[s];
            }
            return sum;
        }

        // ---- early terms and notes

        int earlyTerms(int section) {
            int definedLater = 0;
            for (int p = placeOf(section) + 1; p < n; p++) {
                definedLater |= termsAtHome(order[p]);
            }
            return used[section] & definedLater;
        }

        int countEarly() {
            int sum = 0;
            for (int s = 0; s < n; s++) {
                sum += Integer.bitCount(earlyTerms(s));
            }
            return sum;
        }

        /** The terms that have notes if the sections stand in the given order. */
        int notedTerms(int[] sections) {
            int noted = 0;
            int seen = 0;
            for (int p = 0; p < n; p++) {
                int s = sections[p];
                noted |= seen & termsAtHome(s);
                seen |= used[s];
            }
            return noted;
        }

        int countNotes(int[] sections) {
            return Integer.bitCount(notedTerms(sections));
        }

        int noteSection(int term) {
            int home = homes[term];
            if (home == NONE) {
                return NONE;
            }
            for (int p = 0; p < n && order[p] != home; p++) {
                if (has(used[order[p]], term)) {
                    return order[p];
                }
            }
            return NONE;
        }

        int notesIn(int section) {
            int terms = 0;
            for (int t = 0; t < TERMS; t++) {
                if (noteSection(t) == section) {
                    terms = with(terms, t);
                }
            }
            return terms;
        }

        /** The length of the term's note if the sections stand in the given order. */
        int noteLength(int term, int[] sections) {
            int home = homes[term];
            if (home == NONE) {
                return 0;
            }
            int sum = 0;
            boolean begun = false;
            for (int p = 0; p < n && sections[p] != home; p++) {
                int s = sections[p];
                begun = begun || has(used[s], term);
                if (begun) {
                    sum += lengths[s];
                }
            }
            return sum;
        }

        int sumNoteLengths(int[] sections) {
            int sum = 0;
            for (int t = 0; t < TERMS; t++) {
                sum += noteLength(t, sections);
            }
            return sum;
        }
    }

    /** The latest states of the manual, in a ring: a new one takes the place of the oldest. */
    private static final class History {
        int size = 0;
        private int next = 0;
        private final Manual[] states = new Manual[UNDO_ROOM];

        History() {
            for (int i = 0; i < UNDO_ROOM; i++) {
                states[i] = new Manual();
            }
        }

        void remember(Manual manual) {
            states[next].become(manual);
            next = (next + 1) % UNDO_ROOM;
            size = Math.min(size + 1, UNDO_ROOM);
        }

        void restore(Manual manual) {
            if (size == 0) {
                return;
            }
            next = (next + UNDO_ROOM - 1) % UNDO_ROOM;
            size--;
            manual.become(states[next]);
        }

        void forget() {
            size = 0;
        }
    }

    /** The sections and which of them needs which. */
    private static final class NeedGraph {
        int ringLength;
        final int[] ring = new int[MOST_SECTIONS];
        private int n;
        private final int[] needs = new int[MOST_SECTIONS];
        private final int[] reach = new int[MOST_SECTIONS];
        /** The sections from which the start of a cycle is reached in just so many steps. */
        private final int[] toStart = new int[MOST_SECTIONS + 1];

        void draw(Manual manual) {
            n = manual.n;
            for (int s = 0; s < n; s++) {
                needs[s] = manual.neededBy(s);
                reach[s] = with(needs[s], s);
            }
            for (int through = 0; through < n; through++) {
                for (int s = 0; s < n; s++) {
                    if (has(reach[s], through)) {
                        reach[s] |= reach[through];
                    }
                }
            }
        }

        int component(int section) {
            int members = 0;
            for (int s = 0; s < n; s++) {
                if (has(reach[section], s) && has(reach[s], section)) {
                    members = with(members, s);
                }
            }
            return members;
        }

        int countLargeComponents() {
            int sum = 0;
            for (int s = 0; s < n; s++) {
                int members = component(s);
                boolean isFirst = (members & (1 << s) - 1) == 0;
                if (isFirst && Integer.bitCount(members) >= 2) {
                    sum++;
                }
            }
            return sum;
        }

        /**
         * A closed walk of the least length of all is a cycle: a section that came twice would cut
         * off a shorter one. So walks are enough, and the least start and least next sections give
         * the lexicographically first cycle.
         */
        void findRing() {
            ringLength = 0;
            int start = 0;
            for (int s = 0; s < n; s++) {
                int steps = stepsAround(s);
                if (steps > 0 && (ringLength == 0 || steps < ringLength)) {
                    ringLength = steps;
                    start = s;
                }
            }
            if (ringLength > 0) {
                writeRing(start);
            }
        }

        /** The length of the shortest closed walk from the start, 0 if there is none. */
        private int stepsAround(int start) {
            toStart[0] = 1 << start;
            for (int steps = 1; steps <= n; steps++) {
                toStart[steps] = sectionsThatNeedOneOf(toStart[steps - 1]);
                if (has(toStart[steps], start)) {
                    return steps;
                }
            }
            return 0;
        }

        private int sectionsThatNeedOneOf(int sections) {
            int needing = 0;
            for (int s = 0; s < n; s++) {
                if ((needs[s] & sections) != 0) {
                    needing = with(needing, s);
                }
            }
            return needing;
        }

        private void writeRing(int start) {
            stepsAround(start);
            ring[0] = start;
            for (int i = 1; i < ringLength; i++) {
                ring[i] = firstOf(needs[ring[i - 1]] & toStart[ringLength - i]);
            }
        }

        private int firstOf(int sections) {
            for (int s = 0; s < n; s++) {
                if (has(sections, s)) {
                    return s;
                }
            }
            return 0;
        }
    }

    /**
     * The best order, found over the sets of sections that may stand first: what a section adds
     * depends only on the set of those before it, not on their order.
     */
    private static final class BestOrder {
        /** One note costs more than all inversions together, of which ten sections have at most 45. */
        private static final int NOTE_COST = 64;
        private static final int TOO_MUCH = 1000000;

        int notes = 0;
        int inversions = 0;
        final int[] order = new int[MOST_SECTIONS];
        /** The manual of the latest search, since one place after the other is often asked for. */
        private final Manual manual = new Manual();
        private boolean isFound = false;
        private final int[] defined = new int[MOST_SECTIONS];
        /** For each set of sections the terms that they use. */
        private final int[] seen = new int[1 << MOST_SECTIONS];
        /** For each set of sections already placed the least cost of placing the others. */
        private final int[] costs = new int[1 << MOST_SECTIONS];
        /** For each such set the section to be placed next. */
        private final int[] choices = new int[1 << MOST_SECTIONS];

        void find(Manual asked) {
            if (isFound && manual.isSame(asked)) {
                return;
            }
            manual.become(asked);
            isFound = true;
            gatherTerms();
            int all = (1 << manual.n) - 1;
            costs[all] = 0;
            for (int placed = all - 1; placed >= 0; placed--) {
                choose(placed);
            }
            notes = costs[0] / NOTE_COST;
            inversions = costs[0] % NOTE_COST;
            writeOrder();
        }

        private void gatherTerms() {
            seen[0] = 0;
            for (int s = 0; s < manual.n; s++) {
                defined[s] = manual.termsAtHome(s);
                for (int lower = 0; lower < 1 << s; lower++) {
                    seen[with(lower, s)] = seen[lower] | manual.used[s];
                }
            }
        }

        /** Goes from the end of the present order, so that of several sections the first one stays. */
        private void choose(int placed) {
            int least = TOO_MUCH;
            int choice = 0;
            int behind = 0;
            for (int p = manual.n - 1; p >= 0; p--) {
                int s = manual.order[p];
                if (has(placed, s)) {
                    behind++;
                } else if ((manual.before[s] & ~placed) == 0) {
                    int cost = noteCost(placed, s) + behind + costs[with(placed, s)];
                    if (cost <= least) {
                        least = cost;
                        choice = s;
                    }
                }
            }
            costs[placed] = least;
            choices[placed] = choice;
        }

        private int noteCost(int placed, int section) {
            int noted = defined[section] & seen[placed];
            return noted == 0 ? 0 : Integer.bitCount(noted) * NOTE_COST;
        }

        private void writeOrder() {
            int placed = 0;
            for (int p = 0; p < manual.n; p++) {
                order[p] = choices[placed];
                placed = with(placed, order[p]);
            }
        }
    }

    /** The buffer and the token that was taken from it last. */
    private static final class Text {
        private static final int END = 0, LETTERS = 1, DIGITS = 2, OTHER = 3;
        private static final int MOST_DIGITS = 2;

        int length = 0;
        /** The place of the token's first byte; at the end of the text its length. */
        int start = 0;
        private int next = 0;
        private int kind = END;
        private final int[] bytes = new int[TEXT_ROOM];

        void append(int letter) {
            if (length < TEXT_ROOM) {
                bytes[length] = letter;
                length++;
            }
        }

        void clear() {
            length = 0;
        }

        void rewind() {
            next = 0;
        }

        void take() {
            while (next < length && bytes[next] == ' ') {
                next++;
            }
            start = next;
            if (next >= length) {
                kind = END;
                return;
            }
            kind = kindOf(bytes[next]);
            next++;
            while (kind != OTHER && next < length && kindOf(bytes[next]) == kind) {
                next++;
            }
        }

        private static int kindOf(int letter) {
            if (letter >= 'a' && letter <= 'z') {
                return LETTERS;
            }
            if (letter >= '0' && letter <= '9') {
                return DIGITS;
            }
            return OTHER;
        }

        boolean isEnd() {
            return kind == END;
        }

        boolean isSemicolon() {
            return kind == OTHER && bytes[start] == ';';
        }

        boolean isWord(String word) {
            if (kind != LETTERS || next - start != word.length()) {
                return false;
            }
            for (int i = 0; i < word.length(); i++) {
                if (bytes[start + i] != word.charAt(i)) {
                    return false;
                }
            }
            return true;
        }

        /** The token as a number from least to most, neither below 0; NONE if it is no such number. */
        int asNumber(int least, int most) {
            if (kind != DIGITS || next - start > MOST_DIGITS) {
                return NONE;
            }
            int number = 0;
            for (int i = start; i < next; i++) {
                number = number * 10 + bytes[i] - '0';
            }
            return number < least || number > most ? NONE : number;
        }

        /** The token as a single term; NONE if it is none. */
        int asTerm() {
            if (kind != LETTERS || next - start != 1) {
                return NONE;
            }
            int term = bytes[start] - 'a';
            return isTerm(term) ? term : NONE;
        }

        /** The token as a set of terms; 0 if it is no row of such letters or too long a one. */
        int asTerms() {
            if (kind != LETTERS || next - start > TERMS) {
                return 0;
            }
            int terms = 0;
            for (int i = start; i < next; i++) {
                int term = bytes[i] - 'a';
                if (!isTerm(term)) {
                    return 0;
                }
                terms = with(terms, term);
            }
            return terms;
        }
    }

    /** Reads the clauses of a text and carries them out at once, on a draft that a fault makes worthless. */
    private static final class ClauseReader {
        /** How many clauses were read and found right. */
        int clauses = 0;
        private final Text text;
        private final int[] newOrder = new int[MOST_SECTIONS];

        ClauseReader(Text text) {
            this.text = text;
        }

        /** Answers the fault of the text, NONE if it has none. */
        int carryOut(Manual draft) {
            text.rewind();
            for (int read = 1; read <= MOST_CLAUSES; read++) {
                text.take();
                if (!readClause(draft)) {
                    return text.start;
                }
                clauses = read;
                text.take();
                if (text.isEnd()) {
                    return NONE;
                }
                if (!text.isSemicolon()) {
                    return text.start;
                }
            }
            return text.start;
        }

        /** Answers whether the clause is right; if not, the token taken last is the one at fault. */
        private boolean readClause(Manual draft) {
            if (text.isWord("sections")) {
                return readSections(draft);
            }
            if (text.isWord("pages")) {
                return readPages(draft);
            }
            if (text.isWord("home")) {
                return readHome(draft);
            }
            if (text.isWord("uses")) {
                return readUses(draft);
            }
            if (text.isWord("ahead")) {
                return readAhead(draft);
            }
            if (text.isWord("order")) {
                return readOrder(draft);
            }
            return false;
        }

        private int takeNumber(int least, int most) {
            text.take();
            return text.asNumber(least, most);
        }

        private int takeSection(Manual draft) {
            text.take();
            return text.asNumber(0, draft.n - 1);
        }

        private boolean readSections(Manual draft) {
            int sections = takeNumber(LEAST_SECTIONS, MOST_SECTIONS);
            if (sections == NONE) {
                return false;
            }
            draft.beginAnew(sections);
            return true;
        }

        private boolean readPages(Manual draft) {
            int section = takeSection(draft);
            if (section == NONE) {
                return false;
            }
            int length = takeNumber(1, MOST_PAGES);
            if (length == NONE) {
                return false;
            }
            draft.lengths[section] = length;
            return true;
        }

        private boolean readHome(Manual draft) {
            text.take();
            int term = text.asTerm();
            if (term == NONE) {
                return false;
            }
            int section = takeSection(draft);
            if (section == NONE) {
                return false;
            }
            draft.homes[term] = section;
            return true;
        }

        private boolean readUses(Manual draft) {
            int section = takeSection(draft);
            if (section == NONE) {
                return false;
            }
            text.take();
            int terms = text.asTerms();
            if (terms == 0) {
                return false;
            }
            draft.used[section] |= terms;
            return true;
        }

        private boolean readAhead(Manual draft) {
            int a = takeSection(draft);
            if (a == NONE) {
                return false;
            }
            int b = takeSection(draft);
            if (b == NONE || b == a) {
                return false;
            }
            if (draft.canTakePrecedence(a, b)) {
                draft.before[b] = with(draft.before[b], a);
            }
            return true;
        }

        private boolean readOrder(Manual draft) {
            int listed = 0;
            for (int p = 0; p < draft.n; p++) {
                int section = takeSection(draft);
                if (section == NONE || has(listed, section)) {
                    return false;
                }
                listed = with(listed, section);
                newOrder[p] = section;
            }
            if (draft.respectsPrecedences(newOrder)) {
                draft.takeOrder(newOrder);
            }
            return true;
        }
    }
}
