import java.util.ArrayDeque;
import java.util.ArrayList;
import java.util.Deque;
import java.util.HashSet;
import java.util.LinkedHashMap;
import java.util.List;
import java.util.Map;
import java.util.Set;
import java.util.TreeMap;
import java.util.TreeSet;
import java.util.regex.Matcher;
import java.util.regex.Pattern;

/**
 * The document put down a second time, with the Java library and by trying everything out: the best
 * order by going through the orders, the shortest cycle by going through the cycles.
 */
final class PlainModel {
    static final int NONE = -1, UNKNOWN = -2, OUTSIDE = -3, NOT = -4, FULL = -5;

    /** A whole manual. */
    private static final class State {
        List<Integer> order = new ArrayList<>();
        Map<Integer, Integer> pages = new TreeMap<>();
        Map<Integer, Set<Integer>> uses = new TreeMap<>();
        Map<Integer, Integer> homes = new TreeMap<>();
        Set<List<Integer>> precedences = new HashSet<>();

        State(int n) {
            for (int s = 0; s < n; s++) {
                order.add(s);
                pages.put(s, 1);
                uses.put(s, new TreeSet<>());
            }
        }

        State copy() {
            State c = new State(0);
            c.order.addAll(order);
            c.pages.putAll(pages);
            uses.forEach((s, terms) -> c.uses.put(s, new TreeSet<>(terms)));
            c.homes.putAll(homes);
            c.precedences.addAll(precedences);
            return c;
        }

        int n() {
            return order.size();
        }

        boolean isSection(int s) {
            return order.contains(s);
        }

        boolean respects(List<Integer> sections) {
            return precedences.stream().allMatch(p -> sections.indexOf(p.get(0)) < sections.indexOf(p.get(1)));
        }

        boolean isEarly(int term, int section, List<Integer> sections) {
            return uses.get(section).contains(term) && homes.containsKey(term)
                    && sections.indexOf(homes.get(term)) > sections.indexOf(section);
        }

        int noteSection(int term, List<Integer> sections) {
            return sections.stream().filter(s -> isEarly(term, s, sections)).findFirst().orElse(NONE);
        }

        int noteLength(int term, List<Integer> sections) {
            int s = noteSection(term, sections);
            if (s == NONE) {
                return 0;
            }
            return sections.subList(sections.indexOf(s), sections.indexOf(homes.get(term))).stream()
                    .mapToInt(pages::get).sum();
        }

        Set<Integer> noted(List<Integer> sections) {
            Set<Integer> terms = new TreeSet<>();
            for (int t = 0; t < 12; t++) {
                if (noteSection(t, sections) != NONE) {
                    terms.add(t);
                }
            }
            return terms;
        }

        int sumLengths(List<Integer> sections) {
            int sum = 0;
            for (int t = 0; t < 12; t++) {
                sum += noteLength(t, sections);
            }
            return sum;
        }

        boolean isLoose(int term) {
            return !homes.containsKey(term) && uses.values().stream().anyMatch(u -> u.contains(term));
        }

        Set<Integer> needs(int section) {
            Set<Integer> needed = new TreeSet<>();
            for (int t : uses.get(section)) {
                if (homes.containsKey(t) && homes.get(t) != section) {
                    needed.add(homes.get(t));
                }
            }
            return needed;
        }

        Set<Integer> reachable(int from) {
            Set<Integer> found = new TreeSet<>(List.of(from));
            Deque<Integer> open = new ArrayDeque<>(found);
            while (!open.isEmpty()) {
                for (int s : needs(open.pop())) {
                    if (found.add(s)) {
                        open.push(s);
                    }
                }
            }
            return found;
        }

        Set<Integer> component(int section) {
            Set<Integer> members = new TreeSet<>(reachable(section));
            members.removeIf(s -> !reachable(s).contains(section));
            return members;
        }

        /** Cycles of two sections first, then of three and so on: the first length that has some is the least. */
        List<Integer> shortestCycle() {
            for (int length = 2; length <= n(); length++) {
                List<List<Integer>> cycles = new ArrayList<>();
                for (int s = 0; s < n(); s++) {
                    collectCycles(new ArrayList<>(List.of(s)), length, cycles);
                }
                if (!cycles.isEmpty()) {
                    cycles.sort(State::lexically);
                    return cycles.get(0);
                }
            }
            return List.of();
        }

        private void collectCycles(List<Integer> path, int length, List<List<Integer>> cycles) {
            Set<Integer> next = needs(path.get(path.size() - 1));
            if (path.size() == length) {
                if (next.contains(path.get(0))) {
                    cycles.add(List.copyOf(path));
                }
                return;
            }
            for (int s : next) {
                if (!path.contains(s)) {
                    path.add(s);
                    collectCycles(path, length, cycles);
                    path.remove(path.size() - 1);
                }
            }
        }

        private static int lexically(List<Integer> a, List<Integer> b) {
            for (int i = 0; i < a.size(); i++) {
                if (!a.get(i).equals(b.get(i))) {
                    return Integer.compare(a.get(i), b.get(i));
                }
            }
            return 0;
        }

        int inversions(List<Integer> sections) {
            int sum = 0;
            for (int i = 0; i < n(); i++) {
                for (int j = i + 1; j < n(); j++) {
                    if (sections.indexOf(order.get(i)) > sections.indexOf(order.get(j))) {
                        sum++;
                    }
                }
            }
            return sum;
        }

        /** Orders are tried in the sequence of the last rule, so a later one must be truly better. */
        List<Integer> bestOrder() {
            List<List<Integer>> found = new ArrayList<>();
            tryOrders(new ArrayList<>(), found, new int[] {Integer.MAX_VALUE, Integer.MAX_VALUE});
            return found.get(found.size() - 1);
        }

        private void tryOrders(List<Integer> begun, List<List<Integer>> found, int[] least) {
            if (begun.size() == n()) {
                int notes = noted(begun).size();
                int inversions = inversions(begun);
                if (notes < least[0] || (notes == least[0] && inversions < least[1])) {
                    found.add(List.copyOf(begun));
                    least[0] = notes;
                    least[1] = inversions;
                }
                return;
            }
            for (int s : order) {
                if (begun.contains(s) || precedences.stream().anyMatch(p -> p.get(1) == s && !begun.contains(p.get(0)))) {
                    continue;
                }
                begun.add(s);
                if (n() < 7 || notesSoFar(begun) <= least[0]) {
                    tryOrders(begun, found, least);
                }
                begun.remove(begun.size() - 1);
            }
        }

        /** Only to leave off early where there are many orders. */
        private int notesSoFar(List<Integer> begun) {
            int sum = 0;
            for (Map.Entry<Integer, Integer> e : homes.entrySet()) {
                int home = begun.indexOf(e.getValue());
                for (int i = 0; i < home; i++) {
                    if (uses.get(begun.get(i)).contains(e.getKey())) {
                        sum++;
                        break;
                    }
                }
            }
            return sum;
        }
    }

    private static final Pattern TOKEN = Pattern.compile("[a-z]+|[0-9]+|[^ ]", Pattern.DOTALL);
    private static final Map<String, String> SHAPES = new LinkedHashMap<>();

    static {
        SHAPES.put("sections", "N");
        SHAPES.put("pages", "SL");
        SHAPES.put("home", "TS");
        SHAPES.put("uses", "SW");
        SHAPES.put("ahead", "SB");
        SHAPES.put("order", "R");
    }

    private State now = new State(4);
    private String text = "";
    private final Deque<State> past = new ArrayDeque<>();
    private final Map<Integer, State> saved = new TreeMap<>();
    private State told;
    private int clauses;

    private static int bits(Set<Integer> set) {
        return set.stream().mapToInt(e -> 1 << e).sum();
    }

    private static boolean isTerm(int term) {
        return 0 <= term && term <= 11;
    }

    private void remember() {
        past.push(now.copy());
        if (past.size() > 8) {
            past.removeLast();
        }
    }

    int write(int letter) {
        if (letter < 0 || letter > 255) {
            return OUTSIDE;
        }
        if (text.length() == 200) {
            return FULL;
        }
        text += (char) letter;
        return text.length();
    }

    int erase() {
        int length = text.length();
        text = "";
        return length;
    }

    int fault() {
        List<String> tokens = new ArrayList<>();
        List<Integer> places = new ArrayList<>();
        Matcher m = TOKEN.matcher(text);
        while (m.find()) {
            tokens.add(m.group());
            places.add(m.start());
        }
        places.add(text.length());
        told = now.copy();
        clauses = 0;
        int i = 0;
        while (true) {
            List<String> rest = tokens.subList(i, tokens.size());
            int right = clause(rest);
            int due = rest.isEmpty() || !SHAPES.containsKey(rest.get(0)) ? 1 : length(rest.get(0));
            if (right < due) {
                return places.get(i + right);
            }
            clauses++;
            i += right;
            if (i == tokens.size()) {
                return NONE;
            }
            if (!tokens.get(i).equals(";") || clauses == 24) {
                return places.get(i);
            }
            i++;
        }
    }

    /** n as it was before the clause, for the number of tokens of an order. */
    private int sectionsBefore;

    private int length(String word) {
        return word.equals("order") ? 1 + sectionsBefore : 1 + SHAPES.get(word).length();
    }

    /** The number of tokens from the first one on that can stand; carries the clause out if all do. */
    private int clause(List<String> tokens) {
        sectionsBefore = told.n();
        if (tokens.isEmpty() || !SHAPES.containsKey(tokens.get(0))) {
            return 0;
        }
        String shape = SHAPES.get(tokens.get(0));
        if (shape.equals("R")) {
            shape = "O".repeat(told.n());
        }
        for (int i = 1; i <= shape.length(); i++) {
            if (i >= tokens.size() || !fits(shape.charAt(i - 1), tokens, i)) {
                return i;
            }
        }
        carryOut(tokens.subList(0, shape.length() + 1));
        return shape.length() + 1;
    }

    private boolean fits(char kind, List<String> tokens, int i) {
        String token = tokens.get(i);
        if (kind == 'T') {
            return token.matches("[a-l]");
        }
        if (kind == 'W') {
            return token.matches("[a-l]{1,12}");
        }
        if (!token.matches("[0-9]{1,2}")) {
            return false;
        }
        int number = Integer.parseInt(token);
        switch (kind) {
            case 'N':
                return 2 <= number && number <= 10;
            case 'L':
                return 1 <= number && number <= 9;
            case 'S':
                return told.isSection(number);
            default:
                return told.isSection(number)
                        && tokens.subList(1, i).stream().noneMatch(t -> Integer.parseInt(t) == number);
        }
    }

    private void carryOut(List<String> c) {
        switch (c.get(0)) {
            case "sections":
                told = new State(number(c, 1));
                break;
            case "pages":
                told.pages.put(number(c, 1), number(c, 2));
                break;
            case "home":
                told.homes.put(c.get(1).charAt(0) - 'a', number(c, 2));
                break;
            case "uses":
                c.get(2).chars().forEach(t -> told.uses.get(number(c, 1)).add(t - 'a'));
                break;
            case "ahead":
                if (told.order.indexOf(number(c, 1)) < told.order.indexOf(number(c, 2))) {
                    told.precedences.add(List.of(number(c, 1), number(c, 2)));
                }
                break;
            default:
                List<Integer> sections = new ArrayList<>();
                c.subList(1, c.size()).forEach(t -> sections.add(Integer.parseInt(t)));
                if (told.respects(sections)) {
                    told.order = sections;
                }
        }
    }

    private static int number(List<String> clause, int i) {
        return Integer.parseInt(clause.get(i));
    }

    int tell() {
        if (fault() != NONE) {
            return NOT;
        }
        now = told;
        text = "";
        past.clear();
        return clauses;
    }

    int pages(int section, int l) {
        if (!now.isSection(section)) {
            return UNKNOWN;
        }
        if (l < 1 || l > 9) {
            return OUTSIDE;
        }
        remember();
        return now.pages.put(section, l);
    }

    int uses(int section, int term, int on) {
        if (!now.isSection(section) || !isTerm(term)) {
            return UNKNOWN;
        }
        if (on < 0 || on > 1) {
            return OUTSIDE;
        }
        remember();
        Set<Integer> terms = now.uses.get(section);
        return (on == 1 ? terms.add(term) : terms.remove(term)) ? 1 : 0;
    }

    int home(int term, int section) {
        if (!isTerm(term) || (section != NONE && !now.isSection(section))) {
            return UNKNOWN;
        }
        remember();
        Integer old = section == NONE ? now.homes.remove(term) : now.homes.put(term, section);
        return old == null ? NONE : old;
    }

    int ahead(int a, int b) {
        if (!now.isSection(a) || !now.isSection(b) || a == b) {
            return UNKNOWN;
        }
        if (now.order.indexOf(b) < now.order.indexOf(a) || now.precedences.contains(List.of(a, b))) {
            return NOT;
        }
        remember();
        now.precedences.add(List.of(a, b));
        return now.precedences.size();
    }

    int loosen(int a, int b) {
        if (!now.isSection(a) || !now.isSection(b)) {
            return UNKNOWN;
        }
        if (!now.precedences.contains(List.of(a, b))) {
            return NOT;
        }
        remember();
        now.precedences.remove(List.of(a, b));
        return now.precedences.size();
    }

    private List<Integer> moved(int section, int p) {
        List<Integer> sections = new ArrayList<>(now.order);
        sections.remove(Integer.valueOf(section));
        sections.add(p, section);
        return sections;
    }

    int move(int section, int p) {
        int notes = after(section, p);
        if (notes >= 0) {
            remember();
            now.order = moved(section, p);
        }
        return notes;
    }

    int settle() {
        List<Integer> sections = now.bestOrder();
        int inversions = now.inversions(sections);
        remember();
        now.order = new ArrayList<>(sections);
        return inversions;
    }

    int undo() {
        if (past.isEmpty()) {
            return NOT;
        }
        now = past.pop();
        return past.size();
    }

    int keep(int k) {
        if (k < 0 || k > 1) {
            return OUTSIDE;
        }
        saved.put(k, now.copy());
        return now.noted(now.order).size();
    }

    int back(int k) {
        if (k < 0 || k > 1) {
            return OUTSIDE;
        }
        if (!saved.containsKey(k)) {
            return NOT;
        }
        now = saved.get(k).copy();
        past.clear();
        return now.noted(now.order).size();
    }

    int at(int place) {
        return place < 0 || place >= now.n() ? UNKNOWN : now.order.get(place);
    }

    int section(int section, int what) {
        if (!now.isSection(section)) {
            return UNKNOWN;
        }
        Set<Integer> set = new TreeSet<>();
        switch (what) {
            case 0:
                return now.order.indexOf(section);
            case 1:
                return now.pages.get(section);
            case 2:
                return bits(now.uses.get(section));
            case 3:
                now.homes.forEach((t, home) -> {
                    if (home == section) {
                        set.add(t);
                    }
                });
                return bits(set);
            case 4:
                for (int t = 0; t < 12; t++) {
                    if (now.isEarly(t, section, now.order)) {
                        set.add(t);
                    }
                }
                return bits(set);
            case 5:
                for (int t = 0; t < 12; t++) {
                    if (now.noteSection(t, now.order) == section) {
                        set.add(t);
                    }
                }
                return bits(set);
            case 6:
                return bits(now.needs(section));
            case 7:
                return bits(now.component(section));
            case 8:
                now.precedences.stream().filter(p -> p.get(1) == section).forEach(p -> set.add(p.get(0)));
                return bits(set);
            default:
                return OUTSIDE;
        }
    }

    int term(int term, int what) {
        if (!isTerm(term)) {
            return UNKNOWN;
        }
        switch (what) {
            case 0:
                return now.homes.getOrDefault(term, NONE);
            case 1:
                Set<Integer> users = new TreeSet<>(now.order);
                users.removeIf(s -> !now.uses.get(s).contains(term));
                return bits(users);
            case 2:
                return now.noteSection(term, now.order);
            case 3:
                return now.noteLength(term, now.order);
            case 4:
                return now.isLoose(term) ? 1 : 0;
            default:
                return OUTSIDE;
        }
    }

    int ring(int k) {
        if (k < -1) {
            return OUTSIDE;
        }
        List<Integer> cycle = now.shortestCycle();
        return k == NONE ? cycle.size() : k < cycle.size() ? cycle.get(k) : NONE;
    }

    int best(int place) {
        return place < 0 || place >= now.n() ? UNKNOWN : now.bestOrder().get(place);
    }

    int least(int what) {
        if (what < 0 || what > 3) {
            return OUTSIDE;
        }
        List<Integer> sections = now.bestOrder();
        int[] answers = {bits(now.noted(sections)), now.noted(sections).size(), now.inversions(sections),
            now.sumLengths(sections)};
        return answers[what];
    }

    int would(int section, int term) {
        if (!now.isSection(section) || !isTerm(term)) {
            return UNKNOWN;
        }
        State changed = now.copy();
        changed.uses.get(section).add(term);
        return changed.noted(changed.bestOrder()).size();
    }

    int after(int section, int p) {
        if (!now.isSection(section) || p < 0 || p >= now.n()) {
            return UNKNOWN;
        }
        List<Integer> sections = moved(section, p);
        return now.respects(sections) ? now.noted(sections).size() : NOT;
    }

    int count(int what) {
        int sum = 0;
        switch (what) {
            case 0:
                return now.n();
            case 1:
                return now.noted(now.order).size();
            case 2:
                for (int t = 0; t < 12; t++) {
                    sum += now.isLoose(t) ? 1 : 0;
                }
                return sum;
            case 3:
                return now.homes.size();
            case 4:
                return now.uses.values().stream().mapToInt(Set::size).sum();
            case 5:
                for (int s : now.order) {
                    sum += Integer.bitCount(section(s, 4));
                }
                return sum;
            case 6:
                return now.precedences.size();
            case 7:
                return now.sumLengths(now.order);
            case 8:
                Set<Set<Integer>> components = new HashSet<>();
                now.order.forEach(s -> components.add(now.component(s)));
                components.removeIf(c -> c.size() < 2);
                return components.size();
            case 9:
                return past.size();
            case 10:
                return text.length();
            case 11:
                return now.pages.values().stream().mapToInt(Integer::intValue).sum();
            default:
                return OUTSIDE;
        }
    }
}
