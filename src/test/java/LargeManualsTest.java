import java.util.Random;

/**
 * The best order of drawn manuals with seven to ten sections, compared with going through all orders. Such manuals
 * are too large for the plain model to try them often.
 */
public final class LargeManualsTest {
    private static final int TERMS = 12;

    private final Random random;
    private final String name;
    private final int n;
    private final TermsFirst x = new TermsFirst();
    private final int[] used;
    private final int[] pages;
    private final int[] homes = new int[TERMS];
    private final int[] before;
    private final int[] present;
    private final int[] tried;
    private final int[] place;
    private final int[] best;
    private int leastNotes = Integer.MAX_VALUE;
    private int leastInversions = Integer.MAX_VALUE;

    private LargeManualsTest(long seed, int n) {
        random = new Random(seed);
        name = n + " sections, seed " + seed;
        this.n = n;
        used = new int[n];
        pages = new int[n];
        before = new int[n];
        present = new int[n];
        tried = new int[n];
        place = new int[n];
        best = new int[n];
    }

    public static void main(String[] args) {
        int factor = args.length > 0 ? Integer.parseInt(args[0]) : 1;
        int[] runs = {200, 100, 30, 8};
        for (int n = 7; n <= 10; n++) {
            for (int i = 0; i < runs[n - 7] * factor; i++) {
                new LargeManualsTest(1000L * n + i, n).run();
            }
        }
        Script.end();
    }

    private void run() {
        type("sections " + n);
        drawUses();
        drawOrder();
        drawPrecedences();
        tryFrom(0, 0);
        compare();
    }

    private void type(String text) {
        for (int i = 0; i < text.length(); i++) {
            x.write(text.charAt(i));
        }
        due("tell() of " + text, x.tell(), 1);
    }

    private void drawUses() {
        for (int term = 0; term < TERMS; term++) {
            homes[term] = random.nextInt(6) == 0 ? TermsFirst.NONE : random.nextInt(n);
            x.home(term, homes[term]);
        }
        int density = 2 + random.nextInt(8);
        for (int s = 0; s < n; s++) {
            pages[s] = 1 + random.nextInt(9);
            x.pages(s, pages[s]);
            for (int term = 0; term < TERMS; term++) {
                if (random.nextInt(density) == 0) {
                    used[s] |= 1 << term;
                    x.uses(s, term, 1);
                }
            }
        }
    }

    private void drawOrder() {
        for (int i = random.nextInt(2 * n); i > 0; i--) {
            x.move(random.nextInt(n), random.nextInt(n));
        }
        for (int p = 0; p < n; p++) {
            present[p] = x.at(p);
        }
    }

    private void drawPrecedences() {
        for (int i = random.nextInt(n + 2); i > 0; i--) {
            int p = random.nextInt(n - 1);
            int q = p + 1 + random.nextInt(n - 1 - p);
            x.ahead(present[p], present[q]);
            before[present[q]] |= 1 << present[p];
        }
    }

    /** Goes through the orders in the sequence of the last rule, so a later one must be truly better. */
    private void tryFrom(int p, int placed) {
        if (p == n) {
            weigh();
            return;
        }
        for (int s : present) {
            if ((placed & 1 << s) == 0 && (before[s] & ~placed) == 0) {
                tried[p] = s;
                place[s] = p;
                tryFrom(p + 1, placed | 1 << s);
            }
        }
    }

    private void weigh() {
        int notes = Integer.bitCount(noted());
        if (notes > leastNotes) {
            return;
        }
        int inversions = 0;
        for (int i = 0; i < n; i++) {
            for (int j = i + 1; j < n; j++) {
                inversions += place[present[i]] > place[present[j]] ? 1 : 0;
            }
        }
        if (notes < leastNotes || inversions < leastInversions) {
            leastNotes = notes;
            leastInversions = inversions;
            System.arraycopy(tried, 0, best, 0, n);
        }
    }

    private int noted() {
        int terms = 0;
        for (int term = 0; term < TERMS; term++) {
            if (firstEarly(term) >= 0) {
                terms |= 1 << term;
            }
        }
        return terms;
    }

    /** The first place of the order on trial at which the term is early, -1 if there is none. */
    private int firstEarly(int term) {
        int home = homes[term] == TermsFirst.NONE ? 0 : place[homes[term]];
        for (int p = 0; p < home; p++) {
            if ((used[tried[p]] & 1 << term) != 0) {
                return p;
            }
        }
        return -1;
    }

    private int sumLengths() {
        int sum = 0;
        for (int term = 0; term < TERMS; term++) {
            int first = firstEarly(term);
            for (int p = first; first >= 0 && p < place[homes[term]]; p++) {
                sum += pages[tried[p]];
            }
        }
        return sum;
    }

    private void compare() {
        for (int p = 0; p < n; p++) {
            due("best(" + p + ")", x.best(p), best[p]);
            tried[p] = best[p];
            place[best[p]] = p;
        }
        due("least(0)", x.least(0), noted());
        due("least(1)", x.least(1), leastNotes);
        due("least(2)", x.least(2), leastInversions);
        due("least(3)", x.least(3), sumLengths());
        int user = best[0];
        for (int term = 0; term < TERMS; term++) {
            if ((used[user] & 1 << term) != 0) {
                due("would(" + user + ", " + term + ")", x.would(user, term), leastNotes);
            }
        }
        due("settle()", x.settle(), leastInversions);
        for (int p = 0; p < n; p++) {
            due("at(" + p + ") after settle()", x.at(p), best[p]);
        }
        due("count(1) after settle()", x.count(1), leastNotes);
        due("count(7) after settle()", x.count(7), sumLengths());
    }

    private void due(String call, int got, int want) {
        Script.due(name, call, got, want);
    }
}
