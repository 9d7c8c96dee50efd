import java.util.ArrayDeque;
import java.util.ArrayList;
import java.util.Deque;
import java.util.List;
import java.util.TreeSet;

/**
 * The document once more, by lists and sets and the most roundabout ways (orders told one by one, texts
 * tried with all that may come behind them), so that it shares no shortcut with the class.
 */
final class Model {
    private static final int UNKNOWN = -1, BAD = -2, LATE = -3, FULL = -4, NONE = -9;
    private static final List<String> TEXT_ENDS = textEnds();

    private String text = "";
    private List<String> things = new ArrayList<>();
    private Where where = new Where();
    private final Deque<Where> acts = new ArrayDeque<>();
    private final List<int[]> sworn = new ArrayList<>();
    private final Where[] slots = new Where[2];
    private long seed = 0;

    /** Where slips are, and the night. */
    private static final class Where {
        final List<List<Integer>> spikes = new ArrayList<>();
        final TreeSet<Integer> hand = new TreeSet<>();
        final TreeSet<Integer> gone = new TreeSet<>();
        int night = 0;

        Where() {
            for (int i = 0; i < 3; i++) {
                spikes.add(new ArrayList<>());
            }
            for (int i = 0; i < 8; i++) {
                hand.add(i);
            }
        }

        Where copy() {
            Where copy = new Where();
            for (int i = 0; i < 3; i++) {
                copy.spikes.get(i).addAll(spikes.get(i));
            }
            copy.hand.retainAll(hand);
            copy.gone.addAll(gone);
            copy.night = night;
            return copy;
        }

        TreeSet<Integer> spiked() {
            TreeSet<Integer> all = new TreeSet<>();
            for (List<Integer> spike : spikes) {
                all.addAll(spike);
            }
            return all;
        }

        int mice() {
            int eaten = 0;
            for (List<Integer> spike : spikes) {
                if (spike.size() >= 3) {
                    gone.add(spike.remove(0));
                    eaten++;
                }
            }
            night++;
            return eaten;
        }

        int audited(int spike) {
            List<Integer> old = spikes.get(spike);
            List<Integer> turned = new ArrayList<>();
            for (Integer slip : old) {
                turned.add(0, slip);
            }
            spikes.set(spike, turned);
            return turned.isEmpty() ? NONE : turned.get(turned.size() - 1);
        }

        /** One doing told by three figures, if it can be. */
        boolean does(int what, int b, int c) {
            if (what == 0 && b == 0 && c == 0) {
                mice();
                return true;
            }
            if (what == 1 && c < 3 && hand.contains(b)) {
                hand.remove(b);
                spikes.get(c).add(b);
                return true;
            }
            if (what == 2 && b == 0 && c < 3 && !spikes.get(c).isEmpty()) {
                hand.add(spikes.get(c).remove(spikes.get(c).size() - 1));
                return true;
            }
            if (what == 3 && b == 0 && hand.contains(c)) {
                hand.remove(c);
                gone.add(c);
                return true;
            }
            if (what == 4 && b == 0 && gone.contains(c)) {
                gone.remove(c);
                hand.add(c);
                return true;
            }
            if (what == 5 && b == 0 && c < 3) {
                audited(c);
                return true;
            }
            return false;
        }
    }

    private static int bits(Iterable<Integer> numbers) {
        int bits = 0;
        for (int number : numbers) {
            bits |= 1 << number;
        }
        return bits;
    }

    private static TreeSet<Integer> numbers(int bits) {
        TreeSet<Integer> numbers = new TreeSet<>();
        for (int i = 0; i < 30; i++) {
            if ((bits >> i & 1) == 1) {
                numbers.add(i);
            }
        }
        return numbers;
    }

    // ---- what is so

    private boolean holds(char ground, TreeSet<Integer> slips) {
        return ground <= '7' ? slips.contains(ground - '0') : so(ground - 'A', slips);
    }

    private boolean so(int thing, TreeSet<Integer> slips) {
        String told = things.get(thing);
        boolean a = holds(told.charAt(1), slips);
        boolean b = holds(told.charAt(2), slips);
        boolean c = holds(told.charAt(3), slips);
        int many = (a ? 1 : 0) + (b ? 1 : 0) + (c ? 1 : 0);
        switch (told.charAt(0)) {
            case '0': return many == 3;
            case '1': return c && many >= 2;
            case '2': return !a && many >= 1;
            default: return many >= 2;
        }
    }

    private TreeSet<Integer> allSo(TreeSet<Integer> slips) {
        TreeSet<Integer> so = new TreeSet<>();
        for (int thing = 0; thing < things.size(); thing++) {
            if (so(thing, slips)) {
                so.add(thing);
            }
        }
        return so;
    }

    // ---- the town

    int write(int letter) {
        if (letter < 0 || letter > 255) {
            return BAD;
        }
        if (text.length() == 48) {
            return FULL;
        }
        text += (char) letter;
        return text.length();
    }

    int wipe() {
        int old = text.length();
        text = "";
        return old;
    }

    private static List<String> textEnds() {
        List<String> ends = new ArrayList<>(List.of("", "R", "0", "00", "000", "0000"));
        for (int slip = 0; slip < 8; slip++) {
            ends.add("" + slip);
            ends.add("0" + slip);
        }
        return ends;
    }

    private static boolean isTown(String text) {
        if (!text.matches("R(S[0-2][0-7]|T[0-3][0-7A-F]{3})*")) {
            return false;
        }
        TreeSet<Character> slips = new TreeSet<>();
        int things = 0;
        int place = 1;
        while (place < text.length()) {
            if (text.charAt(place) == 'S') {
                if (!slips.add(text.charAt(place + 2))) {
                    return false;
                }
                place += 3;
            } else {
                for (int i = 2; i <= 4; i++) {
                    if (text.charAt(place + i) >= 'A' + things) {
                        return false;
                    }
                }
                things++;
                place += 5;
            }
        }
        return things <= 6;
    }

    int fault() {
        for (int length = 1; length <= text.length(); length++) {
            boolean can = false;
            for (String end : TEXT_ENDS) {
                can |= isTown(text.substring(0, length) + end);
            }
            if (!can) {
                return length - 1;
            }
        }
        return isTown(text) ? NONE : text.length();
    }

    int town() {
        if (!isTown(text)) {
            return LATE;
        }
        where = new Where();
        things = new ArrayList<>();
        int place = 1;
        while (place < text.length()) {
            if (text.charAt(place) == 'S') {
                int slip = text.charAt(place + 2) - '0';
                where.hand.remove(slip);
                where.spikes.get(text.charAt(place + 1) - '0').add(slip);
                place += 3;
            } else {
                things.add(text.substring(place + 1, place + 5));
                place += 5;
            }
        }
        acts.clear();
        slots[0] = null;
        slots[1] = null;
        return 10 * where.spiked().size() + things.size();
    }

    int about(int what) {
        switch (what) {
            case 0: return things.size();
            case 1: return where.night;
            case 2: return bits(where.spiked());
            case 3: return bits(where.hand);
            case 4: return bits(where.gone);
            case 5: return bits(allSo(where.spiked()));
            case 6: return acts.size();
            case 7: return sworn.size();
            case 8: return text.length();
            default: return BAD;
        }
    }

    int slip(int slip, int what) {
        if (slip < 0 || slip > 7) {
            return UNKNOWN;
        }
        if (what < 0 || what > 3) {
            return BAD;
        }
        if (what == 2) {
            return where.hand.contains(slip) ? 1 : where.gone.contains(slip) ? 2 : 0;
        }
        if (what == 3) {
            TreeSet<Integer> with = where.spiked();
            with.add(slip);
            TreeSet<Integer> without = where.spiked();
            without.remove(slip);
            int hangs = 0;
            for (int thing = 0; thing < things.size(); thing++) {
                hangs += so(thing, with) != so(thing, without) ? 1 << thing : 0;
            }
            return hangs;
        }
        for (int spike = 0; spike < 3; spike++) {
            int height = where.spikes.get(spike).indexOf(slip);
            if (height >= 0) {
                return what == 0 ? spike : height;
            }
        }
        return NONE;
    }

    int spike(int spike, int what) {
        if (spike < 0 || spike > 2) {
            return UNKNOWN;
        }
        List<Integer> slips = where.spikes.get(spike);
        if (what == 0) {
            return slips.size();
        }
        if (what != 1 && what != 2) {
            return BAD;
        }
        return slips.isEmpty() ? NONE : slips.get(what == 1 ? 0 : slips.size() - 1);
    }

    private boolean isThing(int thing) {
        return thing >= 0 && thing < things.size();
    }

    int thing(int thing, int what) {
        if (!isThing(thing)) {
            return UNKNOWN;
        }
        if (what < 0 || what > 4) {
            return BAD;
        }
        if (what == 4) {
            return so(thing, where.spiked()) ? 1 : 0;
        }
        char told = things.get(thing).charAt(what);
        return told >= 'A' ? 10 + told - 'A' : told - '0';
    }

    // ---- acts

    private void remember() {
        acts.addLast(where.copy());
        if (acts.size() > 14) {
            acts.removeFirst();
        }
    }

    int put(int slip, int spike) {
        if (slip < 0 || slip > 7 || spike < 0 || spike > 2) {
            return UNKNOWN;
        }
        if (!where.hand.contains(slip)) {
            return LATE;
        }
        remember();
        where.does(1, slip, spike);
        return where.spikes.get(spike).size() - 1;
    }

    int take(int spike) {
        if (spike < 0 || spike > 2) {
            return UNKNOWN;
        }
        int top = spike(spike, 2);
        if (top == NONE) {
            return LATE;
        }
        remember();
        where.does(2, 0, spike);
        return top;
    }

    int tear(int slip) {
        if (slip < 0 || slip > 7) {
            return UNKNOWN;
        }
        if (!where.hand.contains(slip)) {
            return LATE;
        }
        remember();
        where.does(3, 0, slip);
        return where.gone.size();
    }

    int forge(int slip) {
        if (slip < 0 || slip > 7) {
            return UNKNOWN;
        }
        if (!where.gone.contains(slip)) {
            return LATE;
        }
        remember();
        where.does(4, 0, slip);
        return where.gone.size();
    }

    int night() {
        remember();
        return where.mice();
    }

    int audit(int spike) {
        if (spike < 0 || spike > 2) {
            return UNKNOWN;
        }
        remember();
        return where.audited(spike);
    }

    int undo() {
        if (acts.isEmpty()) {
            return LATE;
        }
        where = acts.removeLast();
        return acts.size();
    }

    // ---- nights to come, slips

    int later(int n) {
        if (n < 0 || n > 20) {
            return BAD;
        }
        Where then = where.copy();
        for (int i = 0; i < n; i++) {
            then.mice();
        }
        return bits(allSo(then.spiked()));
    }

    int lasts(int thing) {
        if (!isThing(thing)) {
            return UNKNOWN;
        }
        if (!so(thing, where.spiked())) {
            return LATE;
        }
        for (int n = 1; n <= 20; n++) {
            if ((later(n) >> thing & 1) == 0) {
                return n;
            }
        }
        return NONE;
    }

    int wants(int thing) {
        if (!isThing(thing)) {
            return UNKNOWN;
        }
        for (int many = 0; many <= 8; many++) {
            for (int set = 0; set < 256; set++) {
                TreeSet<Integer> slips = numbers(set);
                TreeSet<Integer> then = where.spiked();
                if (slips.size() == many && java.util.Collections.disjoint(slips, then)) {
                    then.addAll(slips);
                    if (so(thing, then)) {
                        return set;
                    }
                }
            }
        }
        return NONE;
    }

    int breaks(int thing) {
        if (!isThing(thing)) {
            return UNKNOWN;
        }
        for (int many = 0; many <= 8; many++) {
            for (int set = 0; set < 256; set++) {
                TreeSet<Integer> slips = numbers(set);
                TreeSet<Integer> then = where.spiked();
                if (slips.size() == many && then.containsAll(slips)) {
                    then.removeAll(slips);
                    if (!so(thing, then)) {
                        return set;
                    }
                }
            }
        }
        return NONE;
    }

    int judge(int n, long row) {
        if (n < 1 || n > 4 || row < 0 || ("" + row).length() > 3 * n) {
            return BAD;
        }
        String figures = "0".repeat(3 * n - ("" + row).length()) + row;
        Where then = where.copy();
        for (int i = 0; i < n; i++) {
            int what = figures.charAt(3 * i) - '0';
            int b = figures.charAt(3 * i + 1) - '0';
            int c = figures.charAt(3 * i + 2) - '0';
            boolean can = what == 6 ? b == 0 && isThing(c) && so(c, then.spiked()) : then.does(what, b, c);
            if (!can) {
                return i;
            }
        }
        return NONE;
    }

    int share(int slip, boolean upper) {
        if (slip < 0 || slip > 7) {
            return UNKNOWN;
        }
        TreeSet<Integer> there = where.spiked();
        int[] howMany = new int[256];
        for (int set = 0; set < 256; set++) {
            howMany[set] = allSo(numbers(set)).size();
        }
        int[] sumAndOrders = new int[2];
        if (there.contains(slip)) {
            allOrders(0, bits(there), slip, howMany, sumAndOrders);
        } else {
            sumAndOrders[1] = 1;
        }
        return fraction(sumAndOrders[0], sumAndOrders[1], upper);
    }

    private static void allOrders(int come, int there, int slip, int[] howMany, int[] sumAndOrders) {
        for (int next = 0; next < 8; next++) {
            int bit = 1 << next;
            if ((there & bit) != 0 && (come & bit) == 0) {
                int had = sumAndOrders[1];
                if ((come | bit) == there) {
                    sumAndOrders[1]++;
                } else {
                    allOrders(come | bit, there, slip, howMany, sumAndOrders);
                }
                if (next == slip) {
                    sumAndOrders[0] += (howMany[come | bit] - howMany[come]) * (sumAndOrders[1] - had);
                }
            }
        }
    }

    private static int fraction(int above, int below, boolean upper) {
        for (int divisor = below; divisor > 1; divisor--) {
            if (above % divisor == 0 && below % divisor == 0) {
                return upper ? above / divisor : below / divisor;
            }
        }
        return upper ? above : below;
    }

    // ---- sworn

    int swear(int thing, int so) {
        if (!isThing(thing)) {
            return UNKNOWN;
        }
        if (so != 0 && so != 1) {
            return BAD;
        }
        if (sworn.size() == 6) {
            return FULL;
        }
        sworn.add(new int[] {thing, so});
        return sworn.size();
    }

    int unswear() {
        int old = sworn.size();
        sworn.clear();
        return old;
    }

    int may(int what) {
        if (what != 0 && what != 1) {
            return BAD;
        }
        List<Integer> sets = new ArrayList<>();
        for (int set = 0; set < 256; set++) {
            boolean all = true;
            for (int[] one : sworn) {
                if (isThing(one[0]) && so(one[0], numbers(set)) != (one[1] == 1)) {
                    all = false;
                }
            }
            if (all) {
                sets.add(set);
            }
        }
        if (what == 0) {
            return sets.size();
        }
        return sets.isEmpty() ? NONE : sets.get(0);
    }

    // ---- rests, chances

    int rests(int one, int other, int what) {
        if (!isThing(one) || !isThing(other)) {
            return UNKNOWN;
        }
        if (one == other || what != 0 && what != 1) {
            return BAD;
        }
        List<Integer> there = new ArrayList<>(where.spiked());
        int[][] ones = new int[3][3];
        int[][] others = new int[3][3];
        for (int i = 0; i < 3; i++) {
            for (int j = 0; j < 3; j++) {
                TreeSet<Integer> left = where.spiked();
                for (int choice : new int[] {i, j}) {
                    if (choice > 0 && there.size() >= choice) {
                        left.remove(there.get(choice - 1));
                    }
                }
                boolean oneIs = so(one, left);
                boolean otherIs = so(other, left);
                ones[i][j] = (oneIs ? 3 : 0) - (i == 0 ? 0 : 1) + (otherIs ? 0 : 1);
                others[i][j] = (otherIs ? 3 : 0) - (j == 0 ? 0 : 1) + (oneIs ? 0 : 1);
            }
        }
        List<Integer> pairs = new ArrayList<>();
        for (int i = 0; i < 3; i++) {
            for (int j = 0; j < 3; j++) {
                boolean rests = true;
                for (int k = 0; k < 3; k++) {
                    rests &= ones[k][j] <= ones[i][j] && others[i][k] <= others[i][j];
                }
                if (rests) {
                    pairs.add(10 * i + j);
                }
            }
        }
        if (what == 0) {
            return pairs.size();
        }
        return pairs.isEmpty() ? NONE : pairs.get(0);
    }

    /** A thousand equal chances: each spike draws one of ten figures, and burns by those below x. */
    int fires(int thing, int x, boolean upper) {
        if (!isThing(thing)) {
            return UNKNOWN;
        }
        if (x < 0 || x > 10) {
            return BAD;
        }
        int above = 0;
        for (int chance = 0; chance < 1000; chance++) {
            TreeSet<Integer> left = new TreeSet<>();
            int figures = chance;
            for (int spike = 0; spike < 3; spike++) {
                if (figures % 10 >= x) {
                    left.addAll(where.spikes.get(spike));
                }
                figures /= 10;
            }
            if (so(thing, left)) {
                above++;
            }
        }
        return fraction(above, 1000, upper);
    }

    long seed(long v) {
        long old = seed;
        seed = v;
        return old;
    }

    int years(int m) {
        if (m < 1 || m > 30) {
            return BAD;
        }
        Where then = where.copy();
        int together = 0;
        for (int i = 0; i < m; i++) {
            seed = seed * 6364136223846793005L + 1442695040888963407L;
            int what = (int) (Long.divideUnsigned(seed, 1L << 33) % 36);
            if (what < 24) {
                then.does(1, what / 3, what % 3);
            } else if (what < 27) {
                then.does(2, 0, what - 24);
            } else if (what < 30) {
                then.does(5, 0, what - 27);
            } else {
                then.mice();
            }
            together += allSo(then.spiked()).size();
        }
        return together;
    }

    // ---- slots

    int keep(int slot) {
        if (slot != 0 && slot != 1) {
            return UNKNOWN;
        }
        slots[slot] = where.copy();
        return where.night;
    }

    int again(int slot) {
        if (slot != 0 && slot != 1) {
            return UNKNOWN;
        }
        if (slots[slot] == null) {
            return LATE;
        }
        where = slots[slot].copy();
        acts.clear();
        return where.night;
    }
}
