import java.math.BigInteger;
import java.util.ArrayDeque;
import java.util.ArrayList;
import java.util.Arrays;
import java.util.Deque;
import java.util.List;

/**
 * The document once more, told the longest way: all orders, all ways, all clouds. It shares no
 * thought with the class but the document, so that a slip in one of them shows.
 */
final class Oracle {
    private static final int UNKNOWN = -1, OUTSIDE = -2, STATE = -3, FULL = -4, NONE = -9;
    private static final BigInteger TWO64 = BigInteger.ONE.shiftLeft(64);

    /** What acts change. */
    private static final class Play {
        int[] owner = {}, purse = {}, feet = {};
        int day;

        Play copy() {
            Play p = new Play();
            p.owner = owner.clone();
            p.purse = purse.clone();
            p.feet = feet.clone();
            p.day = day;
            return p;
        }
    }

    private String text = "";
    private final List<String> fencers = new ArrayList<>();
    private final List<String> goods = new ArrayList<>();
    private Play play = new Play();
    private final Deque<Play> acts = new ArrayDeque<>();
    private final Play[] slots = new Play[2];
    private final List<int[]> seen = new ArrayList<>();
    private long seed;

    int write(int letter) {
        if (letter < 0 || letter > 255) return OUTSIDE;
        if (text.length() == 52) return FULL;
        text += (char) letter;
        return text.length();
    }

    int wipe() {
        int was = text.length();
        text = "";
        return was;
    }

    /** Whether a text can go on to be a bazaar, by trying what could come behind it. */
    private static boolean canGoOn(String start) {
        for (String end : List.of("", "0", "0lll", "lll", "ll", "l", "00")) {
            if (isBazaar(start + end) || isBazaar(start + "B" + end)) return true;
        }
        return false;
    }

    private static boolean isBazaar(String t) {
        if (!t.matches("B(F[0-3][lpfw]{3}|G[0-5][0-9])*")) return false;
        int f = 0, g = 0;
        for (int at = 1; at < t.length(); ) {
            if (t.charAt(at) == 'F') {
                f++;
                at += 5;
            } else {
                if (t.charAt(at + 1) - '0' >= f) return false;
                g++;
                at += 3;
            }
        }
        return f <= 6 && g <= 5;
    }

    int fault() {
        for (int k = 1; k <= text.length(); k++) {
            if (!canGoOn(text.substring(0, k))) return k - 1;
        }
        return isBazaar(text) ? NONE : text.length();
    }

    int bazaar() {
        if (fault() != NONE) return STATE;
        fencers.clear();
        goods.clear();
        for (String part : text.substring(1).replace("F", " F").replace("G", " G").trim().split(" ")) {
            if (part.startsWith("F")) fencers.add(part);
            if (part.startsWith("G")) goods.add(part);
        }
        play = new Play();
        play.owner = new int[goods.size()];
        for (int g = 0; g < goods.size(); g++) play.owner[g] = told(g);
        play.purse = new int[fencers.size()];
        Arrays.fill(play.purse, 9);
        play.feet = new int[fencers.size()];
        acts.clear();
        slots[0] = null;
        slots[1] = null;
        return 10 * fencers.size() + goods.size();
    }

    private int told(int g) {
        return goods.get(g).charAt(1) - '0';
    }

    private int price(int g) {
        return goods.get(g).charAt(2) - '0';
    }

    private boolean noFencer(int f) {
        return f < 0 || f >= fencers.size();
    }

    private boolean noGood(int g) {
        return g < 0 || g >= goods.size();
    }

    private static boolean notIn(int v, int least, int most) {
        return v < least || v > most;
    }

    /** {hits of the one, hits of the other, passes, then the lead in each pass}. */
    private static int[] fight(String a, int feetA, String b, int feetB, int most, int enough) {
        int[] r = new int[3 + most];
        StringBuilder madeA = new StringBuilder(), madeB = new StringBuilder();
        while (r[2] < most && r[0] < enough && r[1] < enough) {
            int t = r[2];
            char x = move(a, feetA, t, madeB), y = move(b, feetB, t, madeA);
            madeA.append(x);
            madeB.append(y);
            String both = "" + x + y;
            int ha = List.of("lf", "lw", "pl", "fp").contains(both) ? 1 : 0;
            int hb = List.of("fl", "wl", "lp", "pf").contains(both) ? 1 : 0;
            if (both.equals("ll")) {
                ha = b.charAt(1) == '1' ? 0 : 1;
                hb = a.charAt(1) == '1' ? 0 : 1;
            }
            r[0] += ha;
            r[1] += hb;
            r[3 + t] = ha - hb;
            r[2]++;
        }
        return r;
    }

    private static char move(String fencer, int feet, int t, CharSequence othersMoves) {
        switch (fencer.charAt(1)) {
            case '2':
                return t == 0 ? 'w' : "pfll".charAt("lpfw".indexOf(othersMoves.charAt(t - 1)));
            case '3':
                return fencer.charAt(2 + t % 3);
            default:
                return fencer.charAt(2 + (feet + t) % 3);
        }
    }

    private int[] fight(Play p, int a, int b) {
        return fight(fencers.get(a), p.feet[a], fencers.get(b), p.feet[b], 9, 3);
    }

    private boolean beats(Play p, int a, int b) {
        if (a == b) return false;
        int[] r = fight(p, a, b);
        return r[0] > r[1];
    }

    int fencer(int f, int what) {
        if (noFencer(f)) return UNKNOWN;
        if (notIn(what, 0, 5)) return OUTSIDE;
        String told = fencers.get(f);
        if (what == 0) return told.charAt(1) - '0';
        if (what == 1) {
            return Integer.parseInt(told.substring(2).replace('l', '1').replace('p', '2').replace('f', '3').replace('w', '4'));
        }
        if (what == 2) return play.purse[f];
        if (what == 3) return play.feet[f];
        int bits = 0;
        if (what == 4) {
            for (int g = 0; g < goods.size(); g++) bits += play.owner[g] == f ? 1 << g : 0;
        } else {
            for (int o = 0; o < fencers.size(); o++) bits += beats(play, f, o) ? 1 << o : 0;
        }
        return bits;
    }

    int good(int g, int what) {
        if (noGood(g)) return UNKNOWN;
        if (notIn(what, 0, 2)) return OUTSIDE;
        return what == 0 ? play.owner[g] : what == 1 ? price(g) : told(g);
    }

    int bout(int a, int b, int what) {
        if (noFencer(a) || noFencer(b)) return UNKNOWN;
        if (a == b || notIn(what, 0, 2)) return OUTSIDE;
        return fight(play, a, b)[what];
    }

    private int costOf(Play p, int f, int from, int g) {
        int[] r = fight(p, f, from);
        return Math.max(0, price(g) + r[1] - r[0]);
    }

    int cost(int f, int g) {
        if (noFencer(f) || noGood(g)) return UNKNOWN;
        if (play.owner[g] == f) return STATE;
        return costOf(play, f, play.owner[g], g);
    }

    private void doStep(Play p, int f) {
        p.feet[f] = fencers.get(f).charAt(1) == '3' ? 0 : p.feet[f] == 2 ? 0 : p.feet[f] + 1;
    }

    private void doMeet(Play p, int f, int g) {
        int o = p.owner[g], c = costOf(p, f, o, g);
        if (c <= p.purse[f]) {
            p.purse[f] -= c;
            p.purse[o] = Math.min(99, p.purse[o] + c);
            p.owner[g] = f;
        }
        doStep(p, f);
        doStep(p, o);
        p.day++;
    }

    private void act() {
        acts.addLast(play.copy());
        if (acts.size() > 14) acts.removeFirst();
    }

    int meet(int f, int g) {
        if (noFencer(f) || noGood(g)) return UNKNOWN;
        if (play.owner[g] == f) return STATE;
        act();
        doMeet(play, f, g);
        return play.owner[g];
    }

    int step(int f) {
        if (noFencer(f)) return UNKNOWN;
        act();
        doStep(play, f);
        return play.feet[f];
    }

    int salute(int f, int n) {
        if (noFencer(f)) return UNKNOWN;
        if (notIn(n, 1, 9)) return OUTSIDE;
        act();
        play.purse[f] = Math.min(99, play.purse[f] + n);
        return play.purse[f];
    }

    int undo() {
        if (acts.isEmpty()) return STATE;
        play = acts.removeLast();
        return acts.size();
    }

    /** Tries all ways on from the hands of the last one; best is {sum, first}. */
    private void goOn(List<Integer> hands, int sum, int target, int g, int[] best) {
        int last = hands.get(hands.size() - 1);
        if (last == target) {
            int first = hands.get(1);
            if (sum < best[0] || sum == best[0] && first < best[1]) {
                best[0] = sum;
                best[1] = first;
            }
            return;
        }
        for (int f = 0; f < fencers.size(); f++) {
            if (!hands.contains(f)) {
                List<Integer> more = new ArrayList<>(hands);
                more.add(f);
                goOn(more, sum + costOf(play, f, last, g), target, g, best);
            }
        }
    }

    int chain(int f, int g, int what) {
        if (noFencer(f) || noGood(g)) return UNKNOWN;
        if (notIn(what, 0, 1)) return OUTSIDE;
        if (play.owner[g] == f) return what == 0 ? 0 : NONE;
        int[] best = {Integer.MAX_VALUE, 0};
        goOn(List.of(play.owner[g]), 0, f, g, best);
        return best[what];
    }

    private static void orders(List<Integer> start, int n, List<List<Integer>> into) {
        if (start.size() == n) into.add(start);
        for (int f = 0; f < n; f++) {
            if (!start.contains(f)) {
                List<Integer> more = new ArrayList<>(start);
                more.add(f);
                orders(more, n, into);
            }
        }
    }

    private List<List<Integer>> allOrders() {
        List<List<Integer>> all = new ArrayList<>();
        orders(List.of(), fencers.size(), all);
        return all;
    }

    private boolean[][] table() {
        int n = fencers.size();
        boolean[][] t = new boolean[n][n];
        for (int a = 0; a < n; a++) for (int b = 0; b < n; b++) t[a][b] = beats(play, a, b);
        return t;
    }

    int order(int what) {
        if (notIn(what, 0, 1)) return OUTSIDE;
        boolean[][] t = table();
        int few = Integer.MAX_VALUE, least = 0;
        for (List<Integer> order : allOrders()) {
            int against = 0, figures = 0;
            for (int k = 0; k < order.size(); k++) {
                figures = figures * 10 + order.get(k) + 1;
                for (int ahead = 0; ahead < k; ahead++) against += t[order.get(k)][order.get(ahead)] ? 1 : 0;
            }
            if (against < few || against == few && figures < least) {
                few = against;
                least = figures;
            }
        }
        return what == 0 ? few : least;
    }

    int judge(int n, long row) {
        if (notIn(n, 1, 4) || row < 0 || Long.toString(row).length() > 3 * n) return OUTSIDE;
        String figures = String.format("%0" + 3 * n + "d", row);
        Play p = play.copy();
        for (int k = 0; k < n; k++) {
            int a = figures.charAt(3 * k) - '0', b = figures.charAt(3 * k + 1) - '0', c = figures.charAt(3 * k + 2) - '0';
            boolean so = false;
            if (a == 1 && !noFencer(b) && !noGood(c) && p.owner[c] != b) {
                doMeet(p, b, c);
                so = p.owner[c] == b;
            } else if (a == 2 && b == 0 && !noFencer(c)) {
                doStep(p, c);
                so = true;
            } else if (a == 3 && !noFencer(b) && c > 0) {
                p.purse[b] = Math.min(99, p.purse[b] + c);
                so = true;
            } else if (a == 4 && !noFencer(b) && !noFencer(c)) {
                so = beats(p, b, c);
            } else if (a == 5 && !noFencer(b) && !noGood(c)) {
                so = p.owner[c] == b;
            }
            if (!so) return k;
        }
        return NONE;
    }

    int see(int f, int h) {
        if (noFencer(f)) return UNKNOWN;
        if (notIn(h, 0, 9)) return OUTSIDE;
        if (seen.size() == 6) return FULL;
        seen.add(new int[] {f, h});
        return seen.size();
    }

    int unsee() {
        int was = seen.size();
        seen.clear();
        return was;
    }

    int masks(int what) {
        if (notIn(what, 0, 1)) return OUTSIDE;
        int many = 0, first = NONE;
        for (int figures = 444; figures >= 111; figures--) {
            String told = Integer.toString(figures);
            if (!told.matches("[1-4]{3}")) continue;
            String mask = "F0" + told.replace('1', 'l').replace('2', 'p').replace('3', 'f').replace('4', 'w');
            boolean so = true;
            for (int[] s : seen) {
                so &= noFencer(s[0]) || fight(mask, 0, fencers.get(s[0]), play.feet[s[0]], 9, 3)[0] == s[1];
            }
            if (so) {
                many++;
                first = figures;
            }
        }
        return what == 0 ? many : first;
    }

    private static int fraction(long above, long below, boolean upper) {
        long g = BigInteger.valueOf(above).gcd(BigInteger.valueOf(below)).longValue();
        return (int) ((upper ? above : below) / g);
    }

    int share(int f, boolean upper) {
        if (noFencer(f)) return UNKNOWN;
        boolean[][] t = table();
        long more = 0, orders = 0;
        for (List<Integer> order : allOrders()) {
            int at = order.indexOf(f);
            more += beaten(t, order.subList(0, at + 1)) - beaten(t, order.subList(0, at));
            orders++;
        }
        return fraction(more, orders, upper);
    }

    private static int beaten(boolean[][] t, List<Integer> come) {
        int many = 0;
        for (int b = 0; b < t.length; b++) {
            boolean is = false;
            for (int a : come) is |= t[a][b];
            many += is ? 1 : 0;
        }
        return many;
    }

    int rests(int a, int b, int what) {
        if (noFencer(a) || noFencer(b)) return UNKNOWN;
        if (a == b || notIn(what, 0, 1)) return OUTSIDE;
        int many = 0, first = NONE;
        for (int i = 2; i >= 0; i--) {
            for (int j = 2; j >= 0; j--) {
                boolean rest = true;
                for (int k = 0; k < 3; k++) {
                    rest &= gain(a, k, b, j) <= gain(a, i, b, j) && gain(b, k, a, i) <= gain(b, j, a, i);
                }
                if (rest) {
                    many++;
                    first = 10 * i + j;
                }
            }
        }
        return what == 0 ? many : first;
    }

    private int gain(int a, int feetA, int b, int feetB) {
        int[] r = fight(fencers.get(a), feetA, fencers.get(b), feetB, 9, 3);
        return r[0] - r[1];
    }

    int clouded(int a, int b, int x, boolean upper) {
        if (noFencer(a) || noFencer(b)) return UNKNOWN;
        if (a == b || notIn(x, 0, 10)) return OUTSIDE;
        int[] r = fight(fencers.get(a), play.feet[a], fencers.get(b), play.feet[b], 6, 100);
        return fraction(ways(r, 3, 0, x), 1000000, upper);
    }

    private static long ways(int[] r, int at, int lead, int x) {
        if (at == r.length) return lead > 0 ? 1 : 0;
        return x * ways(r, at + 1, lead, x) + (10 - x) * ways(r, at + 1, lead + r[at], x);
    }

    long seed(long v) {
        long was = seed;
        seed = v;
        return was;
    }

    int feasts(int m) {
        if (notIn(m, 1, 30)) return OUTSIDE;
        Play p = play.copy();
        int sum = 0;
        for (int k = 0; k < m; k++) {
            BigInteger x = BigInteger.valueOf(seed).multiply(new BigInteger("6364136223846793005"))
                .add(new BigInteger("1442695040888963407")).mod(TWO64);
            seed = x.longValue();
            int r = x.shiftRight(33).mod(BigInteger.valueOf(42)).intValue();
            if (r < 30) {
                if (!noFencer(r / 5) && !noGood(r % 5) && p.owner[r % 5] != r / 5) doMeet(p, r / 5, r % 5);
            } else if (r < 36) {
                if (!noFencer(r - 30)) doStep(p, r - 30);
            } else if (!noFencer(r - 36)) {
                p.purse[r - 36] = Math.min(99, p.purse[r - 36] + 2);
            }
            for (int g = 0; g < goods.size(); g++) sum += p.owner[g] != told(g) ? 1 : 0;
        }
        return sum;
    }

    int keep(int slot) {
        if (notIn(slot, 0, 1)) return UNKNOWN;
        slots[slot] = play.copy();
        return play.day;
    }

    int again(int slot) {
        if (notIn(slot, 0, 1)) return UNKNOWN;
        if (slots[slot] == null) return STATE;
        play = slots[slot].copy();
        acts.clear();
        return play.day;
    }

    int count(int what) {
        int bits = 0;
        switch (what) {
            case 0:
                return text.length();
            case 1:
                return fencers.size();
            case 2:
                return goods.size();
            case 3:
                return play.day;
            case 4:
                return Arrays.stream(play.purse).sum();
            case 5:
                return Arrays.stream(play.feet).sum();
            case 6:
                for (int g = 0; g < goods.size(); g++) bits |= play.owner[g] != told(g) ? 1 << g : 0;
                return bits;
            case 7:
                for (int f = 0; f < fencers.size(); f++) bits |= fencer(f, 5);
                return bits;
            case 8:
                return acts.size();
            case 9:
                return seen.size();
            default:
                return OUTSIDE;
        }
    }
}
