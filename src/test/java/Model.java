import java.util.ArrayList;
import java.util.List;

/**
 * What the document says, written a second time in another way: all in plain rows, every heap counted
 * anew, every night tried on a copy. An answer is a number, or one of the three refusals.
 */
final class Model {
    static final long INDEX = Long.MIN_VALUE + 1;
    static final long ARGUMENT = Long.MIN_VALUE + 2;
    static final long STATE = Long.MIN_VALUE + 3;

    /** Six sizes, and how damp it is. */
    private final List<int[]> sacks = new ArrayList<>();
    private final int[][] tower = new int[5][6];
    private final List<Cloth> ticks = new ArrayList<>();
    private int wind = 10;
    private int nights;
    private int yard;
    private int pricked;

    private static final class Cloth {
        int w;
        int h;
        int dense;
        int[][] at;
        boolean[][] seam;

        Cloth(int w, int h, int dense) {
            this.w = w;
            this.h = h;
            this.dense = dense;
            at = new int[w * h][6];
            seam = new boolean[w * h][2];
        }

        Cloth copy() {
            Cloth c = new Cloth(w, h, dense);
            for (int s = 0; s < w * h; s++) {
                c.at[s] = at[s].clone();
                c.seam[s] = seam[s].clone();
            }
            return c;
        }

        boolean pair(int s, int d) {
            int x = s % w;
            int y = s / w;
            return d == 0 ? x < w - 1 : y < h - 1;
        }

        int open(int s, int d) {
            return pair(s, d) && !seam[s][d] ? 1 : 0;
        }

        int openAll() {
            int n = 0;
            for (int s = 0; s < w * h; s++) {
                n += open(s, 0) + open(s, 1);
            }
            return n;
        }

        int parts() {
            boolean[] seen = new boolean[w * h];
            int n = 0;
            for (int s = 0; s < w * h; s++) {
                if (!seen[s]) {
                    n++;
                    walk(s, seen);
                }
            }
            return n;
        }

        private void walk(int s, boolean[] seen) {
            if (seen[s]) {
                return;
            }
            seen[s] = true;
            if (open(s, 0) == 1) {
                walk(s + 1, seen);
            }
            if (open(s, 1) == 1) {
                walk(s + w, seen);
            }
            if (s % w > 0 && open(s - 1, 0) == 1) {
                walk(s - 1, seen);
            }
            if (s >= w && open(s - w, 1) == 1) {
                walk(s - w, seen);
            }
        }

        int warmth(int s) {
            int[] f = at[s];
            return Math.min(900, 6 * f[0] + 5 * f[1] + 4 * f[2] + 3 * f[3] + 2 * f[4] + f[5]);
        }

        int coldest() {
            int best = 0;
            for (int s = w * h - 1; s >= 0; s--) {
                if (warmth(s) <= warmth(best)) {
                    best = s;
                }
            }
            return best;
        }

        int night() {
            int lost = 0;
            for (int[] f : at) {
                for (int k = 0; k < 6; k++) {
                    if (2 * k > dense) {
                        int n = f[k] * (2 * k - dense) / 30;
                        f[k] -= n;
                        lost += n;
                    }
                }
            }
            for (int s = 0; s < w * h; s++) {
                if (open(s, 0) == 1) {
                    even(at[s], at[s + 1]);
                }
                if (open(s, 1) == 1) {
                    even(at[s], at[s + w]);
                }
            }
            return lost;
        }

        private static void even(int[] a, int[] b) {
            int d = Math.abs(all(a) - all(b)) / 8;
            int[] more = all(a) > all(b) ? a : b;
            int[] less = more == a ? b : a;
            // one by one
            for (int i = 0; i < d; i++) {
                int k = more[0] > 0 ? 0 : 1;
                if (more[k] > 0) {
                    more[k]--;
                    less[k]++;
                }
            }
        }
    }

    private static int all(int[] heap) {
        int n = 0;
        for (int k = 0; k < 6; k++) {
            n += heap[k];
        }
        return n;
    }

    private boolean noSack(int s) {
        return s < 0 || s >= sacks.size();
    }

    private boolean noTick(int t) {
        return t < 0 || t >= ticks.size();
    }

    private boolean noSquare(int t, int s) {
        return noTick(t) || s < 0 || s >= ticks.get(t).at.length;
    }

    private static boolean not(int x, int least, int most) {
        return x < least || x > most;
    }

    long addSack(int damp) {
        if (not(damp, 0, 9)) {
            return ARGUMENT;
        }
        if (sacks.size() == 12) {
            return STATE;
        }
        sacks.add(new int[] {0, 0, 0, 0, 0, 0, damp});
        return sacks.size() - 1;
    }

    long put(int s, int k, int many) {
        if (noSack(s) || not(k, 0, 5)) {
            return INDEX;
        }
        if (not(many, 1, 500)) {
            return ARGUMENT;
        }
        if (sacks.get(s)[k] > 500 - many) {
            return STATE;
        }
        return sacks.get(s)[k] += many;
    }

    long dry(int s, int hours) {
        if (noSack(s)) {
            return INDEX;
        }
        if (not(hours, 1, 9)) {
            return ARGUMENT;
        }
        int[] sack = sacks.get(s);
        sack[6] = hours > sack[6] ? 0 : sack[6] - hours;
        return sack[6];
    }

    long sack(int s, int what) {
        if (noSack(s) || not(what, 0, 7)) {
            return INDEX;
        }
        int[] sack = sacks.get(s);
        return what < 6 ? sack[what] : what == 6 ? all(sack) : sack[6];
    }

    long setWind(int strength) {
        if (not(strength, 1, 20)) {
            return ARGUMENT;
        }
        int was = wind;
        wind = strength;
        return was;
    }

    /** Where all of a sack would be: row 0 the sack, 1 to 5 the chambers, 6 the yard. */
    private static int[][] blown(int[] sack, int wind) {
        int[][] where = new int[7][6];
        for (int k = 0; k < 6; k++) {
            int c = wind * 12 / ((k + 1) * (4 + sack[6]));
            c = c > 4 ? 4 : c;
            where[c + 1][k] += sack[k] * 6 / 10;
            where[c + 2][k] += sack[k] / 4;
            where[c][k] += sack[k] - sack[k] * 6 / 10 - sack[k] / 4;
        }
        return where;
    }

    long blow(int s) {
        if (noSack(s)) {
            return INDEX;
        }
        int[] sack = sacks.get(s);
        int[][] where = blown(sack, wind);
        int fallen = 0;
        for (int k = 0; k < 6; k++) {
            sack[k] = where[0][k];
            yard += where[6][k];
            for (int c = 0; c < 5; c++) {
                tower[c][k] += where[c + 1][k];
                fallen += where[c + 1][k];
            }
        }
        return fallen;
    }

    long sweep(int c, int s) {
        if (not(c, 0, 4) || noSack(s)) {
            return INDEX;
        }
        int moved = 0;
        for (int k = 0; k < 6; k++) {
            while (tower[c][k] > 0 && sacks.get(s)[k] < 500) {
                tower[c][k]--;
                sacks.get(s)[k]++;
                moved++;
            }
        }
        return moved;
    }

    long chamber(int c, int what) {
        if (not(c, 0, 4) || not(what, 0, 8)) {
            return INDEX;
        }
        int[] heap = tower[c];
        int all = all(heap);
        if (what <= 6) {
            return what < 6 ? heap[what] : all;
        }
        if (all == 0) {
            return what == 7 ? -1 : 0;
        }
        int most = 5;
        for (int k = 4; k >= 0; k--) {
            most = heap[k] >= heap[most] ? k : most;
        }
        return what == 7 ? most : 100 * heap[most] / all;
    }

    long bestWind(int s, int c, int k) {
        if (noSack(s) || not(c, 0, 4) || not(k, 0, 5)) {
            return INDEX;
        }
        int best = -1;
        for (int w = 20; w >= 1; w--) {
            int[] heap = blown(sacks.get(s), w)[c + 1];
            if (heap[k] == 0) {
                continue;
            }
            if (best == -1) {
                best = w;
                continue;
            }
            int[] other = blown(sacks.get(s), best)[c + 1];
            if (heap[k] * all(other) >= other[k] * all(heap)) {
                best = w;
            }
        }
        return best;
    }

    long addTick(int w, int h, int dense) {
        if (not(w, 1, 6) || not(h, 1, 6) || not(dense, 1, 9)) {
            return ARGUMENT;
        }
        if (ticks.size() == 6) {
            return STATE;
        }
        ticks.add(new Cloth(w, h, dense));
        return ticks.size() - 1;
    }

    long sew(int t, int s, int d, boolean isSewn) {
        if (noSquare(t, s)) {
            return INDEX;
        }
        if (not(d, 0, 1) || !ticks.get(t).pair(s, d)) {
            return ARGUMENT;
        }
        ticks.get(t).seam[s][d] = isSewn;
        return ticks.get(t).openAll();
    }

    /** One by one. */
    private static int move(int[] from, int[] to, int many) {
        int moved = 0;
        for (int k = 0; k < 6; k++) {
            while (from[k] > 0 && moved < many && all(to) < 300) {
                from[k]--;
                to[k]++;
                moved++;
            }
        }
        return moved;
    }

    long fill(int t, int s, int c, int many) {
        if (noSquare(t, s) || not(c, 0, 4)) {
            return INDEX;
        }
        return not(many, 1, 300) ? ARGUMENT : move(tower[c], ticks.get(t).at[s], many);
    }

    long shift(int t, int from, int to, int many) {
        if (noSquare(t, from) || noSquare(t, to)) {
            return INDEX;
        }
        if (from == to || not(many, 1, 300)) {
            return ARGUMENT;
        }
        return move(ticks.get(t).at[from], ticks.get(t).at[to], many);
    }

    long square(int t, int s, int what) {
        if (noSquare(t, s) || not(what, 0, 9)) {
            return INDEX;
        }
        Cloth c = ticks.get(t);
        if (what < 6) {
            return c.at[s][what];
        }
        return what == 6 ? all(c.at[s]) : what == 7 ? c.warmth(s) : c.open(s, what - 8);
    }

    long tick(int t, int what) {
        if (noTick(t) || not(what, 0, 8)) {
            return INDEX;
        }
        Cloth c = ticks.get(t);
        int feathers = 0;
        int warmth = 0;
        for (int s = 0; s < c.at.length; s++) {
            feathers += all(c.at[s]);
            warmth += c.warmth(s);
        }
        return new int[] {c.w, c.h, c.dense, feathers, warmth, c.warmth(c.coldest()), c.coldest(), c.openAll(),
            c.parts()}[what];
    }

    long pass(int many) {
        if (not(many, 1, 200)) {
            return ARGUMENT;
        }
        int lost = 0;
        for (int n = 0; n < many; n++) {
            for (Cloth c : ticks) {
                lost += c.night();
            }
            nights++;
        }
        pricked += lost;
        return lost;
    }

    long count(int what) {
        if (not(what, 0, 8)) {
            return INDEX;
        }
        int inSacks = 0;
        for (int[] sack : sacks) {
            inSacks += all(sack);
        }
        int inTower = 0;
        for (int[] heap : tower) {
            inTower += all(heap);
        }
        int inTicks = 0;
        for (int t = 0; t < ticks.size(); t++) {
            inTicks += (int) tick(t, 3);
        }
        return new int[] {nights, sacks.size(), ticks.size(), inSacks, inTower, inTicks, yard, pricked, wind}[what];
    }

    long foresee(int t, int many, int what) {
        if (noTick(t) || not(what, 0, 2)) {
            return INDEX;
        }
        if (not(many, 1, 200)) {
            return ARGUMENT;
        }
        Cloth c = ticks.get(t).copy();
        for (int n = 0; n < many; n++) {
            c.night();
        }
        int feathers = 0;
        for (int[] heap : c.at) {
            feathers += all(heap);
        }
        return what == 0 ? feathers : what == 1 ? c.warmth(c.coldest()) : c.coldest();
    }

    long lasts(int t, int warmth) {
        if (noTick(t)) {
            return INDEX;
        }
        if (not(warmth, 0, 900)) {
            return ARGUMENT;
        }
        Cloth c = ticks.get(t).copy();
        int n = 0;
        while (c.warmth(c.coldest()) >= warmth) {
            c.night();
            n++;
            if (n > 200) {
                return -1;
            }
        }
        return n;
    }

    private static int warmthBehind(Cloth c, int many) {
        for (int n = 0; n < many; n++) {
            c.night();
        }
        return c.warmth(c.coldest());
    }

    long advise(int t, int many) {
        if (noTick(t)) {
            return INDEX;
        }
        if (not(many, 1, 60)) {
            return ARGUMENT;
        }
        Cloth now = ticks.get(t);
        int best = -1;
        int most = warmthBehind(now.copy(), many);
        for (int i = 0; i < 2 * now.at.length; i++) {
            if (now.open(i / 2, i % 2) == 1) {
                Cloth c = now.copy();
                c.seam[i / 2][i % 2] = true;
                int then = warmthBehind(c, many);
                if (then > most) {
                    most = then;
                    best = i;
                }
            }
        }
        return best;
    }

    double filled() {
        double in = count(5);
        double all = count(3) + count(4) + count(5);
        return all == 0 ? 0 : in / all;
    }

    long digest() {
        long d = 617;
        for (int w = 0; w <= 8; w++) {
            d = d * 31 + count(w);
        }
        for (int s = 0; s < sacks.size(); s++) {
            for (int w = 0; w <= 7; w++) {
                d = d * 31 + sack(s, w);
            }
        }
        for (int c = 0; c < 5; c++) {
            for (int w = 0; w <= 8; w++) {
                d = d * 31 + chamber(c, w);
            }
        }
        for (int t = 0; t < ticks.size(); t++) {
            for (int w = 0; w <= 8; w++) {
                d = d * 31 + tick(t, w);
            }
            for (int s = 0; s < ticks.get(t).at.length; s++) {
                for (int w = 0; w <= 9; w++) {
                    d = d * 31 + square(t, s, w);
                }
            }
        }
        return d;
    }
}
