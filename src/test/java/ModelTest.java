/** Long runs of calls, right and wrong ones, whose answers are compared with those of the model. */
public final class ModelTest {
    private static final Checks CHECKS = new Checks();
    private static final int RUNS = 800;
    /** With a digest() behind each of them they are the 512 calls that an object is used for. */
    private static final int CALLS = 256;
    private static final int OFTEN = 300;
    private static final int METHODS = 22;
    private static final int[] WILD = {Integer.MIN_VALUE, Integer.MAX_VALUE, -1, -2, 0, 1000000, 6, 7, 36, 72, -36};
    /** How often a kind of call refused, answered -1, and answered something else. */
    private static final int[][] SEEN = new int[METHODS][3];

    private long seed = 1;

    public static void main(String[] args) {
        ModelTest test = new ModelTest();
        for (int run = 0; run < RUNS; run++) {
            test.run(run);
        }
        for (int m = 0; m < METHODS; m++) {
            CHECKS.isTrue("call " + m + " is answered in many runs", SEEN[m][2] > OFTEN);
        }
        CHECKS.isTrue("some winds are found", SEEN[8][1] > OFTEN);
        CHECKS.isTrue("some beds last", SEEN[18][1] > OFTEN);
        CHECKS.isTrue("some seams are none", SEEN[19][1] > OFTEN);
        CHECKS.end();
    }

    /** A number from 0, less than the bound, always the same row of them. */
    private int next(int bound) {
        seed = seed * 6364136223846793005L + 1442695040888963407L;
        return (int) ((seed >>> 33) % bound);
    }

    /** A number from least to most; now and then one just outside, or far outside. */
    private int some(int least, int most) {
        int luck = next(60);
        if (luck == 0) {
            return least - 1;
        }
        if (luck == 1) {
            return most + 1;
        }
        return luck == 2 ? WILD[next(WILD.length)] : least + next(most - least + 1);
    }

    private void run(int run) {
        FeatherBeds x = new FeatherBeds();
        Model y = new Model();
        int sacks = 1 + next(12);
        int ticks = 1 + next(6);
        for (int call = 0; call < CALLS; call++) {
            int method = kindOfCall(call, sacks, ticks);
            int[] a = arguments(method, sacks, ticks, y);
            long due = method == 20 ? Double.doubleToLongBits(y.filled()) : due(y, method, a);
            long got;
            try {
                got = got(x, method, a);
            } catch (IndexOutOfBoundsException e) {
                got = e.getClass() == IndexOutOfBoundsException.class ? Model.INDEX : 0;
            } catch (IllegalArgumentException e) {
                got = e.getClass() == IllegalArgumentException.class ? Model.ARGUMENT : 0;
            } catch (IllegalStateException e) {
                got = Model.STATE;
            }
            SEEN[method][due >= Model.INDEX && due <= Model.STATE ? 0 : due == -1 ? 1 : 2]++;
            CHECKS.due("run " + run + ", call " + call + ", method " + method + " of " + a[0] + " " + a[1] + " " + a[2]
                    + " " + a[3], got, due);
            CHECKS.due("run " + run + ", call " + call + ", then digest()", x.digest(), y.digest());
        }
    }

    private int kindOfCall(int call, int sacks, int ticks) {
        if (call < sacks) {
            return 0;
        }
        if (call < sacks + ticks) {
            return 9;
        }
        // sacks and ticks are seldom brought, feathers often
        int kind = next(METHODS + 16);
        if (kind < METHODS) {
            return (kind == 0 || kind == 9) && next(4) > 0 ? 1 : kind;
        }
        int[] often = {1, 1, 1, 1, 1, 5, 5, 5, 5, 11, 11, 11, 11, 11, 10, 4};
        return often[kind - METHODS];
    }

    private int[] arguments(int method, int sacks, int ticks, Model y) {
        int sack = some(0, sacks - 1);
        int tick = some(0, ticks - 1);
        int squares = tick >= 0 && tick < y.count(2) ? (int) (y.tick(tick, 0) * y.tick(tick, 1)) : 1;
        int square = some(0, squares - 1);
        int chamber = some(0, 4);
        switch (method) {
            case 0:
                return new int[] {some(0, 9), 0, 0, 0};
            case 1:
                return new int[] {sack, some(0, 5), next(3) == 0 ? some(1, 500) : some(1, 200), 0};
            case 2:
                return new int[] {sack, some(1, 9), 0, 0};
            case 3:
                return new int[] {sack, some(0, 7), 0, 0};
            case 4:
                return new int[] {next(2) == 0 ? some(1, 20) : some(1, 5), 0, 0, 0};
            case 5:
                return new int[] {sack, 0, 0, 0};
            case 6:
                return new int[] {chamber, sack, 0, 0};
            case 7:
                return new int[] {chamber, some(0, 8), 0, 0};
            case 8:
                return new int[] {sack, chamber, some(0, 5), 0};
            case 9:
                return new int[] {some(1, 6), some(1, 6), some(1, 9), 0};
            case 10:
                return new int[] {tick, square, some(0, 1), next(2)};
            case 11:
                return new int[] {tick, square, chamber, some(1, 300)};
            case 12:
                return new int[] {tick, square, some(0, squares - 1), some(1, 300)};
            case 13:
                return new int[] {tick, square, some(0, 9), 0};
            case 14:
                return new int[] {tick, some(0, 8), 0, 0};
            case 15:
                return new int[] {next(4) == 0 ? some(1, 200) : some(1, 3), 0, 0, 0};
            case 16:
                return new int[] {some(0, 8), 0, 0, 0};
            case 17:
                return new int[] {tick, next(2) == 0 ? some(1, 200) : some(1, 10), some(0, 2), 0};
            case 18:
                return new int[] {tick, next(2) == 0 ? some(0, 900) : some(0, 60), 0, 0};
            case 19:
                return new int[] {tick, next(2) == 0 ? some(1, 60) : some(1, 5), 0, 0};
            default:
                return new int[] {0, 0, 0, 0};
        }
    }

    private static long got(FeatherBeds x, int method, int[] a) {
        switch (method) {
            case 0:
                return x.addSack(a[0]);
            case 1:
                return x.put(a[0], a[1], a[2]);
            case 2:
                return x.dry(a[0], a[1]);
            case 3:
                return x.sack(a[0], a[1]);
            case 4:
                return x.setWind(a[0]);
            case 5:
                return x.blow(a[0]);
            case 6:
                return x.sweep(a[0], a[1]);
            case 7:
                return x.chamber(a[0], a[1]);
            case 8:
                return x.bestWind(a[0], a[1], a[2]);
            case 9:
                return x.addTick(a[0], a[1], a[2]);
            case 10:
                return x.sew(a[0], a[1], a[2], a[3] == 1);
            case 11:
                return x.fill(a[0], a[1], a[2], a[3]);
            case 12:
                return x.shift(a[0], a[1], a[2], a[3]);
            case 13:
                return x.square(a[0], a[1], a[2]);
            case 14:
                return x.tick(a[0], a[1]);
            case 15:
                return x.pass(a[0]);
            case 16:
                return x.count(a[0]);
            case 17:
                return x.foresee(a[0], a[1], a[2]);
            case 18:
                return x.lasts(a[0], a[1]);
            case 19:
                return x.advise(a[0], a[1]);
            case 20:
                return Double.doubleToLongBits(x.filled());
            default:
                return x.digest();
        }
    }

    private static long due(Model y, int method, int[] a) {
        switch (method) {
            case 0:
                return y.addSack(a[0]);
            case 1:
                return y.put(a[0], a[1], a[2]);
            case 2:
                return y.dry(a[0], a[1]);
            case 3:
                return y.sack(a[0], a[1]);
            case 4:
                return y.setWind(a[0]);
            case 5:
                return y.blow(a[0]);
            case 6:
                return y.sweep(a[0], a[1]);
            case 7:
                return y.chamber(a[0], a[1]);
            case 8:
                return y.bestWind(a[0], a[1], a[2]);
            case 9:
                return y.addTick(a[0], a[1], a[2]);
            case 10:
                return y.sew(a[0], a[1], a[2], a[3] == 1);
            case 11:
                return y.fill(a[0], a[1], a[2], a[3]);
            case 12:
                return y.shift(a[0], a[1], a[2], a[3]);
            case 13:
                return y.square(a[0], a[1], a[2]);
            case 14:
                return y.tick(a[0], a[1]);
            case 15:
                return y.pass(a[0]);
            case 16:
                return y.count(a[0]);
            case 17:
                return y.foresee(a[0], a[1], a[2]);
            case 18:
                return y.lasts(a[0], a[1]);
            case 19:
                return y.advise(a[0], a[1]);
            default:
                return y.digest();
        }
    }
}
