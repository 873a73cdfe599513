/** Promises 11 to 16: ticks. */
public final class TicksTest {
    private static final Checks CHECKS = new Checks();

    public static void main(String[] args) {
        addTick();
        sew();
        fill();
        shift();
        square();
        tick();
        parts();
        CHECKS.end();
    }

    private static void addTick() {
        FeatherBeds x = new FeatherBeds();
        CHECKS.noArgument(x, "addTick(0, 1, 1)", () -> x.addTick(0, 1, 1));
        CHECKS.noArgument(x, "addTick(7, 1, 1)", () -> x.addTick(7, 1, 1));
        CHECKS.noArgument(x, "addTick(1, 0, 1)", () -> x.addTick(1, 0, 1));
        CHECKS.noArgument(x, "addTick(1, 7, 1)", () -> x.addTick(1, 7, 1));
        CHECKS.noArgument(x, "addTick(1, 1, 0)", () -> x.addTick(1, 1, 0));
        CHECKS.noArgument(x, "addTick(1, 1, 10)", () -> x.addTick(1, 1, 10));
        for (int t = 0; t < 6; t++) {
            CHECKS.due("addTick() number " + t, x.addTick(t + 1, 6 - t, t + 4), t);
            CHECKS.due("its columns", x.tick(t, 0), t + 1);
            CHECKS.due("its rows", x.tick(t, 1), 6 - t);
            CHECKS.due("its density", x.tick(t, 2), t + 4);
        }
        CHECKS.noState(x, "a 7th tick", () -> x.addTick(1, 1, 1));
        CHECKS.noArgument(x, "a 7th tick, too dense", () -> x.addTick(1, 1, 10));
    }

    private static void sew() {
        FeatherBeds x = new FeatherBeds();
        x.addTick(3, 2, 5);
        x.addTick(3, 2, 5);
        CHECKS.due("sew(0, 0, 0, true)", x.sew(0, 0, 0, true), 6);
        CHECKS.due("sewn already", x.sew(0, 0, 0, true), 6);
        CHECKS.due("sew(0, 2, 1, true)", x.sew(0, 2, 1, true), 5);
        CHECKS.due("sew(0, 4, 0, true)", x.sew(0, 4, 0, true), 4);
        CHECKS.due("opened", x.sew(0, 0, 0, false), 5);
        CHECKS.due("open already", x.sew(0, 0, 0, false), 5);
        CHECKS.due("the other tick", x.tick(1, 7), 7);
        CHECKS.noArgument(x, "none to the right of 2", () -> x.sew(0, 2, 0, true));
        CHECKS.noArgument(x, "none to the right of 5", () -> x.sew(0, 5, 0, true));
        CHECKS.noArgument(x, "none below 3", () -> x.sew(0, 3, 1, true));
        CHECKS.noArgument(x, "none below 5", () -> x.sew(0, 5, 1, false));
        CHECKS.noArgument(x, "direction 2", () -> x.sew(0, 0, 2, true));
        CHECKS.noArgument(x, "direction -1", () -> x.sew(0, 0, -1, true));
        CHECKS.noIndex(x, "square 6", () -> x.sew(0, 6, 0, true));
        CHECKS.noIndex(x, "square -1", () -> x.sew(0, -1, 0, true));
        CHECKS.noIndex(x, "square 6, direction 2", () -> x.sew(0, 6, 2, true));
        CHECKS.noIndex(x, "tick 2", () -> x.sew(2, 0, 0, true));
        CHECKS.noIndex(x, "tick -1, direction 2", () -> x.sew(-1, 0, 2, true));
    }

    private static void fill() {
        FeatherBeds x = new FeatherBeds();
        x.addSack(9);
        x.addTick(2, 1, 5);
        CHECKS.due("from an empty chamber", x.fill(0, 0, 0, 300), 0);
        x.setWind(1);
        x.put(0, 5, 500);
        x.put(0, 3, 100);
        x.blow(0);
        // chamber 0 has 60 of size 3 and 300 of size 5
        CHECKS.due("fill(0, 0, 0, 50)", x.fill(0, 0, 0, 50), 50);
        CHECKS.due("smallest first", x.square(0, 0, 3), 50);
        CHECKS.due("left of them", x.chamber(0, 3), 10);
        CHECKS.due("fill(0, 0, 0, 30)", x.fill(0, 0, 0, 30), 30);
        CHECKS.due("then size 3", x.square(0, 0, 3), 60);
        CHECKS.due("then size 5", x.square(0, 0, 5), 20);
        CHECKS.due("no more room", x.fill(0, 0, 0, 300), 220);
        CHECKS.due("full", x.square(0, 0, 6), 300);
        CHECKS.due("fill a full one", x.fill(0, 0, 0, 1), 0);
        CHECKS.due("no more there", x.fill(0, 1, 0, 300), 60);
        CHECKS.due("the chamber is empty", x.chamber(0, 6), 0);
        CHECKS.due("what is in ticks", x.count(5), 360);
        CHECKS.noArgument(x, "fill none", () -> x.fill(0, 0, 0, 0));
        CHECKS.noArgument(x, "fill 301", () -> x.fill(0, 0, 0, 301));
        CHECKS.noIndex(x, "chamber 5, none", () -> x.fill(0, 0, 5, 0));
        CHECKS.noIndex(x, "chamber -1", () -> x.fill(0, 0, -1, 1));
        CHECKS.noIndex(x, "square 2, none", () -> x.fill(0, 2, 0, 0));
        CHECKS.noIndex(x, "square -1", () -> x.fill(0, -1, 0, 1));
        CHECKS.noIndex(x, "tick 1", () -> x.fill(1, 0, 0, 1));
        CHECKS.noIndex(x, "tick -1", () -> x.fill(-1, 0, 0, 1));
    }

    private static void shift() {
        FeatherBeds x = Beds.withTick(3, 2, 5);
        Beds.stuff(x, 0, 0, 1, 20);
        Beds.stuff(x, 0, 0, 4, 30);
        Beds.stuff(x, 0, 5, 2, 280);
        CHECKS.due("shift(0, 0, 4, 10)", x.shift(0, 0, 4, 10), 10);
        CHECKS.due("smallest first", x.square(0, 4, 1), 10);
        CHECKS.due("shift(0, 0, 4, 15)", x.shift(0, 0, 4, 15), 15);
        CHECKS.due("then size 4", x.square(0, 4, 4), 5);
        CHECKS.due("left of size 1", x.square(0, 0, 1), 0);
        CHECKS.due("left of size 4", x.square(0, 0, 4), 25);
        CHECKS.due("no more room", x.shift(0, 4, 5, 300), 20);
        CHECKS.due("size 1 there", x.square(0, 5, 1), 20);
        CHECKS.due("none of size 4 there", x.square(0, 5, 4), 0);
        CHECKS.due("full", x.square(0, 5, 6), 300);
        CHECKS.due("into a full one", x.shift(0, 4, 5, 1), 0);
        CHECKS.due("all of them", x.shift(0, 5, 3, 300), 300);
        CHECKS.due("no more there", x.shift(0, 0, 1, 300), 25);
        CHECKS.due("from an empty one", x.shift(0, 0, 1, 300), 0);
        x.sew(0, 0, 0, true);
        CHECKS.due("over a seam, by hand", x.shift(0, 1, 0, 5), 5);
        CHECKS.noArgument(x, "both the same", () -> x.shift(0, 1, 1, 5));
        CHECKS.noArgument(x, "shift none", () -> x.shift(0, 0, 1, 0));
        CHECKS.noArgument(x, "shift 301", () -> x.shift(0, 0, 1, 301));
        CHECKS.noIndex(x, "from 6, none", () -> x.shift(0, 6, 1, 0));
        CHECKS.noIndex(x, "to 6", () -> x.shift(0, 1, 6, 1));
        CHECKS.noIndex(x, "both 6", () -> x.shift(0, 6, 6, 1));
        CHECKS.noIndex(x, "from -1", () -> x.shift(0, -1, 1, 1));
        CHECKS.noIndex(x, "to -1", () -> x.shift(0, 1, -1, 1));
        CHECKS.noIndex(x, "tick 1", () -> x.shift(1, 0, 1, 1));
        CHECKS.noIndex(x, "tick -1", () -> x.shift(-1, 0, 0, 0));
    }

    private static void square() {
        FeatherBeds x = Beds.withTick(2, 3, 5);
        for (int size = 0; size < 6; size++) {
            Beds.stuff(x, 0, 1, size, 10 + size);
        }
        for (int size = 0; size < 6; size++) {
            CHECKS.due("square(0, 1, " + size + ")", x.square(0, 1, size), 10 + size);
        }
        CHECKS.due("square(0, 1, 6)", x.square(0, 1, 6), 75);
        CHECKS.due("its warmth", x.square(0, 1, 7), 60 + 55 + 48 + 39 + 28 + 15);
        Beds.stuff(x, 0, 2, 0, 150);
        CHECKS.due("just 900", x.square(0, 2, 7), 900);
        Beds.stuff(x, 0, 2, 5, 1);
        CHECKS.due("at most 900", x.square(0, 2, 7), 900);
        int[] right = {1, 0, 1, 0, 1, 0};
        int[] below = {1, 1, 1, 1, 0, 0};
        for (int s = 0; s < 6; s++) {
            CHECKS.due("square(0, " + s + ", 8)", x.square(0, s, 8), right[s]);
            CHECKS.due("square(0, " + s + ", 9)", x.square(0, s, 9), below[s]);
        }
        x.sew(0, 2, 0, true);
        CHECKS.due("sewn to the right", x.square(0, 2, 8), 0);
        CHECKS.due("not below", x.square(0, 2, 9), 1);
        x.sew(0, 3, 1, true);
        CHECKS.due("sewn below", x.square(0, 3, 9), 0);
        x.sew(0, 2, 0, false);
        CHECKS.due("opened", x.square(0, 2, 8), 1);
        CHECKS.noIndex(x, "square(0, 0, -1)", () -> x.square(0, 0, -1));
        CHECKS.noIndex(x, "square(0, 0, 10)", () -> x.square(0, 0, 10));
        CHECKS.noIndex(x, "square(0, 6, 0)", () -> x.square(0, 6, 0));
        CHECKS.noIndex(x, "square(0, -1, 0)", () -> x.square(0, -1, 0));
        CHECKS.noIndex(x, "square(1, 0, 0)", () -> x.square(1, 0, 0));
        CHECKS.noIndex(x, "square(-1, 0, 0)", () -> x.square(-1, 0, 0));
    }

    private static void tick() {
        FeatherBeds x = Beds.withTick(3, 1, 7);
        x.addTick(6, 6, 9);
        int[] empty = {3, 1, 7, 0, 0, 0, 0, 2, 1};
        for (int what = 0; what < 9; what++) {
            CHECKS.due("empty, tick(0, " + what + ")", x.tick(0, what), empty[what]);
        }
        Beds.stuff(x, 0, 0, 0, 200);
        Beds.stuff(x, 0, 1, 4, 30);
        Beds.stuff(x, 0, 2, 1, 12);
        x.sew(0, 1, 0, true);
        int[] filled = {3, 1, 7, 242, 900 + 60 + 60, 60, 1, 1, 2};
        for (int what = 0; what < 9; what++) {
            CHECKS.due("filled, tick(0, " + what + ")", x.tick(0, what), filled[what]);
        }
        CHECKS.due("its open pairs", x.tick(1, 7), 60);
        CHECKS.noIndex(x, "tick(0, -1)", () -> x.tick(0, -1));
        CHECKS.noIndex(x, "tick(0, 9)", () -> x.tick(0, 9));
        CHECKS.noIndex(x, "tick(2, 0)", () -> x.tick(2, 0));
        CHECKS.noIndex(x, "tick(-1, 0)", () -> x.tick(-1, 0));
    }

    private static void parts() {
        FeatherBeds x = new FeatherBeds();
        x.addTick(2, 2, 5);
        x.sew(0, 0, 0, true);
        CHECKS.due("round the other way", x.tick(0, 8), 1);
        x.sew(0, 0, 1, true);
        CHECKS.due("a corner", x.tick(0, 8), 2);
        x.sew(0, 2, 0, true);
        x.sew(0, 1, 1, true);
        CHECKS.due("all by themselves", x.tick(0, 8), 4);
        x.addTick(1, 1, 5);
        CHECKS.due("one square", x.tick(1, 8), 1);
        x.addTick(6, 6, 5);
        // a snake: rows hang together at their ends alone, right and left by turns
        for (int row = 0; row < 5; row++) {
            for (int column = 0; column < 6; column++) {
                if (column != (row % 2 == 0 ? 5 : 0)) {
                    x.sew(2, 6 * row + column, 1, true);
                }
            }
        }
        CHECKS.due("the snake's pairs", x.tick(2, 7), 35);
        CHECKS.due("the snake", x.tick(2, 8), 1);
        x.sew(2, 15, 0, true);
        CHECKS.due("the snake, cut", x.tick(2, 8), 2);
    }
}
