/** The boundary cases of promises 11 to 16: ticks. */
final class TicksEdges {
    private final Sentences s;

    TicksEdges(Sentences sentences) {
        s = sentences;
    }

    void all() {
        addTickNumber();
        addTickArguments();
        addTickSix();
        sewWhetherThen();
        sewReturns();
        sewNoSuch();
        sewDirection();
        fillSmallest();
        fillReturns();
        fillNoSuch();
        fillMany();
        shiftSmallest();
        shiftReturns();
        shiftNoSuch();
        shiftMany();
        squareWhat();
        squareOpen();
        squareNoSuch();
        tickWhat();
        tickColdest();
        tickParts();
        tickNoSuch();
    }

    private static FeatherBeds withTick(int columns, int rows) {
        FeatherBeds x = new FeatherBeds();
        x.addTick(columns, rows, 9);
        return x;
    }

    private void addTickNumber() {
        s.promise(11, "Returns its number.");
        FeatherBeds x = new FeatherBeds();
        for (int number = 0; number < 6; number++) {
            s.due("addTick() number " + number, x.addTick(1 + number, 6 - number, 4 + number), number);
            int[] due = {1 + number, 6 - number, 4 + number, 0, 0, 0, 0};
            for (int what = 0; what < due.length; what++) {
                s.due("tick(" + number + ", " + what + ")", x.tick(number, what), due[what]);
            }
        }
        s.due("count(2)", x.count(2), 6);
    }

    private void addTickArguments() {
        s.promise(11, "Throws IllegalArgumentException if columns or rows is not 1 to 6, or density is not 1 to 9");
        for (int sides : Sentences.outside(1, 6)) {
            s.noArgument(Beds::busy, "addTick(" + sides + ", 1, 1)", x -> x.addTick(sides, 1, 1));
            s.noArgument(Beds::busy, "addTick(6, " + sides + ", 9)", x -> x.addTick(6, sides, 9));
            s.noArgument(Beds::busy, "addTick(" + sides + ", " + sides + ", 1)", x -> x.addTick(sides, sides, 1));
        }
        for (int density : Sentences.outside(1, 9)) {
            s.noArgument(Beds::busy, "addTick(1, 1, " + density + ")", x -> x.addTick(1, 1, density));
        }
        int[][] right = {{1, 1, 1}, {6, 6, 9}, {6, 1, 1}, {1, 6, 9}};
        for (int[] r : right) {
            s.due("addTick(" + r[0] + ", " + r[1] + ", " + r[2] + ")", Beds.busy().addTick(r[0], r[1], r[2]), 2);
        }
    }

    private void addTickSix() {
        s.promise(11, "Throws IllegalStateException if there are 6");
        s.noState(Beds::full, "a 7th, addTick(1, 1, 1)", x -> x.addTick(1, 1, 1));
        s.noState(Beds::full, "a 7th, addTick(6, 6, 9)", x -> x.addTick(6, 6, 9));
        FeatherBeds x = new FeatherBeds();
        for (int number = 0; number < 5; number++) {
            x.addTick(6, 6, 9);
        }
        s.due("the 6th", x.addTick(6, 6, 9), 5);
    }

    private void sewWhetherThen() {
        s.promise(12, "isSewn: whether there is a seam then");
        FeatherBeds x = withTick(3, 2);
        boolean[] sewn = {false, true, true, false, false, true};
        for (int i = 0; i < sewn.length; i++) {
            s.due("step " + i + ", sew(0, 1, 1, " + sewn[i] + ")", x.sew(0, 1, 1, sewn[i]), sewn[i] ? 6 : 7);
            s.due("then square(0, 1, 9)", x.square(0, 1, 9), sewn[i] ? 0 : 1);
            s.due("then square(0, 1, 8)", x.square(0, 1, 8), 1);
        }
    }

    private void sewReturns() {
        s.promise(12, "Returns how many pairs are open.");
        FeatherBeds x = withTick(6, 6);
        x.addTick(2, 1, 9);
        int open = 60;
        for (int square = 0; square < 36; square++) {
            for (int direction = 0; direction < 2; direction++) {
                boolean isPair = direction == 0 ? square % 6 < 5 : square < 30;
                if (isPair) {
                    open--;
                    s.due("sew(0, " + square + ", " + direction + ", true)", x.sew(0, square, direction, true), open);
                }
            }
        }
        s.due("all are sewn, tick(0, 7)", x.tick(0, 7), 0);
        s.due("another tick, tick(1, 7)", x.tick(1, 7), 1);
        s.due("its only pair", x.sew(1, 0, 0, true), 0);
        s.due("the last pair opened", x.sew(0, 34, 0, false), 1);
    }

    private void sewNoSuch() {
        s.promise(12, "Throws IndexOutOfBoundsException if there is no such tick or square");
        s.noIndex(FeatherBeds::new, "sew(0, 0, 0, true) without ticks", x -> x.sew(0, 0, 0, true));
        for (int tick : Sentences.noneOf(2, 6)) {
            s.noIndex(Beds::busy, "sew(" + tick + ", 0, 0, true)", x -> x.sew(tick, 0, 0, true));
        }
        s.noIndex(Beds::full, "sew(6, 0, 0, true)", x -> x.sew(6, 0, 0, true));
        for (int square : Sentences.noneOf(4, 36)) {
            s.noIndex(Beds::busy, "sew(0, " + square + ", 0, true)", x -> x.sew(0, square, 0, true));
            s.noIndex(Beds::busy, "sew(0, " + square + ", 1, false)", x -> x.sew(0, square, 1, false));
        }
        s.noIndex(() -> withTick(6, 6), "sew(0, 36, 0, true)", x -> x.sew(0, 36, 0, true));
        s.due("the last of both", Beds.busy().sew(1, 1, 0, true), 1);
        s.due("the first of both", Beds.busy().sew(0, 0, 0, true), 2);
    }

    private void sewDirection() {
        s.promise(12, "Throws IllegalArgumentException if direction is not 0 to 1, or there is no square in this direction");
        for (int direction : Sentences.outside(0, 1)) {
            for (int square = 0; square < 4; square++) {
                int from = square;
                s.noArgument(Beds::busy, "sew(0, " + square + ", " + direction + ", true)",
                        x -> x.sew(0, from, direction, true));
                s.noArgument(Beds::busy, "sew(0, " + square + ", " + direction + ", false)",
                        x -> x.sew(0, from, direction, false));
            }
        }
        int[][] sizes = {{1, 1}, {3, 2}, {6, 1}, {1, 6}, {6, 6}};
        for (int[] size : sizes) {
            for (int i = 0; i < 2 * size[0] * size[1]; i++) {
                int square = i / 2;
                int direction = i % 2;
                boolean isPair = direction == 0 ? square % size[0] < size[0] - 1 : square / size[0] < size[1] - 1;
                String call = size[0] + " columns, " + size[1] + " rows, sew(0, " + square + ", " + direction + ", ..)";
                if (isPair) {
                    int pairs = (size[0] - 1) * size[1] + size[0] * (size[1] - 1);
                    s.due(call, withTick(size[0], size[1]).sew(0, square, direction, true), pairs - 1);
                } else {
                    s.noArgument(() -> withTick(size[0], size[1]), call, x -> x.sew(0, square, direction, true));
                    s.noArgument(() -> withTick(size[0], size[1]), call, x -> x.sew(0, square, direction, false));
                }
            }
        }
    }

    /** Chamber 4 has 300, 6, 0, 30, 0 and 60 feathers; two squares are empty. */
    private static FeatherBeds filling() {
        FeatherBeds x = new FeatherBeds();
        x.addSack(0);
        int[] many = {500, 10, 1, 50, 0, 100};
        for (int size = 0; size < many.length; size++) {
            if (many[size] > 0) {
                x.put(0, size, many[size]);
            }
        }
        x.setWind(20);
        x.blow(0);
        x.addTick(2, 1, 9);
        return x;
    }

    private void fillSmallest() {
        s.promise(13, "Fills a square from a chamber: the feathers of the smallest sizes first.");
        FeatherBeds x = filling();
        int[] many = {299, 1, 5, 1, 20, 20, 50, 1};
        int[] to = {0, 0, 1, 1, 1, 1, 1, 1};
        int[][] moved = {{299}, {1}, {0, 5}, {0, 1}, {0, 0, 0, 20}, {0, 0, 0, 10, 0, 10}, {0, 0, 0, 0, 0, 50}, {}};
        int[] there = {300, 6, 0, 30, 0, 60};
        for (int i = 0; i < many.length; i++) {
            x.fill(0, to[i], 4, many[i]);
            for (int size = 0; size < 6; size++) {
                there[size] -= size < moved[i].length ? moved[i][size] : 0;
                s.due("step " + i + ", left of size " + size, x.chamber(4, size), there[size]);
            }
        }
        int[][] due = {{300, 0, 0, 0, 0, 0}, {0, 6, 0, 30, 0, 60}};
        for (int i = 0; i < 12; i++) {
            s.due("square(0, " + i / 6 + ", " + i % 6 + ")", x.square(0, i / 6, i % 6), due[i / 6][i % 6]);
        }
    }

    private void fillReturns() {
        s.promise(13, "Returns how many these are: no more than there are, and than the square has room for.");
        FeatherBeds x = filling();
        s.due("an empty chamber", x.fill(0, 0, 0, 300), 0);
        s.due("fewer than both", x.fill(0, 0, 4, 250), 250);
        s.due("room for 50, of 51", x.fill(0, 0, 4, 51), 50);
        s.due("room for none", x.fill(0, 0, 4, 1), 0);
        s.due("room for none, of 300", x.fill(0, 0, 4, 300), 0);
        s.due("there are 96, of 300", x.fill(0, 1, 4, 300), 96);
        s.due("there are none, of 1", x.fill(0, 1, 4, 1), 0);
        s.due("there are none", x.chamber(4, 6), 0);
        FeatherBeds y = filling();
        s.due("just the room", y.fill(0, 0, 4, 300), 300);
        s.due("just those that are there", y.fill(0, 1, 4, 96), 96);
        s.due("there are none then", y.chamber(4, 6), 0);
        s.due("square(0, 1, 6)", y.square(0, 1, 6), 96);
        FeatherBeds z = filling();
        s.due("room for 1, there are more", z.fill(0, 0, 4, 299) + z.fill(0, 0, 4, 300), 300);
    }

    private void fillNoSuch() {
        s.promise(13, "Throws IndexOutOfBoundsException if there is no such tick or square, or chamber is not 0 to 4");
        s.noIndex(FeatherBeds::new, "fill(0, 0, 0, 1) without ticks", x -> x.fill(0, 0, 0, 1));
        for (int tick : Sentences.noneOf(2, 6)) {
            s.noIndex(Beds::busy, "fill(" + tick + ", 0, 0, 1)", x -> x.fill(tick, 0, 0, 1));
        }
        s.noIndex(Beds::full, "fill(6, 0, 4, 1)", x -> x.fill(6, 0, 4, 1));
        for (int square : Sentences.noneOf(4, 36)) {
            s.noIndex(Beds::busy, "fill(0, " + square + ", 0, 1)", x -> x.fill(0, square, 0, 1));
        }
        s.noIndex(() -> withTick(6, 6), "fill(0, 36, 0, 1)", x -> x.fill(0, 36, 0, 1));
        for (int chamber : Sentences.outside(0, 4)) {
            s.noIndex(Beds::busy, "fill(0, 0, " + chamber + ", 1)", x -> x.fill(0, 0, chamber, 1));
        }
        s.due("the first of all", Beds.busy().fill(0, 0, 0, 1), 1);
        s.due("the last of all", Beds.busy().fill(1, 2, 4, 1), 1);
    }

    private void fillMany() {
        s.promise(13, "Throws IllegalArgumentException if many is not 1 to 300");
        for (int many : Sentences.outside(1, 300)) {
            s.noArgument(Beds::busy, "fill(0, 2, 4, " + many + ")", x -> x.fill(0, 2, 4, many));
            s.noArgument(() -> withTick(1, 1), "of none, fill(0, 0, 4, " + many + ")", x -> x.fill(0, 0, 4, many));
        }
        s.due("fill(0, 0, 4, 1)", filling().fill(0, 0, 4, 1), 1);
        s.due("fill(0, 0, 4, 300)", filling().fill(0, 0, 4, 300), 300);
    }

    /** 20 of size 0, 1 of size 2, 30 of size 5 in square 0; 260 of size 4 in square 1; square 2 is empty. */
    private static FeatherBeds shifting() {
        FeatherBeds x = Beds.withTick(3, 1, 9);
        Beds.stuff(x, 0, 0, 0, 20);
        Beds.stuff(x, 0, 0, 2, 1);
        Beds.stuff(x, 0, 0, 5, 30);
        Beds.stuff(x, 0, 1, 4, 260);
        return x;
    }

    private void shiftSmallest() {
        s.promise(14, "Fills a square from another one of the same tick, by hand: "
                + "the feathers of the smallest sizes first.");
        int[] many = {1, 19, 20, 21, 22, 50, 51};
        int[][] due = {{1, 0, 0}, {19, 0, 0}, {20, 0, 0}, {20, 1, 0}, {20, 1, 1}, {20, 1, 29}, {20, 1, 30}};
        int[] sizes = {0, 2, 5};
        for (int i = 0; i < many.length; i++) {
            FeatherBeds x = shifting();
            x.sew(0, 1, 0, true);
            x.shift(0, 0, 2, many[i]);
            for (int j = 0; j < sizes.length; j++) {
                s.due("shift(0, 0, 2, " + many[i] + "), of size " + sizes[j], x.square(0, 2, sizes[j]), due[i][j]);
            }
            s.due("left of all", x.square(0, 0, 6), 51 - many[i]);
        }
    }

    private void shiftReturns() {
        s.promise(14, "Returns how many these are: no more than there are, and than the square has room for.");
        FeatherBeds x = shifting();
        s.due("from an empty one", x.shift(0, 2, 0, 300), 0);
        s.due("room for 40, of 41", x.shift(0, 0, 1, 41), 40);
        s.due("room for none, of 1", x.shift(0, 0, 1, 1), 0);
        s.due("a full one, square(0, 1, 6)", x.square(0, 1, 6), 300);
        s.due("there are 11, of 12", x.shift(0, 0, 2, 12), 11);
        s.due("there are none, of 1", x.shift(0, 0, 2, 1), 0);
        s.due("all 300", x.shift(0, 1, 0, 300), 300);
        s.due("none left, square(0, 1, 6)", x.square(0, 1, 6), 0);
        s.due("just those that are there", x.shift(0, 2, 1, 11), 11);
        s.due("just the room", x.shift(0, 0, 1, 289), 289);
    }

    private void shiftNoSuch() {
        s.promise(14, "Throws IndexOutOfBoundsException if there is no such tick or square");
        s.noIndex(FeatherBeds::new, "shift(0, 0, 1, 1) without ticks", x -> x.shift(0, 0, 1, 1));
        for (int tick : Sentences.noneOf(2, 6)) {
            s.noIndex(Beds::busy, "shift(" + tick + ", 0, 1, 1)", x -> x.shift(tick, 0, 1, 1));
        }
        for (int square : Sentences.noneOf(4, 36)) {
            s.noIndex(Beds::busy, "shift(0, " + square + ", 1, 1)", x -> x.shift(0, square, 1, 1));
            s.noIndex(Beds::busy, "shift(0, 1, " + square + ", 1)", x -> x.shift(0, 1, square, 1));
        }
        s.noIndex(() -> withTick(6, 6), "shift(0, 36, 0, 1)", x -> x.shift(0, 36, 0, 1));
        s.noIndex(() -> withTick(6, 6), "shift(0, 0, 36, 1)", x -> x.shift(0, 0, 36, 1));
        s.due("the first of both to the last", Beds.busy().shift(1, 0, 2, 1), 1);
        s.due("the last of both to the first", Beds.busy().shift(1, 2, 0, 1), 1);
    }

    private void shiftMany() {
        s.promise(14, "Throws IllegalArgumentException if both are the same, or many is not 1 to 300");
        for (int many : Sentences.outside(1, 300)) {
            s.noArgument(Beds::busy, "shift(0, 1, 2, " + many + ")", x -> x.shift(0, 1, 2, many));
            s.noArgument(Beds::busy, "both the same, shift(0, 1, 1, " + many + ")", x -> x.shift(0, 1, 1, many));
        }
        for (int square = 0; square < 4; square++) {
            int both = square;
            s.noArgument(Beds::busy, "shift(0, " + square + ", " + square + ", 1)", x -> x.shift(0, both, both, 1));
            s.noArgument(Beds::busy, "shift(0, " + square + ", " + square + ", 300)", x -> x.shift(0, both, both, 300));
        }
        s.due("shift(0, 1, 2, 1)", shifting().shift(0, 1, 2, 1), 1);
        FeatherBeds x = shifting();
        x.shift(0, 0, 1, 40);
        s.due("shift(0, 1, 2, 300)", x.shift(0, 1, 2, 300), 300);
    }

    private void squareWhat() {
        s.promise(15, "what: 0 to 5 its feathers of this size, 6 all, 7 its warmth");
        FeatherBeds x = Beds.withTick(2, 1, 9);
        int[] due = {0, 0, 0, 0, 0, 0, 0, 0};
        for (int what = 0; what < 8; what++) {
            s.due("empty, square(0, 1, " + what + ")", x.square(0, 1, what), due[what]);
        }
        for (int size = 0; size < 6; size++) {
            Beds.stuff(x, 0, 1, size, 40 + size);
        }
        int[] filled = {40, 41, 42, 43, 44, 45, 255, 240 + 205 + 168 + 129 + 88 + 45};
        for (int what = 0; what < 8; what++) {
            s.due("filled, square(0, 1, " + what + ")", x.square(0, 1, what), filled[what]);
            s.due("the other one, square(0, 0, " + what + ")", x.square(0, 0, what), 0);
        }
        Beds.stuff(x, 0, 0, 0, 300);
        s.due("full, square(0, 0, 6)", x.square(0, 0, 6), 300);
        s.due("full, square(0, 0, 7)", x.square(0, 0, 7), 900);
    }

    private void squareOpen() {
        s.promise(15, "8 1 if the pair with the one to the right is open, else 0, 9 1 if that with the one below is, "
                + "else 0 (0, too, if there is none)");
        FeatherBeds x = withTick(2, 2);
        int[] open = {1, 1, 0, 1, 1, 0, 0, 0};
        for (int seams = 0; seams < 4; seams++) {
            for (int i = 0; i < open.length; i++) {
                String call = seams + " seams, square(0, " + i / 2 + ", " + (8 + i % 2) + ")";
                s.due(call, x.square(0, i / 2, 8 + i % 2), open[i]);
            }
            int[] next = {0, 1, 3, 4};
            x.sew(0, next[seams] / 2, next[seams] % 2, true);
            open[next[seams]] = 0;
        }
        FeatherBeds one = withTick(1, 1);
        s.due("a single square, square(0, 0, 8)", one.square(0, 0, 8), 0);
        s.due("a single square, square(0, 0, 9)", one.square(0, 0, 9), 0);
        FeatherBeds great = withTick(6, 6);
        s.due("the last square, square(0, 35, 8)", great.square(0, 35, 8), 0);
        s.due("the last square, square(0, 35, 9)", great.square(0, 35, 9), 0);
        s.due("the last row, square(0, 30, 9)", great.square(0, 30, 9), 0);
        s.due("the last row but one, square(0, 29, 9)", great.square(0, 29, 9), 1);
        s.due("the last column, square(0, 5, 8)", great.square(0, 5, 8), 0);
    }

    private void squareNoSuch() {
        s.promise(15, "Throws IndexOutOfBoundsException if there is no such tick or square, or what is not 0 to 9");
        s.noIndex(FeatherBeds::new, "square(0, 0, 0) without ticks", x -> x.square(0, 0, 0));
        for (int tick : Sentences.noneOf(2, 6)) {
            s.noIndex(Beds::busy, "square(" + tick + ", 0, 6)", x -> x.square(tick, 0, 6));
        }
        s.noIndex(Beds::full, "square(6, 0, 6)", x -> x.square(6, 0, 6));
        for (int square : Sentences.noneOf(4, 36)) {
            s.noIndex(Beds::busy, "square(0, " + square + ", 6)", x -> x.square(0, square, 6));
        }
        s.noIndex(() -> withTick(6, 6), "square(0, 36, 8)", x -> x.square(0, 36, 8));
        for (int what : Sentences.outside(0, 9)) {
            s.noIndex(Beds::busy, "square(0, 0, " + what + ")", x -> x.square(0, 0, what));
        }
        s.unchanged(() -> withTick(6, 6), "square(0, 0, 0), the first of all", x -> x.square(0, 0, 0), 0);
        s.unchanged(Beds::full, "square(5, 1, 9), the last of all", x -> x.square(5, 1, 9), 0);
        s.unchanged(Beds::full, "square(5, 0, 8)", x -> x.square(5, 0, 8), 1);
    }

    private void tickWhat() {
        s.promise(16, "what: 0 its columns, 1 its rows, 2 its density, 3 its feathers, "
                + "4 the warmth of all squares, added, 5 that of its coldest square");
        FeatherBeds x = Beds.withTick(2, 3, 9);
        int[] empty = {2, 3, 9, 0, 0, 0, 0, 7, 1};
        for (int what = 0; what < 9; what++) {
            s.due("empty, tick(0, " + what + ")", x.tick(0, what), empty[what]);
        }
        int[] many = {300, 150, 151, 149, 300, 300};
        for (int square = 0; square < 6; square++) {
            Beds.stuff(x, 0, square, 0, many[square]);
        }
        // each square's warmth is at most 900, not that of all
        int[] filled = {2, 3, 9, 1350, 5 * 900 + 894, 894, 3, 7, 1};
        for (int what = 0; what < 9; what++) {
            s.due("filled, tick(0, " + what + ")", x.tick(0, what), filled[what]);
        }
        Beds.stuff(x, 0, 3, 1, 1);
        s.due("the coldest just under 900, tick(0, 5)", x.tick(0, 5), 899);
        Beds.stuff(x, 0, 3, 5, 1);
        s.due("all 900, tick(0, 5)", x.tick(0, 5), 900);
        s.due("all 900, tick(0, 4)", x.tick(0, 4), 5400);
    }

    private void tickColdest() {
        s.promise(16, "6 this square, of several the one with the smallest number");
        int[][] many = {{0, 0, 0, 0}, {1, 0, 0, 0}, {1, 1, 0, 0}, {1, 1, 1, 0}, {1, 1, 1, 1}, {5, 3, 4, 3},
            {200, 150, 151, 300}, {200, 149, 300, 149}, {2, 9, 9, 1}};
        int[] due = {0, 1, 2, 3, 0, 1, 0, 1, 3};
        for (int i = 0; i < many.length; i++) {
            FeatherBeds x = Beds.withTick(2, 2, 9);
            for (int square = 0; square < 4; square++) {
                if (many[i][square] > 0) {
                    Beds.stuff(x, 0, square, 0, many[i][square]);
                }
            }
            s.due("row " + i + ", tick(0, 6)", x.tick(0, 6), due[i]);
        }
        FeatherBeds x = Beds.withTick(3, 1, 9);
        Beds.stuff(x, 0, 0, 0, 2);
        Beds.stuff(x, 0, 1, 4, 5);
        Beds.stuff(x, 0, 2, 5, 10);
        // 12, 10 and 10: the warmth, not the feathers
        s.due("other sizes, tick(0, 6)", x.tick(0, 6), 1);
    }

    private void tickParts() {
        s.promise(16, "7 its open pairs, 8 parts into which seams divide it (squares that hang together by open pairs)");
        FeatherBeds one = withTick(1, 1);
        s.due("a single square, tick(0, 7)", one.tick(0, 7), 0);
        s.due("a single square, tick(0, 8)", one.tick(0, 8), 1);
        FeatherBeds ring = withTick(3, 3);
        s.due("no seam, tick(0, 8)", ring.tick(0, 8), 1);
        int[][] seams = {{4, 0}, {1, 1}, {4, 1}, {3, 0}};
        for (int i = 0; i < seams.length; i++) {
            s.due("open pairs", ring.sew(0, seams[i][0], seams[i][1], true), 11 - i);
            s.due((i + 1) + " seams round a square, tick(0, 8)", ring.tick(0, 8), i < 3 ? 1 : 2);
        }
        FeatherBeds rows = withTick(6, 6);
        for (int square = 0; square < 30; square++) {
            rows.sew(0, square, 1, true);
            int due = square % 6 == 5 ? 2 + square / 6 : 1 + square / 6;
            s.due("sewn below square " + square + ", tick(0, 8)", rows.tick(0, 8), due);
        }
        for (int square = 0; square < 36; square++) {
            if (square % 6 < 5) {
                rows.sew(0, square, 0, true);
            }
        }
        s.due("all are sewn, tick(0, 7)", rows.tick(0, 7), 0);
        s.due("all are sewn, tick(0, 8)", rows.tick(0, 8), 36);
        // a part that is bent: 0 hangs together with 2 by way of 3, 4, 5 alone
        FeatherBeds bent = withTick(3, 2);
        bent.sew(0, 0, 0, true);
        bent.sew(0, 1, 0, true);
        s.due("bent, tick(0, 8)", bent.tick(0, 8), 1);
        bent.sew(0, 1, 1, true);
        s.due("a square left out, tick(0, 8)", bent.tick(0, 8), 2);
    }

    private void tickNoSuch() {
        s.promise(16, "Throws IndexOutOfBoundsException if there is no such tick, or what is not 0 to 8");
        s.noIndex(FeatherBeds::new, "tick(0, 0) without ticks", x -> x.tick(0, 0));
        for (int tick : Sentences.noneOf(2, 6)) {
            s.noIndex(Beds::busy, "tick(" + tick + ", 0)", x -> x.tick(tick, 0));
        }
        s.noIndex(Beds::full, "tick(6, 0)", x -> x.tick(6, 0));
        for (int what : Sentences.outside(0, 8)) {
            s.noIndex(Beds::busy, "tick(1, " + what + ")", x -> x.tick(1, what));
        }
        s.unchanged(Beds::full, "tick(0, 0), the first of both", x -> x.tick(0, 0), 1);
        s.unchanged(Beds::full, "tick(5, 8), the last of both", x -> x.tick(5, 8), 1);
    }
}
