/** The boundary cases of "Terms": the warmth of a square, and a night. */
final class NightTermsEdges {
    private final Sentences s;

    NightTermsEdges(Sentences sentences) {
        s = sentences;
    }

    void all() {
        warmthAtMost();
        eachTickByItself();
        prickingLoss();
        prickingIfMore();
        pricksThenShifts();
        orderOfPairs();
        onlyOpenPairs();
        difference();
        sizeZeroFirst();
        noOthers();
        fewer();
        oneNightMore();
    }

    /** A tick of so many columns and of one row, with so many feathers of each size in its squares. */
    private static FeatherBeds row(int density, int[]... heaps) {
        return bed(heaps.length, density, heaps);
    }

    private static FeatherBeds bed(int columns, int density, int[]... heaps) {
        FeatherBeds x = Beds.withTick(columns, heaps.length / columns, density);
        for (int square = 0; square < heaps.length; square++) {
            for (int size = 0; size < heaps[square].length; size++) {
                if (heaps[square][size] > 0) {
                    Beds.stuff(x, 0, square, size, heaps[square][size]);
                }
            }
        }
        return x;
    }

    /** What square() tells of the feathers in all of each square. */
    private static String feathers(FeatherBeds x) {
        StringBuilder all = new StringBuilder();
        int squares = x.tick(0, 0) * x.tick(0, 1);
        for (int square = 0; square < squares; square++) {
            all.append(square > 0 ? " " : "").append(x.square(0, square, 6));
        }
        return all.toString();
    }

    private static String behind(FeatherBeds x, int nights) {
        x.pass(nights);
        return feathers(x);
    }

    private void warmthAtMost() {
        s.terms("(6 less k) for each feather, added, but at most 900.");
        int[][] heaps = {{}, {1}, {0, 1}, {0, 0, 1}, {0, 0, 0, 1}, {0, 0, 0, 0, 1}, {0, 0, 0, 0, 0, 1},
            {1, 1, 1, 1, 1, 1}, {149, 1}, {150}, {150, 0, 0, 0, 0, 1}, {151}, {300}, {0, 179}, {0, 180}, {0, 181},
            {0, 0, 225}, {0, 0, 0, 300}, {0, 0, 0, 299, 1}, {0, 0, 0, 0, 300}, {0, 0, 0, 0, 0, 300}, {1, 0, 0, 299}};
        int[] due = {0, 6, 5, 4, 3, 2, 1, 21, 899, 900, 900, 900, 900, 895, 900, 900, 900, 900, 899, 600, 300, 900};
        for (int i = 0; i < heaps.length; i++) {
            s.due("row " + i + ", square(0, 0, 7)", row(9, heaps[i]).square(0, 0, 7), due[i]);
        }
    }

    private void eachTickByItself() {
        s.terms("A night goes like this, for each tick by itself:");
        FeatherBeds x = Beds.withTick(1, 2, 9);
        x.addTick(2, 1, 1);
        x.addTick(1, 1, 9);
        Beds.stuff(x, 0, 1, 0, 160);
        Beds.stuff(x, 1, 0, 1, 240);
        // of tick 1: 240 * 1 / 30 are lost, then 232 / 8 go; of tick 0: none, and 160 / 8
        s.due("pass(1)", x.pass(1), 8);
        int[][] due = {{0, 0, 20}, {0, 1, 140}, {1, 0, 203}, {1, 1, 29}, {2, 0, 0}};
        for (int[] row : due) {
            s.due("square(" + row[0] + ", " + row[1] + ", 6)", x.square(row[0], row[1], 6), row[2]);
        }
    }

    private void prickingLoss() {
        s.terms("of each square and each size k, n * (2 * k less the density) / 30 feathers are lost");
        // size, density, many, lost: none when too few; the strongest pricking
        int[][] due = {{1, 1, 29, 0}, {1, 1, 30, 1}, {1, 1, 59, 1}, {1, 1, 60, 2}, {5, 1, 3, 0}, {5, 1, 4, 1},
            {5, 1, 300, 90}, {5, 9, 29, 0}, {5, 9, 30, 1}, {5, 9, 300, 10}, {3, 2, 100, 13}};
        for (int[] row : due) {
            int[] heap = new int[row[0] + 1];
            heap[row[0]] = row[2];
            FeatherBeds x = row(row[1], heap);
            s.due(row[2] + " of size " + row[0] + ", density " + row[1] + ", pass(1)", x.pass(1), row[3]);
            s.due("those that are left", x.square(0, 0, row[0]), row[2] - row[3]);
        }
        FeatherBeds all = row(1, new int[] {50, 50, 50, 50, 50, 50}, new int[] {29, 29, 29, 29, 29, 29});
        all.sew(0, 0, 0, true);
        // 50 * 1, 3, 5, 7, 9 / 30 and 29 * 1, 3, 5, 7, 9 / 30, each cut by itself
        s.due("all sizes of two squares, pass(1)", all.pass(1), 1 + 5 + 8 + 11 + 15 + 2 + 4 + 6 + 8);
        int[] left = {50, 49, 45, 42, 39, 35, 29, 29, 27, 25, 23, 21};
        for (int i = 0; i < left.length; i++) {
            s.due("square(0, " + i / 6 + ", " + i % 6 + ")", all.square(0, i / 6, i % 6), left[i]);
        }
    }

    private void prickingIfMore() {
        s.terms("if 2 * k is more than the density; n is how many of this size are there.");
        for (int density = 1; density <= 9; density++) {
            for (int size = 0; size < 6; size++) {
                int[] heap = new int[size + 1];
                heap[size] = 300;
                FeatherBeds x = row(density, heap);
                int due = 2 * size > density ? 10 * (2 * size - density) : 0;
                s.due("density " + density + ", size " + size + ", pass(1)", x.pass(1), due);
                s.due("count(7)", x.count(7), due);
                s.due("square(0, 0, 6)", x.square(0, 0, 6), 300 - due);
            }
        }
    }

    private void pricksThenShifts() {
        s.terms("1. Pricking: of each square and each size k");
        // 100 * 9 / 30 are lost first: then 90 against 60, not 120 against 60
        FeatherBeds x = row(1, new int[] {20, 0, 0, 0, 0, 100}, new int[] {60});
        s.due("pass(1)", x.pass(1), 30);
        s.same("the squares", feathers(x), "87 63");
        // 7 against 0 behind the pricking, 8 before it
        s.same("just too few", behind(row(1, new int[] {4, 0, 0, 0, 0, 4}, new int[] {0}), 1), "7 0");
    }

    private void orderOfPairs() {
        s.terms("2. Shifting: the open pairs are gone through, by the number of the square, "
                + "of the same square the direction 0 first:");
        int[] none = {};
        int[] down = {160};
        s.same("a row from its begin", behind(row(9, down, none, none), 1), "140 18 2");
        s.same("a row from its end", behind(row(9, none, none, down), 1), "0 20 140");
        s.same("right before below", behind(bed(2, 9, down, none, none, none), 1), "123 18 16 3");
        s.same("the last square", behind(bed(2, 9, none, none, none, down), 1), "0 20 17 123");
        s.same("a column", behind(bed(1, 9, down, none, none), 1), "140 18 2");
        s.same("the second night", behind(row(9, down, none, none), 2), "125 30 5");
        FeatherBeds halves = row(9, down, none, none, none);
        halves.sew(0, 1, 0, true);
        s.same("two nights, the last pair is at rest", behind(halves, 2), "125 35 0 0");
    }

    private void onlyOpenPairs() {
        s.terms("the open pairs are gone through");
        int[] none = {};
        int[] down = {160};
        FeatherBeds x = bed(2, 9, down, none, none, none);
        x.sew(0, 0, 0, true);
        s.same("a seam to the right", behind(x, 1), "140 0 18 2");
        x.sew(0, 0, 1, true);
        s.same("a seam below, too", behind(x, 1), "140 0 16 4");
        x.sew(0, 2, 0, true);
        x.sew(0, 1, 1, true);
        s.same("all are sewn", behind(x, 200), "140 0 16 4");
        x.sew(0, 0, 0, false);
        s.same("opened", behind(x, 1), "123 17 16 4");
    }

    private void difference() {
        s.terms("let d be the difference of the feathers of both squares, in all, without its sign, / 8;");
        int[][] due = {{0, 0}, {1, 0}, {7, 0}, {8, 1}, {9, 1}, {15, 1}, {16, 2}, {300, 37}};
        for (int[] d : due) {
            int[] many = {d[0]};
            String more = Integer.toString(d[0] - d[1]);
            String less = Integer.toString(d[1]);
            s.same(d[0] + " to the left", behind(row(9, many, new int[0]), 1), more + " " + less);
            s.same(d[0] + " to the right", behind(row(9, new int[0], many), 1), less + " " + more);
        }
        // one by one, until 7 are too few
        s.same("15 for 3 nights", behind(row(9, new int[] {15}, new int[0]), 3), "12 3");
        s.same("15 for 200 nights", behind(row(9, new int[] {15}, new int[0]), 200), "11 4");
        s.same("15 to the left for 200 nights", behind(row(9, new int[0], new int[] {15}), 200), "4 11");
        s.same("8 more than 100", behind(row(9, new int[] {108}, new int[] {100}), 1), "107 101");
        s.same("7 more than 100", behind(row(9, new int[] {107}, new int[] {100}), 1), "107 100");
        s.same("as many of other sizes", behind(row(9, new int[] {100}, new int[] {0, 0, 100}), 1), "100 100");
        s.same("more of other sizes", behind(row(9, new int[] {50, 0, 0, 0, 50}, new int[] {60}), 1), "95 65");
    }

    private void sizeZeroFirst() {
        s.terms("so many go from the square with more to the other one, those of size 0 first, then those of size 1");
        int[][] heaps = {{160}, {20, 140}, {19, 141}, {1, 159}, {0, 160}, {21, 139}};
        int[][] gone = {{20, 0}, {20, 0}, {19, 1}, {1, 19}, {0, 20}, {20, 0}};
        for (int i = 0; i < heaps.length; i++) {
            for (int to = 0; to < 2; to++) {
                FeatherBeds x = to == 1 ? row(9, heaps[i], new int[0]) : row(9, new int[0], heaps[i]);
                x.pass(1);
                s.due("row " + i + ", size 0 in square " + to, x.square(0, to, 0), gone[i][0]);
                s.due("row " + i + ", size 1 in square " + to, x.square(0, to, 1), gone[i][1]);
                s.due("row " + i + ", size 0 in the other one", x.square(0, 1 - to, 0), heaps[i][0] - gone[i][0]);
            }
        }
    }

    private void noOthers() {
        s.terms("then those of size 1 (no others;");
        for (int size = 2; size < 6; size++) {
            int[] heap = new int[6];
            heap[size] = 29;
            s.same("29 of size " + size, behind(row(9, heap, new int[0]), 200), "29 0");
            s.same("29 of size " + size + " on the right", behind(row(9, new int[0], heap), 200), "0 29");
        }
    }

    private void fewer() {
        s.terms("fewer, if there are not so many).");
        int[][] heaps = {{4, 5, 100, 0, 51}, {0, 19, 141}, {19, 0, 0, 141}, {0, 20, 140}, {0, 0, 160}};
        int[] gone = {9, 19, 19, 20, 0};
        for (int i = 0; i < heaps.length; i++) {
            FeatherBeds x = row(9, heaps[i], new int[0]);
            x.pass(1);
            s.due("row " + i + ", those that go", x.square(0, 1, 6), gone[i]);
            s.due("row " + i + ", of sizes 0 and 1", x.square(0, 1, 0) + x.square(0, 1, 1), gone[i]);
        }
    }

    private void oneNightMore() {
        s.terms("Then the number of nights is 1 greater.");
        FeatherBeds x = row(9, new int[] {160}, new int[0]);
        x.pass(1);
        s.due("pass(1), then count(0)", x.count(0), 1);
        x.pass(200);
        s.due("pass(200), then count(0)", x.count(0), 201);
        x.pass(200);
        s.due("nights in which nothing goes, then count(0)", x.count(0), 401);
        FeatherBeds none = new FeatherBeds();
        none.pass(1);
        s.due("a night without ticks, then count(0)", none.count(0), 1);
    }
}
