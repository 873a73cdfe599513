/** The boundary cases of "What it is" and "Terms": calls, numbers, heaps, sacks, the tower, blowing, ticks, pairs. */
final class TermsEdges {
    private final Sentences s;

    TermsEdges(Sentences sentences) {
        s = sentences;
    }

    void all() {
        callsOfAnObject();
        cutTowardsZero();
        nightsFromZero();
        sizes();
        atMostTwelveSacks();
        atMostFiveHundred();
        dampness();
        fiveChambers();
        windStrength();
        theYard();
        atMostFour();
        fallingThere();
        intoTheNext();
        intoTheOneAhead();
        atMostSixTicks();
        columnsRowsDensity();
        squareNumbers();
        atMostThreeHundred();
        pairs();
        pairsAreTold();
        openAtFirst();
    }

    private static FeatherBeds withSack(int damp, int size, int many, int wind) {
        FeatherBeds x = new FeatherBeds();
        x.addSack(damp);
        x.put(0, size, many);
        x.setWind(wind);
        return x;
    }

    private void callsOfAnObject() {
        s.says("What it is", "An object is used for at most 512 calls after it has been made; "
                + "what later calls answer is free.");
        FeatherBeds nights = new FeatherBeds();
        for (int call = 1; call < 512; call++) {
            nights.pass(200);
        }
        s.due("the 512th call, count(0)", nights.count(0), 511 * 200);
        for (int what = 0; what < 3; what++) {
            FeatherBeds x = new FeatherBeds();
            x.addSack(0);
            for (int call = 2; call < 512; call += 2) {
                x.put(0, 0, 500);
                x.blow(0);
            }
            int got = what == 0 ? x.chamber(4, 0) : what == 1 ? x.count(6) : x.chamber(4, 8);
            s.due("the 512th call, row " + what, got, what == 0 ? 255 * 300 : what == 1 ? 255 * 125 : 100);
        }
        FeatherBeds refusing = new FeatherBeds();
        for (int call = 1; call < 512; call++) {
            try {
                refusing.addSack(10);
            } catch (IllegalArgumentException e) {
                continue;
            }
        }
        s.due("the 512th call, the first that is not refused", refusing.addSack(9), 0);
        FeatherBeds looking = new FeatherBeds();
        looking.addTick(6, 6, 9);
        for (int call = 2; call < 512; call++) {
            looking.foresee(0, 200, 0);
        }
        s.due("the 512th call, advise(0, 60)", looking.advise(0, 60), -1);
    }

    private void cutTowardsZero() {
        s.terms("All numbers are whole, and / is cut towards 0.");
        // 12 / 8 is 1; 3 * 6 / 10 is 1, 3 / 4 is 0
        FeatherBeds blown = withSack(0, 1, 3, 1);
        blown.blow(0);
        s.due("12 / 8, chamber(1, 1)", blown.chamber(1, 1), 1);
        s.due("3 / 4, chamber(2, 1)", blown.chamber(2, 1), 0);
        s.due("the others, chamber(0, 1)", blown.chamber(0, 1), 2);
        blown.put(0, 0, 3);
        blown.put(0, 2, 7);
        blown.blow(0);
        // of size 0, with 12 / 4, 2 get into chamber 2; of size 2, with 12 / 12, 7 / 4
        s.due("200 / 3, chamber(2, 8)", blown.chamber(2, 8), 66);
        FeatherBeds pricked = Beds.withTick(1, 1, 1);
        Beds.stuff(pricked, 0, 0, 5, 13);
        s.due("13 * 9 / 30, pass(1)", pricked.pass(1), 3);
        FeatherBeds shifted = Beds.withTick(2, 1, 9);
        Beds.stuff(shifted, 0, 0, 0, 15);
        shifted.pass(1);
        s.due("15 / 8 to the right", shifted.square(0, 1, 0), 1);
        FeatherBeds back = Beds.withTick(2, 1, 9);
        Beds.stuff(back, 0, 1, 0, 15);
        back.pass(1);
        s.due("15 / 8 to the left", back.square(0, 0, 0), 1);
    }

    private void nightsFromZero() {
        s.terms("Nights are counted from 0.");
        FeatherBeds x = new FeatherBeds();
        s.due("a new one, count(0)", x.count(0), 0);
        x.pass(1);
        s.due("behind the first night", x.count(0), 1);
    }

    private void sizes() {
        s.terms("Feathers have sizes, 0 (down) to 5 (quills). "
                + "A heap is 6 numbers: how many feathers of each size it has.");
        for (int size = 0; size < 6; size++) {
            FeatherBeds x = withSack(0, size, 100, 20);
            for (int other = 0; other < 6; other++) {
                s.due("sack(0, " + other + ")", x.sack(0, other), other == size ? 100 : 0);
            }
            x.blow(0);
            x.addTick(1, 1, 9);
            x.fill(0, 0, 4, 10);
            for (int other = 0; other < 6; other++) {
                s.due("chamber(4, " + other + ")", x.chamber(4, other), other == size ? 50 : 0);
                s.due("square(0, 0, " + other + ")", x.square(0, 0, other), other == size ? 10 : 0);
            }
        }
        for (int size : new int[] {-1, 6}) {
            s.noIndex(Beds::busy, "put(1, " + size + ", 1)", x -> x.put(1, size, 1));
        }
    }

    private void atMostTwelveSacks() {
        s.terms("There are at most 12, numbered from 0 in the order of their coming");
        FeatherBeds x = new FeatherBeds();
        for (int number = 0; number < 12; number++) {
            s.due("addSack(" + number % 10 + ")", x.addSack(number % 10), number);
            x.put(number, 0, 10 + number);
        }
        for (int number = 0; number < 12; number++) {
            s.due("sack(" + number + ", 7)", x.sack(number, 7), number % 10);
            s.due("sack(" + number + ", 0)", x.sack(number, 0), 10 + number);
        }
        s.noState(Beds::full, "a 13th", y -> y.addSack(0));
    }

    private void atMostFiveHundred() {
        s.terms("each is a heap, with at most 500 of each size, and is damp, 0 to 9.");
        FeatherBeds x = withSack(0, 0, 500, 20);
        for (int size = 1; size < 6; size++) {
            s.due("put(0, " + size + ", 500)", x.put(0, size, 500), 500);
        }
        s.due("of all sizes", x.sack(0, 6), 3000);
        x.addSack(0);
        x.blow(0);
        for (int size = 0; size < 6; size++) {
            x.put(0, size, 499);
        }
        s.due("swept in, one of each size", x.sweep(4, 0), 6);
        s.due("of all sizes", x.sack(0, 6), 3000);
        for (int size = 0; size < 6; size++) {
            int full = size;
            s.noState(Beds::full, "put(0, " + size + ", 1)", y -> y.put(0, full, 1));
        }
    }

    private void dampness() {
        s.terms("and is damp, 0 to 9.");
        for (int damp = 0; damp <= 9; damp += 9) {
            FeatherBeds x = new FeatherBeds();
            x.addSack(damp);
            s.due("addSack(" + damp + "), then sack(0, 7)", x.sack(0, 7), damp);
        }
        FeatherBeds dried = new FeatherBeds();
        dried.addSack(9);
        dried.dry(0, 8);
        s.due("never under 0", dried.dry(0, 9), 0);
        s.noArgument(Beds::busy, "addSack(-1)", x -> x.addSack(-1));
        s.noArgument(Beds::busy, "addSack(10)", x -> x.addSack(10));
    }

    private void fiveChambers() {
        s.terms("It has 5 chambers in a row, 0 (near the fan) to 4; each is a heap (empty, at first).");
        FeatherBeds x = new FeatherBeds();
        for (int c = 0; c < 5; c++) {
            s.due("chamber(" + c + ", 6)", x.chamber(c, 6), 0);
        }
        s.noIndex(FeatherBeds::new, "chamber(5, 6)", y -> y.chamber(5, 6));
        s.noIndex(FeatherBeds::new, "chamber(-1, 6)", y -> y.chamber(-1, 6));
        // damp 2 makes size 0 weigh 6: winds 1, 2 bring it into chambers 2, 4; size 1: 1, 2, 3, 4; size 5: 0
        int[][] flights = {{5, 1, 0}, {1, 1, 1}, {1, 2, 2}, {1, 3, 3}, {0, 2, 4}};
        for (int[] f : flights) {
            FeatherBeds y = withSack(2, f[0], 10, f[1]);
            y.blow(0);
            s.due("those that fall into " + f[2], y.chamber(f[2], f[0]), 6);
        }
    }

    private void windStrength() {
        s.terms("The wind has a strength, 1 to 20 (10, at first).");
        s.due("at first, count(8)", new FeatherBeds().count(8), 10);
        FeatherBeds x = new FeatherBeds();
        x.addSack(9);
        x.put(0, 4, 100);
        x.blow(0);
        // 10 * 12 / 65 is 1
        s.due("blown at first, chamber(1, 4)", x.chamber(1, 4), 60);
        s.due("setWind(1)", x.setWind(1), 10);
        s.due("setWind(20)", x.setWind(20), 1);
        s.noArgument(Beds::busy, "setWind(0)", y -> y.setWind(0));
        s.noArgument(Beds::busy, "setWind(21)", y -> y.setWind(21));
    }

    private void theYard() {
        s.terms("Behind the last chamber is the yard, where feathers are lost.");
        FeatherBeds x = withSack(0, 0, 100, 20);
        x.blow(0);
        s.due("in the yard", x.count(6), 25);
        s.due("in sacks, chambers and ticks", x.count(3) + x.count(4) + x.count(5), 75);
        s.due("not lost by pricking", x.count(7), 0);
        for (int c = 0; c < 5; c++) {
            x.sweep(c, 0);
        }
        s.due("swept, in the sack", x.sack(0, 0), 75);
        x.blow(0);
        s.due("in the yard, then", x.count(6), 25 + 18);
    }

    private void atMostFour() {
        s.terms("they fly to the chamber c = wind * 12 / ((k and 1) * (4 and how damp the sack is)), but at most 4:");
        // size, damp, wind, the chamber: 3, just 4, just 5, 6, 60; 0 just so, and just 1
        int[][] flights = {{0, 0, 1, 3}, {0, 2, 2, 4}, {0, 8, 5, 4}, {0, 0, 2, 4}, {0, 0, 20, 4}, {1, 3, 1, 0},
            {1, 2, 1, 1}, {5, 9, 6, 0}, {5, 9, 7, 1}, {5, 9, 20, 3}, {5, 8, 20, 3}, {5, 6, 20, 4}, {4, 2, 12, 4}};
        for (int[] f : flights) {
            FeatherBeds x = withSack(f[1], f[0], 100, f[2]);
            x.blow(0);
            for (int c = 0; c < 5; c++) {
                int due = c == f[3] ? 60 : c == f[3] + 1 ? 25 : c == f[3] - 1 ? 15 : 0;
                s.due("size " + f[0] + ", damp " + f[1] + ", wind " + f[2] + ", chamber " + c, x.chamber(c, f[0]), due);
            }
            s.due("the yard", x.count(6), f[3] == 4 ? 25 : 0);
            s.due("the sack", x.sack(0, f[0]), f[3] == 0 ? 15 : 0);
        }
    }

    private void fallingThere() {
        s.terms("n * 6 / 10 of them fall there");
        int[][] due = {{1, 0}, {2, 1}, {3, 1}, {4, 2}, {5, 3}, {9, 5}, {10, 6}, {11, 6}, {499, 299}, {500, 300}};
        for (int[] row : due) {
            FeatherBeds x = withSack(0, 0, row[0], 1);
            x.blow(0);
            s.due("of " + row[0] + ", chamber(3, 0)", x.chamber(3, 0), row[1]);
        }
        FeatherBeds none = new FeatherBeds();
        none.addSack(0);
        none.blow(0);
        s.due("of none, in chambers", none.count(4), 0);
    }

    private void intoTheNext() {
        s.terms("n / 4 into the next chamber (from 4: into the yard)");
        int[][] due = {{1, 0}, {3, 0}, {4, 1}, {7, 1}, {8, 2}, {499, 124}, {500, 125}};
        for (int[] row : due) {
            FeatherBeds x = withSack(0, 0, row[0], 1);
            x.blow(0);
            s.due("from 3, of " + row[0] + ", chamber(4, 0)", x.chamber(4, 0), row[1]);
            s.due("from 3, the yard", x.count(6), 0);
            FeatherBeds y = withSack(0, 0, row[0], 2);
            y.blow(0);
            s.due("from 4, of " + row[0] + ", the yard", y.count(6), row[1]);
            s.due("from 4, chamber(4, 0)", y.chamber(4, 0), row[0] * 6 / 10);
            FeatherBeds z = withSack(9, 5, row[0], 1);
            z.blow(0);
            s.due("from 0, of " + row[0] + ", chamber(1, 5)", z.chamber(1, 5), row[1]);
        }
    }

    private void intoTheOneAhead() {
        s.terms("and all others into the one ahead of it (from 0: they stay in the sack).");
        int[][] due = {{1, 1}, {2, 1}, {3, 2}, {4, 1}, {7, 2}, {10, 2}, {500, 75}};
        for (int[] row : due) {
            FeatherBeds x = withSack(9, 5, row[0], 1);
            x.blow(0);
            s.due("from 0, of " + row[0] + ", sack(0, 5)", x.sack(0, 5), row[1]);
            s.due("from 0, in all", x.count(3) + x.count(4), row[0]);
            FeatherBeds y = withSack(0, 1, row[0], 1);
            y.blow(0);
            s.due("from 1, of " + row[0] + ", chamber(0, 1)", y.chamber(0, 1), row[1]);
            s.due("from 1, sack(0, 1)", y.sack(0, 1), 0);
            FeatherBeds z = withSack(0, 0, row[0], 20);
            z.blow(0);
            s.due("from 4, of " + row[0] + ", chamber(3, 0)", z.chamber(3, 0), row[1]);
        }
    }

    private void atMostSixTicks() {
        s.terms("There are at most 6, numbered likewise");
        FeatherBeds x = new FeatherBeds();
        for (int number = 0; number < 6; number++) {
            s.due("addTick(" + (number + 1) + ", 1, 9)", x.addTick(number + 1, 1, 9), number);
        }
        for (int number = 0; number < 6; number++) {
            s.due("tick(" + number + ", 0)", x.tick(number, 0), number + 1);
        }
        s.noState(Beds::full, "a 7th", y -> y.addTick(1, 1, 1));
    }

    private void columnsRowsDensity() {
        s.terms("each has columns and rows of squares, 1 to 6 each, and a density of its cloth, 1 to 9.");
        int[][] sizes = {{1, 1, 1}, {6, 6, 9}, {1, 6, 1}, {6, 1, 9}};
        FeatherBeds x = new FeatherBeds();
        for (int t = 0; t < sizes.length; t++) {
            x.addTick(sizes[t][0], sizes[t][1], sizes[t][2]);
            for (int what = 0; what < 3; what++) {
                s.due("tick(" + t + ", " + what + ")", x.tick(t, what), sizes[t][what]);
            }
        }
        int[][] wrong = {{0, 1, 1}, {7, 1, 1}, {1, 0, 1}, {1, 7, 1}, {1, 1, 0}, {1, 1, 10}};
        for (int[] w : wrong) {
            s.noArgument(Beds::busy, "addTick(" + w[0] + ", " + w[1] + ", " + w[2] + ")",
                    y -> y.addTick(w[0], w[1], w[2]));
        }
    }

    private void squareNumbers() {
        s.terms("A square (column x, row y) has the number x + columns * y");
        int[][] sizes = {{1, 1}, {6, 6}, {1, 6}, {6, 1}, {3, 2}, {2, 3}};
        for (int[] size : sizes) {
            FeatherBeds x = new FeatherBeds();
            x.addTick(size[0], size[1], 5);
            int last = size[0] * size[1] - 1;
            for (int square = 0; square <= last; square++) {
                s.due(size[0] + " columns, " + size[1] + " rows, square " + square + ", to the right",
                        x.square(0, square, 8), square % size[0] < size[0] - 1 ? 1 : 0);
                s.due("below", x.square(0, square, 9), square / size[0] < size[1] - 1 ? 1 : 0);
            }
            Sentences.Maker maker = () -> {
                FeatherBeds y = new FeatherBeds();
                y.addTick(size[0], size[1], 5);
                return y;
            };
            s.noIndex(maker, "square(0, " + (last + 1) + ", 6)", y -> y.square(0, last + 1, 6));
        }
    }

    private void atMostThreeHundred() {
        s.terms("it is a heap (empty, at first), of at most 300 feathers in all.");
        FeatherBeds x = Beds.withTick(2, 1, 9);
        for (int what = 0; what < 8; what++) {
            s.due("at first, square(0, 1, " + what + ")", x.square(0, 1, what), 0);
        }
        Beds.stuff(x, 0, 0, 0, 150);
        Beds.stuff(x, 0, 0, 4, 150);
        s.due("square(0, 0, 6)", x.square(0, 0, 6), 300);
        x.setWind(20);
        x.put(0, 0, 500);
        x.blow(0);
        x.put(0, 1, 500);
        x.blow(0);
        s.due("a 301st from a chamber", x.fill(0, 0, 4, 1), 0);
        x.fill(0, 1, 4, 1);
        s.due("a 301st from a square", x.shift(0, 1, 0, 1), 0);
        s.due("square(0, 0, 6) then", x.square(0, 0, 6), 300);
        s.due("as many as there is room", x.fill(0, 1, 4, 300), 299);
        x.pass(1);
        s.due("a night between full ones", x.square(0, 0, 6) * 1000 + x.square(0, 1, 6), 300 * 1000 + 300);
    }

    private void pairs() {
        s.terms("A pair are two squares side by side, in one row and neighbouring columns, "
                + "or in one column and neighbouring rows");
        int[][] sizes = {{1, 1, 0}, {6, 6, 60}, {1, 6, 5}, {6, 1, 5}, {3, 2, 7}};
        for (int[] size : sizes) {
            FeatherBeds x = new FeatherBeds();
            x.addTick(size[0], size[1], 5);
            s.due(size[0] + " columns, " + size[1] + " rows, tick(0, 7)", x.tick(0, 7), size[2]);
        }
        // 2 and 3 are neighbours by their numbers, but not side by side
        FeatherBeds x = Beds.withTick(3, 2, 9);
        Beds.stuff(x, 0, 2, 0, 160);
        x.sew(0, 1, 0, true);
        x.sew(0, 2, 1, true);
        x.pass(10);
        s.due("the end of a row", x.square(0, 2, 6), 160);
        s.due("the next row's begin", x.square(0, 3, 6), 0);
        s.due("parts", x.tick(0, 8), 2);
    }

    private void pairsAreTold() {
        s.terms("pairs are told by the square with the smaller number and a direction: 0, the other one is to the right,"
                + " or 1, it is below.");
        FeatherBeds x = new FeatherBeds();
        x.addTick(3, 2, 9);
        x.sew(0, 1, 0, true);
        x.sew(0, 0, 1, true);
        int[] right = {1, 0, 0, 1, 1, 0};
        int[] below = {0, 1, 1, 0, 0, 0};
        for (int square = 0; square < 6; square++) {
            s.due("square(0, " + square + ", 8)", x.square(0, square, 8), right[square]);
            s.due("square(0, " + square + ", 9)", x.square(0, square, 9), below[square]);
        }
    }

    private void openAtFirst() {
        s.terms("Between a pair there is a seam, or it is open (open, at first).");
        FeatherBeds x = new FeatherBeds();
        x.addTick(2, 2, 9);
        int[] all = {1, 1, 0, 1, 1, 0, 0, 0};
        for (int i = 0; i < all.length; i++) {
            s.due("at first, square(0, " + i / 2 + ", " + (8 + i % 2) + ")", x.square(0, i / 2, 8 + i % 2), all[i]);
        }
        s.due("a seam, then open pairs", x.sew(0, 0, 0, true), 3);
        x.addTick(2, 2, 9);
        s.due("a second tick, at first", x.tick(1, 7), 4);
    }
}
