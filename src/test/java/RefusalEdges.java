/** The sentences of "Terms" on exceptions, for each method that throws. */
final class RefusalEdges {
    private static final int MIN = Integer.MIN_VALUE;
    private static final int MAX = Integer.MAX_VALUE;

    private final Sentences s;

    RefusalEdges(Sentences sentences) {
        s = sentences;
    }

    void all() {
        busyIsBusy();
        changesNothingInSacks();
        changesNothingInTheTower();
        changesNothingInTicks();
        changesNothingByNight();
        sacksFirstNamed();
        ticksFirstNamed();
        nightsFirstNamed();
    }

    /** The refused calls below are made where each of them could change something. */
    private void busyIsBusy() {
        s.terms("A method that throws an exception changes nothing.");
        FeatherBeds x = Beds.busy();
        for (int what = 0; what < 9; what++) {
            s.isTrue("something is counted, count(" + what + ")", x.count(what) > 0);
        }
        for (int c = 0; c < 5; c++) {
            s.isTrue("something lies there, chamber(" + c + ", 6)", x.chamber(c, 6) > 0);
        }
        for (int sack = 0; sack < 3; sack++) {
            s.isTrue("something is in it, sack(" + sack + ", 6)", x.sack(sack, 6) > 0);
        }
        s.isTrue("nights would change tick 0", x.foresee(0, 1, 0) < x.tick(0, 3));
        s.isTrue("nights would change tick 1", x.foresee(1, 1, 0) < x.tick(1, 3));
        s.due("a seam", x.square(0, 0, 9), 0);
        s.isTrue("another wind than at first", x.count(8) != 10);
    }

    private void changesNothingInSacks() {
        s.terms("A method that throws an exception changes nothing.");
        s.noArgument(Beds::busy, "addSack(10)", x -> x.addSack(10));
        s.noState(Beds::full, "addSack(0)", x -> x.addSack(0));
        s.noIndex(Beds::busy, "put(3, 2, 5)", x -> x.put(3, 2, 5));
        s.noIndex(Beds::busy, "put(0, 6, 5)", x -> x.put(0, 6, 5));
        s.noArgument(Beds::busy, "put(0, 0, 0)", x -> x.put(0, 0, 0));
        s.noArgument(Beds::busy, "put(0, 0, -5)", x -> x.put(0, 0, -5));
        s.noState(Beds::busy, "put(0, 0, 500)", x -> x.put(0, 0, 500));
        s.noIndex(Beds::busy, "dry(3, 1)", x -> x.dry(3, 1));
        s.noArgument(Beds::busy, "dry(2, 0)", x -> x.dry(2, 0));
        s.noArgument(Beds::busy, "dry(2, -3)", x -> x.dry(2, -3));
        s.noArgument(Beds::busy, "dry(2, 10)", x -> x.dry(2, 10));
        s.noIndex(Beds::busy, "sack(3, 0)", x -> x.sack(3, 0));
        s.noIndex(Beds::busy, "sack(0, 8)", x -> x.sack(0, 8));
    }

    private void changesNothingInTheTower() {
        s.terms("A method that throws an exception changes nothing.");
        s.noArgument(Beds::busy, "setWind(0)", x -> x.setWind(0));
        s.noArgument(Beds::busy, "setWind(21)", x -> x.setWind(21));
        s.noIndex(Beds::busy, "blow(3)", x -> x.blow(3));
        s.noIndex(Beds::busy, "blow(-1)", x -> x.blow(-1));
        s.noIndex(Beds::busy, "sweep(0, 3)", x -> x.sweep(0, 3));
        s.noIndex(Beds::busy, "sweep(4, -1)", x -> x.sweep(4, -1));
        s.noIndex(Beds::busy, "sweep(5, 0)", x -> x.sweep(5, 0));
        s.noIndex(Beds::busy, "chamber(5, 0)", x -> x.chamber(5, 0));
        s.noIndex(Beds::busy, "chamber(0, 9)", x -> x.chamber(0, 9));
        s.noIndex(Beds::busy, "bestWind(3, 0, 0)", x -> x.bestWind(3, 0, 0));
        s.noIndex(Beds::busy, "bestWind(0, 5, 0)", x -> x.bestWind(0, 5, 0));
        s.noIndex(Beds::busy, "bestWind(0, 0, 6)", x -> x.bestWind(0, 0, 6));
    }

    private void changesNothingInTicks() {
        s.terms("A method that throws an exception changes nothing.");
        s.noArgument(Beds::busy, "addTick(7, 6, 9)", x -> x.addTick(7, 6, 9));
        s.noArgument(Beds::busy, "addTick(6, 7, 9)", x -> x.addTick(6, 7, 9));
        s.noArgument(Beds::busy, "addTick(6, 6, 10)", x -> x.addTick(6, 6, 10));
        s.noState(Beds::full, "addTick(1, 1, 1)", x -> x.addTick(1, 1, 1));
        s.noIndex(Beds::busy, "sew(2, 0, 0, true)", x -> x.sew(2, 0, 0, true));
        s.noIndex(Beds::busy, "sew(0, 4, 0, true)", x -> x.sew(0, 4, 0, true));
        s.noArgument(Beds::busy, "sew(0, 0, 2, true)", x -> x.sew(0, 0, 2, true));
        s.noArgument(Beds::busy, "sew(0, 0, -1, true)", x -> x.sew(0, 0, -1, true));
        s.noArgument(Beds::busy, "sew(0, 1, -1, false)", x -> x.sew(0, 1, -1, false));
        s.noArgument(Beds::busy, "sew(0, 1, 0, true)", x -> x.sew(0, 1, 0, true));
        s.noArgument(Beds::busy, "sew(0, 2, 1, true)", x -> x.sew(0, 2, 1, true));
        s.noIndex(Beds::busy, "fill(2, 0, 0, 5)", x -> x.fill(2, 0, 0, 5));
        s.noIndex(Beds::busy, "fill(0, 4, 0, 5)", x -> x.fill(0, 4, 0, 5));
        s.noIndex(Beds::busy, "fill(0, 0, 5, 5)", x -> x.fill(0, 0, 5, 5));
        s.noArgument(Beds::busy, "fill(0, 0, 0, 301)", x -> x.fill(0, 0, 0, 301));
        s.noArgument(Beds::busy, "fill(0, 0, 0, -5)", x -> x.fill(0, 0, 0, -5));
        s.noIndex(Beds::busy, "shift(2, 0, 1, 5)", x -> x.shift(2, 0, 1, 5));
        s.noIndex(Beds::busy, "shift(0, 4, 1, 5)", x -> x.shift(0, 4, 1, 5));
        s.noIndex(Beds::busy, "shift(0, 0, 4, 5)", x -> x.shift(0, 0, 4, 5));
        s.noArgument(Beds::busy, "shift(0, 1, 1, 5)", x -> x.shift(0, 1, 1, 5));
        s.noArgument(Beds::busy, "shift(0, 0, 1, 301)", x -> x.shift(0, 0, 1, 301));
        s.noArgument(Beds::busy, "shift(0, 0, 1, -5)", x -> x.shift(0, 0, 1, -5));
        s.noIndex(Beds::busy, "square(2, 0, 0)", x -> x.square(2, 0, 0));
        s.noIndex(Beds::busy, "square(0, 4, 0)", x -> x.square(0, 4, 0));
        s.noIndex(Beds::busy, "square(0, 0, 10)", x -> x.square(0, 0, 10));
        s.noIndex(Beds::busy, "tick(2, 0)", x -> x.tick(2, 0));
        s.noIndex(Beds::busy, "tick(0, 9)", x -> x.tick(0, 9));
    }

    private void changesNothingByNight() {
        s.terms("A method that throws an exception changes nothing.");
        s.noArgument(Beds::busy, "pass(0)", x -> x.pass(0));
        s.noArgument(Beds::busy, "pass(-1)", x -> x.pass(-1));
        s.noArgument(Beds::busy, "pass(201)", x -> x.pass(201));
        s.noIndex(Beds::busy, "count(9)", x -> x.count(9));
        s.noIndex(Beds::busy, "foresee(2, 1, 0)", x -> x.foresee(2, 1, 0));
        s.noIndex(Beds::busy, "foresee(0, 1, 3)", x -> x.foresee(0, 1, 3));
        s.noArgument(Beds::busy, "foresee(0, 201, 0)", x -> x.foresee(0, 201, 0));
        s.noIndex(Beds::busy, "lasts(2, 0)", x -> x.lasts(2, 0));
        s.noArgument(Beds::busy, "lasts(0, 901)", x -> x.lasts(0, 901));
        s.noIndex(Beds::busy, "advise(2, 1)", x -> x.advise(2, 1));
        s.noArgument(Beds::busy, "advise(0, 61)", x -> x.advise(0, 61));
    }

    private void sacksFirstNamed() {
        s.terms("If several exceptions apply, the one that is named first is thrown.");
        for (int damp : new int[] {-1, 10, MIN, MAX}) {
            s.noArgument(Beds::full, "a 13th, addSack(" + damp + ")", x -> x.addSack(damp));
        }
        for (int many : new int[] {-1, 0, 501, MIN, MAX}) {
            for (int none : new int[] {-1, 3, MIN, MAX}) {
                s.noIndex(Beds::busy, "put(" + none + ", 0, " + many + ")", x -> x.put(none, 0, many));
            }
            for (int size : new int[] {-1, 6, MIN, MAX}) {
                s.noIndex(Beds::full, "put(0, " + size + ", " + many + ")", x -> x.put(0, size, many));
                s.noIndex(Beds::full, "put(12, " + size + ", " + many + ")", x -> x.put(12, size, many));
            }
        }
        for (int many : new int[] {501, 1000, MAX}) {
            s.noArgument(Beds::full, "into a full one, put(0, 5, " + many + ")", x -> x.put(0, 5, many));
            s.noArgument(Beds::busy, "into an empty one, put(1, 0, " + many + ")", x -> x.put(1, 0, many));
        }
        for (int hours : new int[] {-1, 0, 10, MIN, MAX}) {
            for (int none : new int[] {-1, 3, MIN, MAX}) {
                s.noIndex(Beds::busy, "dry(" + none + ", " + hours + ")", x -> x.dry(none, hours));
            }
        }
    }

    private void ticksFirstNamed() {
        s.terms("If several exceptions apply, the one that is named first is thrown.");
        int[][] ticks = {{0, 1, 1}, {7, 1, 1}, {1, 0, 1}, {1, 7, 1}, {1, 1, 0}, {1, 1, 10}, {MAX, MAX, MAX}};
        for (int[] t : ticks) {
            s.noArgument(Beds::full, "a 7th, addTick(" + t[0] + ", " + t[1] + ", " + t[2] + ")",
                    x -> x.addTick(t[0], t[1], t[2]));
        }
        int[] wrong = {-1, 0, 301, MIN, MAX};
        for (int none : new int[] {-1, 4, 5, MIN, MAX}) {
            for (int direction : new int[] {-1, 0, 1, 2, MIN, MAX}) {
                s.noIndex(Beds::busy, "sew(" + none + ", 0, " + direction + ", true)",
                        x -> x.sew(none, 0, direction, true));
                s.noIndex(Beds::busy, "sew(0, " + none + ", " + direction + ", true)",
                        x -> x.sew(0, none, direction, true));
            }
            for (int many : wrong) {
                s.noIndex(Beds::busy, "fill(" + none + ", 0, 0, " + many + ")", x -> x.fill(none, 0, 0, many));
                s.noIndex(Beds::busy, "fill(0, " + none + ", 0, " + many + ")", x -> x.fill(0, none, 0, many));
                s.noIndex(Beds::busy, "shift(" + none + ", 0, 1, " + many + ")", x -> x.shift(none, 0, 1, many));
                s.noIndex(Beds::busy, "shift(0, " + none + ", 1, " + many + ")", x -> x.shift(0, none, 1, many));
                s.noIndex(Beds::busy, "shift(0, 0, " + none + ", " + many + ")", x -> x.shift(0, 0, none, many));
            }
            s.noIndex(Beds::busy, "both the same, shift(0, " + none + ", " + none + ", 5)",
                    x -> x.shift(0, none, none, 5));
            s.noIndex(Beds::busy, "both the same, shift(" + none + ", 1, 1, 5)", x -> x.shift(none, 1, 1, 5));
        }
        for (int chamber : new int[] {-1, 5, MIN, MAX}) {
            for (int many : wrong) {
                s.noIndex(Beds::busy, "fill(0, 0, " + chamber + ", " + many + ")", x -> x.fill(0, 0, chamber, many));
            }
        }
        s.noArgument(Beds::busy, "both the same and none, shift(0, 1, 1, 0)", x -> x.shift(0, 1, 1, 0));
    }

    private void nightsFirstNamed() {
        s.terms("If several exceptions apply, the one that is named first is thrown.");
        for (int none : new int[] {-1, 2, 3, MIN, MAX}) {
            for (int wrong : new int[] {-1, 0, 201, 901, MIN, MAX}) {
                s.noIndex(Beds::busy, "foresee(" + none + ", " + wrong + ", 0)", x -> x.foresee(none, wrong, 0));
                s.noIndex(Beds::busy, "lasts(" + none + ", " + wrong + ")", x -> x.lasts(none, wrong));
                s.noIndex(Beds::busy, "advise(" + none + ", " + wrong + ")", x -> x.advise(none, wrong));
            }
        }
        for (int what : new int[] {-1, 3, MIN, MAX}) {
            for (int wrong : new int[] {-1, 0, 201, MIN, MAX}) {
                s.noIndex(Beds::busy, "foresee(0, " + wrong + ", " + what + ")", x -> x.foresee(0, wrong, what));
            }
        }
    }
}
