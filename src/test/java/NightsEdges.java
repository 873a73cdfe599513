import java.math.BigInteger;

/** The boundary cases of promises 17 to 23: nights. */
final class NightsEdges {
    private final Sentences s;

    NightsEdges(Sentences sentences) {
        s = sentences;
    }

    void all() {
        passReturns();
        passNights();
        countWhat();
        countNoSuch();
        foreseeNights();
        foreseeWhat();
        foreseeChangesNothing();
        foreseeNoSuch();
        foreseeArgument();
        lastsFirstTime();
        lastsAtMost();
        lastsNow();
        lastsNever();
        lastsChangesNothing();
        lastsNoSuch();
        lastsWarmth();
        adviseWarmest();
        adviseFirst();
        adviseNotWarmer();
        adviseNone();
        adviseReturns();
        adviseNoSuch();
        adviseNights();
        filledNone();
        digestWraps();
        digestOrder();
    }

    private static FeatherBeds bed(int columns, int density, int[]... heaps) {
        FeatherBeds x = Beds.withTick(columns, heaps.length / columns, density);
        for (int square = 0; square < heaps.length; square++) {
            for (int size = 0; size < heaps[square].length; size++) {
                if (heaps[square][size] > 0) {
                    Beds.stuff(x, 0, square, size, heaps[square][size]);
                }
            }
        }
        return x;
    }

    private void passReturns() {
        s.promise(17, "Returns how many feathers were lost by pricking in them.");
        s.due("without ticks, pass(1)", new FeatherBeds().pass(1), 0);
        FeatherBeds x = bed(1, 1, new int[] {10, 0, 0, 0, 0, 30});
        x.addTick(1, 1, 9);
        Beds.stuff(x, 1, 0, 5, 60);
        x.put(0, 5, 100);
        x.setWind(20);
        x.blow(0);
        // 30, 21, 15, 11, 8, 6, 5, 4, 3; 60, 58, 57, 56, ..; those in the yard are lost otherwise
        s.due("pass(1)", x.pass(1), 9 + 2);
        s.due("pass(3)", x.pass(3), 6 + 4 + 3 + 1 + 1 + 1);
        s.due("count(7)", x.count(7), 27);
        s.due("pass(200)", x.pass(200), 5 + 26);
        s.due("none any more, pass(200)", x.pass(200), 0);
        s.due("count(7)", x.count(7), 58);
        s.due("count(6)", x.count(6), 25);
    }

    private void passNights() {
        s.promise(17, "Throws IllegalArgumentException if nights is not 1 to 200");
        for (int nights : Sentences.outside(1, 200)) {
            s.noArgument(Beds::busy, "pass(" + nights + ")", x -> x.pass(nights));
            s.noArgument(FeatherBeds::new, "without ticks, pass(" + nights + ")", x -> x.pass(nights));
        }
        FeatherBeds x = new FeatherBeds();
        x.pass(1);
        s.due("pass(1), then count(0)", x.count(0), 1);
        x.pass(200);
        s.due("pass(200), then count(0)", x.count(0), 201);
    }

    private void countWhat() {
        s.promise(18, "what: 0 the nights, 1 sacks, 2 ticks, 3 feathers in sacks, 4 in chambers, 5 in ticks, "
                + "6 lost in the yard, 7 lost by pricking, 8 the wind");
        FeatherBeds x = new FeatherBeds();
        int[] at = {0, 0, 0, 0, 0, 0, 0, 0, 10};
        for (int what = 0; what < 9; what++) {
            s.due("a new one, count(" + what + ")", x.count(what), at[what]);
        }
        FeatherBeds full = Beds.full();
        int inSacks = 0;
        for (int sack = 0; sack < 12; sack++) {
            inSacks += full.sack(sack, 6);
        }
        s.due("12 sacks, count(3)", full.count(3), inSacks);
        s.due("12 sacks, count(1)", full.count(1), 12);
        s.due("6 ticks, count(2)", full.count(2), 6);
        // sack 1 had 300 of each: 180 in chamber 4, 45 in chamber 3 (save 40 in each tick), 75 in the yard
        s.due("count(4)", full.count(4), 6 * 225 - 240);
        s.due("count(5)", full.count(5), 240);
        s.due("count(6)", full.count(6), 6 * 75);
        s.due("count(7)", full.count(7), 0);
        full.setWind(20);
        s.due("count(8)", full.count(8), 20);
    }

    private void countNoSuch() {
        s.promise(18, "Throws IndexOutOfBoundsException if what is not 0 to 8");
        for (int what : Sentences.outside(0, 8)) {
            s.noIndex(Beds::busy, "count(" + what + ")", x -> x.count(what));
        }
        s.unchanged(Beds::busy, "count(0)", x -> x.count(0), 2);
        s.unchanged(Beds::busy, "count(8)", x -> x.count(8), 7);
    }

    /** The coldest square's warmth is 446; behind 200 nights it is 436, behind 201 it is less. */
    private static FeatherBeds slow() {
        int[] down = {84, 84, 84, 84, 84, 74, 74, 74, 43, 48};
        int[] others = {216, 216, 216, 216, 216, 1, 3, 8, 215, 213};
        int[][] heaps = new int[10][];
        for (int square = 0; square < 10; square++) {
            heaps[square] = new int[] {down[square], 0, 0, 0, others[square]};
        }
        FeatherBeds x = bed(5, 9, heaps);
        for (int square = 0; square < 4; square++) {
            x.sew(0, square, 1, true);
        }
        return x;
    }

    private void foreseeNights() {
        s.promise(19, "nights: how many, 1 to 200");
        FeatherBeds x = slow();
        int far = x.foresee(0, 200, 1);
        s.due("foresee(0, 200, 1)", far, 436);
        x.pass(1);
        s.due("a night later, foresee(0, 199, 1)", x.foresee(0, 199, 1), 436);
        s.isTrue("a night later, foresee(0, 200, 1) is less", x.foresee(0, 200, 1) < 436);
        FeatherBeds near = bed(1, 1, new int[] {0, 0, 0, 0, 0, 100});
        s.due("foresee(0, 1, 0)", near.foresee(0, 1, 0), 70);
        s.due("foresee(0, 2, 0)", near.foresee(0, 2, 0), 49);
        s.due("foresee(0, 1, 1)", near.foresee(0, 1, 1), 70);
        s.due("foresee(0, 200, 0)", near.foresee(0, 200, 0), 3);
    }

    private void foreseeWhat() {
        s.promise(19, "what: 0 its feathers then, 1 the warmth of its coldest square then, 2 that square");
        for (int nights = 1; nights <= 200; nights += nights < 5 ? 1 : 39) {
            int ahead = nights;
            for (int tick = 0; tick < 2; tick++) {
                FeatherBeds x = Beds.busy();
                int feathers = x.foresee(tick, ahead, 0);
                int warmth = x.foresee(tick, ahead, 1);
                int square = x.foresee(tick, ahead, 2);
                x.pass(ahead);
                s.due("foresee(" + tick + ", " + nights + ", 0)", feathers, x.tick(tick, 3));
                s.due("foresee(" + tick + ", " + nights + ", 1)", warmth, x.tick(tick, 5));
                s.due("foresee(" + tick + ", " + nights + ", 2)", square, x.tick(tick, 6));
            }
        }
        // of several the one with the smallest number, as tick() tells it
        FeatherBeds y = bed(3, 1, new int[] {30}, new int[] {0, 0, 0, 0, 0, 30}, new int[] {0, 0, 0, 0, 0, 30});
        y.sew(0, 0, 0, true);
        s.due("of several, foresee(0, 1, 2)", y.foresee(0, 1, 2), 1);
    }

    private void foreseeChangesNothing() {
        s.promise(19, "Returns this, if nothing is done (nothing is changed).");
        int[] due = new int[6];
        for (int i = 0; i < 6; i++) {
            FeatherBeds x = Beds.busy();
            x.pass(200);
            due[i] = x.tick(i / 3, i % 3 == 0 ? 3 : 4 + i % 3);
        }
        for (int i = 0; i < 6; i++) {
            int tick = i / 3;
            int what = i % 3;
            s.unchanged(Beds::busy, "foresee(" + tick + ", 200, " + what + ")", x -> x.foresee(tick, 200, what), due[i]);
        }
        FeatherBeds x = Beds.busy();
        int before = x.foresee(0, 3, 0);
        x.foresee(1, 200, 0);
        x.lasts(1, 0);
        x.advise(1, 60);
        s.due("the same once more, foresee(0, 3, 0)", x.foresee(0, 3, 0), before);
    }

    private void foreseeNoSuch() {
        s.promise(19, "Throws IndexOutOfBoundsException if there is no such tick, or what is not 0 to 2");
        s.noIndex(FeatherBeds::new, "foresee(0, 1, 0) without ticks", x -> x.foresee(0, 1, 0));
        for (int tick : Sentences.noneOf(2, 6)) {
            s.noIndex(Beds::busy, "foresee(" + tick + ", 1, 0)", x -> x.foresee(tick, 1, 0));
        }
        s.noIndex(Beds::full, "foresee(6, 1, 0)", x -> x.foresee(6, 1, 0));
        for (int what : Sentences.outside(0, 2)) {
            s.noIndex(Beds::busy, "foresee(0, 1, " + what + ")", x -> x.foresee(0, 1, what));
        }
        s.unchanged(Beds::full, "foresee(0, 1, 0), the first of both", x -> x.foresee(0, 1, 0), 40);
        s.unchanged(Beds::full, "foresee(5, 1, 2), the last of both", x -> x.foresee(5, 1, 2), 1);
    }

    private void foreseeArgument() {
        s.promise(19, "Throws IllegalArgumentException if nights is not 1 to 200");
        for (int nights : Sentences.outside(1, 200)) {
            for (int what = 0; what < 3; what++) {
                int which = what;
                s.noArgument(Beds::busy, "foresee(1, " + nights + ", " + what + ")", x -> x.foresee(1, nights, which));
            }
        }
        // 25 of size 4, 15 of size 5, density 6; 14 and 7 stay
        s.unchanged(Beds::full, "foresee(5, 1, 0)", x -> x.foresee(5, 1, 0), 40 - 1 - 2);
        s.unchanged(Beds::full, "foresee(5, 200, 0)", x -> x.foresee(5, 200, 0), 14 + 7);
    }

    /** The coldest one has 340, 272, 242, 234, 241, 263, .. : it gets colder, then warmer. */
    private static FeatherBeds dipping() {
        return bed(2, 5, new int[] {0, 220}, new int[] {0, 10, 0, 0, 0, 290});
    }

    private void lastsFirstTime() {
        s.promise(20, "Returns behind how many nights, at most 200, its coldest square is less warm than this "
                + "for the first time;");
        int[] warmth = {341, 340, 273, 272, 263, 243, 242, 241, 235};
        int[] due = {0, 1, 1, 2, 2, 2, 3, 3, 3};
        for (int i = 0; i < warmth.length; i++) {
            s.due("lasts(0, " + warmth[i] + ")", dipping().lasts(0, warmth[i]), due[i]);
        }
        int[] coldest = {340, 272, 242, 234, 241, 263};
        FeatherBeds x = dipping();
        for (int night = 0; night < coldest.length; night++) {
            s.due("behind " + night + " nights, tick(0, 5)", x.tick(0, 5), coldest[night]);
            x.pass(1);
        }
    }

    private void lastsAtMost() {
        s.promise(20, "at most 200");
        FeatherBeds x = slow();
        s.due("behind 201, lasts(0, 436)", x.lasts(0, 436), -1);
        for (int nights = 200; nights >= 197; nights--) {
            x.pass(1);
            s.due("behind " + nights + ", lasts(0, 436)", x.lasts(0, 436), nights);
        }
        x.pass(196);
        s.due("behind 1, lasts(0, 436)", x.lasts(0, 436), 1);
        x.pass(1);
        s.due("now, lasts(0, 436)", x.lasts(0, 436), 0);
    }

    private void lastsNow() {
        s.promise(20, "0 if it is so now;");
        FeatherBeds empty = new FeatherBeds();
        empty.addTick(6, 6, 9);
        s.due("empty, lasts(0, 1)", empty.lasts(0, 1), 0);
        s.due("empty, lasts(0, 900)", empty.lasts(0, 900), 0);
        FeatherBeds x = bed(1, 9, new int[] {149});
        s.due("894 now, lasts(0, 895)", x.lasts(0, 895), 0);
        s.due("894 now, lasts(0, 900)", x.lasts(0, 900), 0);
        s.due("894 now, lasts(0, 894)", x.lasts(0, 894), -1);
        x.pass(7);
        s.due("not counted from the first night, lasts(0, 895)", x.lasts(0, 895), 0);
    }

    private void lastsNever() {
        s.promise(20, "-1 if not within so many (nothing is changed).");
        FeatherBeds empty = new FeatherBeds();
        empty.addTick(1, 1, 1);
        s.due("empty, lasts(0, 0)", empty.lasts(0, 0), -1);
        FeatherBeds warm = bed(1, 9, new int[] {150});
        s.due("900 for ever, lasts(0, 900)", warm.lasts(0, 900), -1);
        // 100, 70, .., 3: fewer are not pricked through
        FeatherBeds x = bed(1, 1, new int[] {0, 0, 0, 0, 0, 100});
        s.due("3 for ever, lasts(0, 3)", x.lasts(0, 3), -1);
        s.isTrue("4 not for ever, lasts(0, 4)", x.lasts(0, 4) > 0);
        s.due("dipping, lasts(0, 234)", dipping().lasts(0, 234), -1);
    }

    private void lastsChangesNothing() {
        s.promise(20, "(nothing is changed)");
        s.unchanged(NightsEdges::dipping, "lasts(0, 0)", x -> x.lasts(0, 0), -1);
        s.unchanged(NightsEdges::dipping, "lasts(0, 235)", x -> x.lasts(0, 235), 3);
        s.unchanged(NightsEdges::dipping, "lasts(0, 900)", x -> x.lasts(0, 900), 0);
        s.unchanged(Beds::busy, "lasts(1, 0)", x -> x.lasts(1, 0), -1);
    }

    private void lastsNoSuch() {
        s.promise(20, "Throws IndexOutOfBoundsException if there is no such tick");
        s.noIndex(FeatherBeds::new, "lasts(0, 0) without ticks", x -> x.lasts(0, 0));
        for (int tick : Sentences.noneOf(2, 6)) {
            s.noIndex(Beds::busy, "lasts(" + tick + ", 100)", x -> x.lasts(tick, 100));
        }
        s.noIndex(Beds::full, "lasts(6, 0)", x -> x.lasts(6, 0));
        // one square, with 40 of size 0; two squares, the second one empty
        s.unchanged(Beds::full, "lasts(0, 240), the first", x -> x.lasts(0, 240), -1);
        s.unchanged(Beds::full, "lasts(5, 240), the last", x -> x.lasts(5, 240), 0);
    }

    private void lastsWarmth() {
        s.promise(20, "Throws IllegalArgumentException if warmth is not 0 to 900");
        for (int warmth : Sentences.outside(0, 900)) {
            s.noArgument(Beds::busy, "lasts(0, " + warmth + ")", x -> x.lasts(0, warmth));
        }
        s.unchanged(Beds::full, "lasts(0, 0)", x -> x.lasts(0, 0), -1);
        s.unchanged(Beds::full, "lasts(0, 900)", x -> x.lasts(0, 900), 0);
    }

    /** A square that is cold but has more feathers than another one, to which down goes. */
    private static final int[] GIVING = {10, 0, 0, 0, 90};
    private static final int[] TAKING = {50};

    private void adviseWarmest() {
        s.promise(21, "Looks for the open pair of a tick that had best be sewn now, so that its coldest square "
                + "is the warmest behind so many nights;");
        // sewn, 0 and 1 keep 6 and 8 of the warmth that they would give away
        FeatherBeds x = bed(4, 9, GIVING, TAKING, new int[] {50}, GIVING);
        x.sew(0, 0, 0, true);
        s.due("the pair 2, 3", x.advise(0, 1), 4);
        FeatherBeds soon = bed(3, 9, new int[] {0, 250}, new int[] {30, 0, 0, 260}, new int[] {140});
        s.due("behind 1 night", soon.advise(0, 1), 0);
        s.due("behind 2 nights", soon.advise(0, 2), 2);
        FeatherBeds late = bed(3, 3, new int[] {0, 0, 0, 0, 0, 190}, new int[] {0, 300}, new int[] {0, 0, 170},
                new int[] {0, 0, 50}, new int[] {0, 0, 70, 0, 0, 70}, new int[] {0, 0, 0, 210, 90});
        s.due("behind 59 nights", late.advise(0, 59), 5);
        s.due("behind 60 nights", late.advise(0, 60), 0);
    }

    private void adviseFirst() {
        s.promise(21, "of several the first one in the order of shifting;");
        s.due("two in a row", bed(3, 9, TAKING, GIVING, TAKING).advise(0, 1), 0);
        s.due("two in a column", bed(1, 9, TAKING, GIVING, TAKING).advise(0, 1), 1);
        FeatherBeds corner = bed(2, 9, GIVING, TAKING, TAKING, new int[] {60});
        s.due("right and below", corner.advise(0, 1), 0);
        corner.sew(0, 0, 0, true);
        s.due("below alone is open", corner.advise(0, 1), 1);
        FeatherBeds last = bed(2, 9, new int[] {60}, TAKING, TAKING, GIVING);
        s.due("below 1, before right of 2", last.advise(0, 1), 3);
    }

    private void adviseNotWarmer() {
        s.promise(21, "but none, if it is not warmer than without.");
        FeatherBeds empty = new FeatherBeds();
        empty.addTick(6, 6, 9);
        s.due("empty", empty.advise(0, 60), -1);
        s.due("as warm with as without", bed(2, 9, new int[] {50}, new int[] {50}).advise(0, 1), -1);
        s.due("less warm", bed(2, 9, new int[] {160}, new int[] {0, 0, 0, 0, 1}).advise(0, 60), -1);
        // 160 of warmth in the third one, whatever is sewn
        FeatherBeds other = bed(3, 9, GIVING, TAKING, new int[] {0, 0, 0, 0, 50});
        s.due("another one is the coldest", other.advise(0, 1), -1);
    }

    private void adviseNone() {
        s.promise(21, "-1 if none.");
        FeatherBeds single = bed(1, 9, GIVING);
        s.due("a single square", single.advise(0, 60), -1);
        FeatherBeds sewn = bed(2, 9, GIVING, TAKING);
        s.due("open", sewn.advise(0, 1), 0);
        sewn.sew(0, 0, 0, true);
        s.due("the only pair is sewn", sewn.advise(0, 1), -1);
        sewn.sew(0, 0, 0, false);
        s.due("opened again", sewn.advise(0, 1), 0);
    }

    private void adviseReturns() {
        s.promise(21, "Returns 2 * the square and the direction (nothing is changed)");
        s.unchanged(() -> bed(2, 9, GIVING, TAKING), "to the right of 0", x -> x.advise(0, 1), 0);
        s.unchanged(() -> bed(1, 9, GIVING, TAKING), "below 0", x -> x.advise(0, 60), 1);
        s.unchanged(() -> bed(2, 9, new int[] {100}, new int[] {92}, TAKING, GIVING), "right of 2", x -> x.advise(0, 1), 4);
        s.unchanged(() -> bed(2, 9, new int[] {100}, TAKING, new int[] {92}, GIVING), "below 1", x -> x.advise(0, 1), 3);
        s.unchanged(Beds::full, "none", x -> x.advise(0, 60), -1);
        FeatherBeds great = lastPair();
        long before = great.digest();
        s.due("the last pair of the greatest tick, right of 34", great.advise(0, 1), 68);
        s.due("then digest()", great.digest(), before);
    }

    /** Square 34 is the coldest one, and gives to 35 alone, as its other neighbours have as many as it. */
    private static FeatherBeds lastPair() {
        int[][] heaps = new int[36][];
        for (int square = 0; square < 34; square++) {
            heaps[square] = square == 29 ? TAKING : new int[] {95};
        }
        heaps[34] = GIVING;
        heaps[35] = TAKING;
        return bed(6, 9, heaps);
    }

    private void adviseNoSuch() {
        s.promise(21, "Throws IndexOutOfBoundsException if there is no such tick");
        s.noIndex(FeatherBeds::new, "advise(0, 1) without ticks", x -> x.advise(0, 1));
        for (int tick : Sentences.noneOf(2, 6)) {
            s.noIndex(Beds::busy, "advise(" + tick + ", 1)", x -> x.advise(tick, 1));
        }
        s.noIndex(Beds::full, "advise(6, 1)", x -> x.advise(6, 1));
        s.unchanged(Beds::full, "advise(0, 1), the first", x -> x.advise(0, 1), -1);
        FeatherBeds x = new FeatherBeds();
        for (int tick = 0; tick < 6; tick++) {
            x.addTick(1, 1, 9);
        }
        s.due("advise(5, 1), the last", x.advise(5, 1), -1);
    }

    private void adviseNights() {
        s.promise(21, "Throws IllegalArgumentException if nights is not 1 to 60");
        for (int nights : Sentences.outside(1, 60)) {
            s.noArgument(Beds::busy, "advise(0, " + nights + ")", x -> x.advise(0, nights));
        }
        s.due("advise(0, 1)", bed(2, 9, GIVING, TAKING).advise(0, 1), 0);
        s.due("advise(0, 60)", bed(2, 9, GIVING, TAKING).advise(0, 60), 0);
    }

    private void filledNone() {
        s.promise(22, "Returns all feathers in ticks, divided by all in sacks, chambers and ticks; 0 if there are none.");
        FeatherBeds x = new FeatherBeds();
        s.due("a new one", x.filled(), 0.0);
        s.same("not -0", Double.toString(x.filled()), "0.0");
        x.addSack(0);
        x.addTick(1, 1, 1);
        s.due("an empty sack, an empty tick", x.filled(), 0.0);
        x.put(0, 0, 1);
        s.due("one in a sack", x.filled(), 0.0);
        x.blow(0);
        s.due("one in chamber 3", x.filled(), 0.0);
        x.fill(0, 0, 3, 1);
        s.due("one in a tick", x.filled(), 1.0);
        x.put(0, 5, 2);
        s.due("one of three", x.filled(), 1.0 / 3.0);
        FeatherBeds lost = bed(1, 1, new int[] {0, 0, 0, 0, 0, 30});
        int others = lost.count(3) + lost.count(4);
        s.due("some of a size", lost.filled(), 30.0 / (30 + others));
        lost.pass(1);
        s.due("9 of 30 are lost", lost.filled(), 21.0 / (21 + others));
        FeatherBeds yard = new FeatherBeds();
        yard.addSack(0);
        yard.addTick(1, 1, 9);
        yard.put(0, 0, 100);
        yard.blow(0);
        yard.fill(0, 0, 4, 60);
        s.due("60 of 75, not of 100", yard.filled(), 60.0 / 75.0);
    }

    private static BigInteger add(BigInteger d, int x) {
        return d.multiply(BigInteger.valueOf(31)).add(BigInteger.valueOf(x));
    }

    /** The checksum before anything wraps around. */
    private static BigInteger sum(FeatherBeds x) {
        BigInteger d = BigInteger.valueOf(617);
        for (int what = 0; what <= 8; what++) {
            d = add(d, x.count(what));
        }
        int sacks = x.count(1);
        for (int sack = 0; sack < sacks; sack++) {
            for (int what = 0; what <= 7; what++) {
                d = add(d, x.sack(sack, what));
            }
        }
        for (int chamber = 0; chamber <= 4; chamber++) {
            for (int what = 0; what <= 8; what++) {
                d = add(d, x.chamber(chamber, what));
            }
        }
        int ticks = x.count(2);
        for (int tick = 0; tick < ticks; tick++) {
            for (int what = 0; what <= 8; what++) {
                d = add(d, x.tick(tick, what));
            }
            int squares = x.tick(tick, 0) * x.tick(tick, 1);
            for (int square = 0; square < squares; square++) {
                for (int what = 0; what <= 9; what++) {
                    d = add(d, x.square(tick, square, what));
                }
            }
        }
        return d;
    }

    private void digestWraps() {
        s.promise(23, "d becomes d * 31 + x, which wraps around as a 64-bit integer:");
        FeatherBeds[] all = {new FeatherBeds(), Beds.busy(), Beds.full(), dipping()};
        boolean isSomeLess = false;
        boolean isSomeMore = false;
        for (int i = 0; i < all.length; i++) {
            BigInteger d = sum(all[i]);
            s.isTrue("row " + i + " does not go into 64 bits", d.bitLength() > 63);
            s.due("row " + i + ", digest()", all[i].digest(), d.longValue());
            isSomeLess |= d.longValue() < 0;
            isSomeMore |= d.longValue() > 0;
        }
        s.isTrue("some are less than 0, some more", isSomeLess && isSomeMore);
    }

    private void digestOrder() {
        s.promise(23, "what count() tells, in its order; for each sack what sack() tells, in its order; for each chamber "
                + "what chamber() tells, in its order; for each tick what tick() tells, in its order, and for each of "
                + "its squares what square() tells, in its order.");
        String[] steps = {"neither sack nor tick", "an empty sack", "a sack", "two sacks", "a tick of one square",
            "two ticks", "the greatest tick"};
        for (int step = 0; step < steps.length; step++) {
            FeatherBeds x = growing(step);
            s.due(steps[step], x.digest(), sum(x).longValue());
        }
    }

    private static FeatherBeds growing(int steps) {
        FeatherBeds x = new FeatherBeds();
        if (steps == 6) {
            x.addTick(6, 6, 9);
            return x;
        }
        if (steps > 0) {
            x.addSack(9);
        }
        if (steps > 1) {
            x.put(0, 5, 3);
        }
        if (steps > 2) {
            x.addSack(0);
        }
        if (steps > 3) {
            x.addTick(1, 1, 1);
        }
        if (steps > 4) {
            x.addTick(3, 2, 9);
            x.sew(1, 0, 1, true);
        }
        return x;
    }
}
