/** Promises 17 to 23: nights. */
public final class NightsTest {
    private static final Checks CHECKS = new Checks();

    public static void main(String[] args) {
        pricking();
        shifting();
        shiftingOfSizes();
        pass();
        count();
        foresee();
        lasts();
        lastsLong();
        advise();
        filled();
        digest();
        CHECKS.end();
    }

    private static void squares(String what, FeatherBeds x, int tick, int... due) {
        for (int s = 0; s < due.length; s++) {
            CHECKS.due(what + ", feathers of square " + s, x.square(tick, s, 6), due[s]);
        }
    }

    private static void pricking() {
        for (int density = 1; density <= 9; density++) {
            FeatherBeds x = Beds.withTick(1, 1, density);
            int due = 0;
            for (int size = 0; size < 6; size++) {
                Beds.stuff(x, 0, 0, size, 41 + size);
                due += 2 * size > density ? (41 + size) * (2 * size - density) / 30 : 0;
            }
            CHECKS.due("a night of density " + density, x.pass(1), due);
            CHECKS.due("what is left of size 1", x.square(0, 0, 1), density == 1 ? 41 : 42);
            CHECKS.due("what is left in all", x.tick(0, 3), 6 * 41 + 15 - due);
            CHECKS.due("what is lost", x.count(7), due);
        }
    }

    private static void shifting() {
        FeatherBeds x = Beds.withTick(3, 1, 9);
        Beds.stuff(x, 0, 0, 0, 160);
        CHECKS.due("nothing is lost", x.pass(1), 0);
        squares("in a row", x, 0, 140, 18, 2);

        FeatherBeds y = Beds.withTick(2, 2, 9);
        Beds.stuff(y, 0, 0, 0, 160);
        y.pass(1);
        squares("in two rows", y, 0, 123, 18, 16, 3);

        FeatherBeds z = Beds.withTick(2, 2, 9);
        Beds.stuff(z, 0, 3, 1, 160);
        z.sew(0, 2, 0, true);
        z.pass(1);
        squares("against the numbers, a seam", z, 0, 0, 20, 0, 140);
        z.pass(1);
        squares("another night", z, 0, 2, 33, 0, 125);

        FeatherBeds w = Beds.withTick(2, 1, 9);
        Beds.stuff(w, 0, 0, 0, 7);
        w.pass(200);
        squares("7 / 8", w, 0, 7, 0);
    }

    private static void shiftingOfSizes() {
        FeatherBeds x = Beds.withTick(2, 1, 9);
        Beds.stuff(x, 0, 0, 0, 10);
        Beds.stuff(x, 0, 0, 1, 100);
        Beds.stuff(x, 0, 0, 2, 50);
        x.pass(1);
        CHECKS.due("size 0 first", x.square(0, 1, 0), 10);
        CHECKS.due("then size 1", x.square(0, 1, 1), 10);
        CHECKS.due("no size 2", x.square(0, 1, 2), 0);
        x.shift(0, 1, 0, 300);
        x.shift(0, 0, 1, 110);
        // 50 of size 2 are left against 110 of sizes 0 and 1
        x.pass(60);
        CHECKS.due("no size 2 back", x.square(0, 1, 2), 0);

        FeatherBeds y = Beds.withTick(2, 1, 9);
        Beds.stuff(y, 0, 1, 0, 5);
        Beds.stuff(y, 0, 1, 1, 5);
        Beds.stuff(y, 0, 1, 2, 50);
        Beds.stuff(y, 0, 1, 3, 50);
        Beds.stuff(y, 0, 1, 4, 50);
        y.pass(1);
        CHECKS.due("fewer", y.square(0, 0, 6), 10);

        FeatherBeds z = Beds.withTick(2, 1, 1);
        Beds.stuff(z, 0, 0, 5, 100);
        Beds.stuff(z, 0, 0, 0, 20);
        Beds.stuff(z, 0, 1, 0, 60);
        // pricked first: 90 against 60, not 120
        CHECKS.due("pricking first", z.pass(1), 30);
        CHECKS.due("then shifting", z.square(0, 1, 0), 63);
    }

    private static void pass() {
        FeatherBeds x = Beds.withTick(2, 1, 1);
        Beds.stuff(x, 0, 0, 5, 30);
        x.addTick(1, 1, 4);
        Beds.stuff(x, 1, 0, 3, 150);
        CHECKS.due("pass(1)", x.pass(1), 9 + 10);
        CHECKS.due("pass(2)", x.pass(2), 6 + 4 + 9 + 8);
        CHECKS.due("the nights", x.count(0), 3);
        CHECKS.due("lost in all", x.count(7), 46);
        CHECKS.due("pass(200)", x.pass(200) > 0 ? x.count(0) : -1, 203);
        CHECKS.due("at rest", x.pass(200), 0);
        CHECKS.noArgument(x, "pass(0)", () -> x.pass(0));
        CHECKS.noArgument(x, "pass(201)", () -> x.pass(201));
        CHECKS.noArgument(x, "pass(-1)", () -> x.pass(-1));
        FeatherBeds none = new FeatherBeds();
        CHECKS.due("without ticks", none.pass(200), 0);
        CHECKS.due("the nights without ticks", none.count(0), 200);
    }

    private static void count() {
        FeatherBeds x = new FeatherBeds();
        x.addSack(0);
        x.addSack(9);
        x.addTick(1, 1, 1);
        x.addTick(2, 2, 1);
        x.addTick(2, 2, 1);
        x.put(0, 0, 100);
        x.blow(0);
        x.put(1, 5, 100);
        x.put(1, 0, 7);
        x.setWind(1);
        x.blow(1);
        // of 100: 60 in 4, 15 in 3, 25 in the yard; of 100: 60 in 0, 25 in 1, 15 stay; of 7: 4 in 0, 1 in 1, 2 stay
        x.fill(1, 3, 0, 34);
        x.fill(0, 0, 4, 10);
        x.put(0, 2, 3);
        x.pass(1);
        // 4 of size 0 and 30 of size 5 in the square: 9 of these are lost
        int[] due = {1, 2, 3, 15 + 2 + 3, 60 + 15 + 60 + 25 + 4 + 1 - 44, 44 - 9, 25, 9, 1};
        for (int what = 0; what < 9; what++) {
            CHECKS.due("count(" + what + ")", x.count(what), due[what]);
        }
        CHECKS.noIndex(x, "count(-1)", () -> x.count(-1));
        CHECKS.noIndex(x, "count(9)", () -> x.count(9));
        CHECKS.noIndex(x, "count(min)", () -> x.count(Integer.MIN_VALUE));
    }

    private static void foresee() {
        FeatherBeds x = Beds.withTick(3, 2, 1);
        Beds.stuff(x, 0, 0, 5, 200);
        Beds.stuff(x, 0, 1, 0, 100);
        Beds.stuff(x, 0, 2, 2, 100);
        Beds.stuff(x, 0, 4, 3, 60);
        x.sew(0, 1, 0, true);
        x.addTick(1, 1, 9);
        for (int nights = 1; nights <= 3; nights++) {
            long before = x.digest();
            int feathers = x.foresee(0, nights, 0);
            int warmth = x.foresee(0, nights, 1);
            int coldest = x.foresee(0, nights, 2);
            CHECKS.due("nothing is changed", x.digest(), before);
            x.pass(nights);
            CHECKS.due("its feathers then", x.tick(0, 3), feathers);
            CHECKS.due("its warmth then", x.tick(0, 5), warmth);
            CHECKS.due("its coldest square then", x.tick(0, 6), coldest);
        }
        CHECKS.due("200 nights", x.foresee(1, 200, 0), 0);
        CHECKS.noIndex(x, "what -1", () -> x.foresee(0, 1, -1));
        CHECKS.noIndex(x, "what 3, no night", () -> x.foresee(0, 0, 3));
        CHECKS.noIndex(x, "tick 2, no night", () -> x.foresee(2, 0, 0));
        CHECKS.noIndex(x, "tick -1", () -> x.foresee(-1, 1, 0));
        CHECKS.noArgument(x, "no night", () -> x.foresee(0, 0, 0));
        CHECKS.noArgument(x, "201 nights", () -> x.foresee(0, 201, 0));
    }

    private static void lasts() {
        FeatherBeds x = Beds.withTick(1, 1, 1);
        CHECKS.due("empty, 0", x.lasts(0, 0), -1);
        CHECKS.due("empty, 1", x.lasts(0, 1), 0);
        Beds.stuff(x, 0, 0, 5, 30);
        // 30, 21, 15, 11, 8, 6, 5, 4, 3, 3 ..
        int[] due = {-1, -1, -1, -1, 8, 7, 6, 5, 5, 4};
        long before = x.digest();
        for (int warmth = 0; warmth < due.length; warmth++) {
            CHECKS.due("lasts(0, " + warmth + ")", x.lasts(0, warmth), due[warmth]);
        }
        CHECKS.due("lasts(0, 21)", x.lasts(0, 21), 2);
        CHECKS.due("lasts(0, 22)", x.lasts(0, 22), 1);
        CHECKS.due("lasts(0, 30)", x.lasts(0, 30), 1);
        CHECKS.due("lasts(0, 31)", x.lasts(0, 31), 0);
        CHECKS.due("lasts(0, 900)", x.lasts(0, 900), 0);
        CHECKS.due("nothing is changed", x.digest(), before);
        CHECKS.noArgument(x, "lasts(0, -1)", () -> x.lasts(0, -1));
        CHECKS.noArgument(x, "lasts(0, 901)", () -> x.lasts(0, 901));
        CHECKS.noIndex(x, "lasts(1, 901)", () -> x.lasts(1, 901));
        CHECKS.noIndex(x, "lasts(-1, 0)", () -> x.lasts(-1, 0));
    }

    /** A row of squares through which down goes so slowly that the coldest one is colder in the 201st night. */
    private static void lastsLong() {
        FeatherBeds x = Beds.withTick(5, 2, 9);
        int[] down = {84, 84, 84, 84, 84, 74, 74, 74, 43, 48};
        int[] others = {216, 216, 216, 216, 216, 1, 3, 8, 215, 213};
        for (int square = 0; square < 10; square++) {
            Beds.stuff(x, 0, square, 0, down[square]);
            Beds.stuff(x, 0, square, 4, others[square]);
        }
        for (int square = 0; square < 4; square++) {
            x.sew(0, square, 1, true);
        }
        CHECKS.due("now", x.tick(0, 5), 446);
        CHECKS.due("behind 200 nights", x.foresee(0, 200, 1), 436);
        CHECKS.due("not within 200", x.lasts(0, 436), -1);
        x.pass(1);
        CHECKS.due("behind just 200", x.lasts(0, 436), 200);
        x.pass(1);
        CHECKS.due("behind 199", x.lasts(0, 436), 199);
    }

    /** A square that is cold but has more feathers than another one, to which down goes. */
    private static void stuffGiving(FeatherBeds x, int tick, int square) {
        Beds.stuff(x, tick, square, 0, 10);
        Beds.stuff(x, tick, square, 4, 90);
    }

    private static void advise() {
        FeatherBeds x = Beds.withTick(2, 1, 9);
        CHECKS.due("none is warmer", x.advise(0, 1), -1);
        stuffGiving(x, 0, 0);
        Beds.stuff(x, 0, 1, 0, 50);
        long before = x.digest();
        CHECKS.due("to the right", x.advise(0, 1), 0);
        CHECKS.due("nothing is changed", x.digest(), before);
        x.sew(0, 0, 0, true);
        CHECKS.due("sewn already", x.advise(0, 1), -1);

        FeatherBeds y = Beds.withTick(2, 2, 9);
        Beds.stuff(y, 0, 0, 0, 100);
        Beds.stuff(y, 0, 2, 0, 50);
        stuffGiving(y, 0, 3);
        Beds.stuff(y, 0, 1, 0, 92);
        CHECKS.due("square 2, to the right", y.advise(0, 1), 4);

        FeatherBeds z = Beds.withTick(1, 2, 9);
        stuffGiving(z, 0, 1);
        Beds.stuff(z, 0, 0, 0, 50);
        CHECKS.due("below", z.advise(0, 60), 1);

        FeatherBeds w = Beds.withTick(3, 1, 9);
        stuffGiving(w, 0, 1);
        Beds.stuff(w, 0, 0, 0, 50);
        Beds.stuff(w, 0, 2, 0, 50);
        CHECKS.due("of several the first", w.advise(0, 1), 0);

        CHECKS.noArgument(x, "advise(0, 0)", () -> x.advise(0, 0));
        CHECKS.noArgument(x, "advise(0, 61)", () -> x.advise(0, 61));
        CHECKS.noIndex(x, "advise(1, 61)", () -> x.advise(1, 61));
        CHECKS.noIndex(x, "advise(-1, 1)", () -> x.advise(-1, 1));
    }

    private static void filled() {
        FeatherBeds x = new FeatherBeds();
        CHECKS.due("none at all", x.filled(), 0.0);
        x.addSack(9);
        x.addTick(1, 1, 1);
        CHECKS.due("none yet", x.filled(), 0.0);
        x.setWind(1);
        x.put(0, 5, 100);
        CHECKS.due("none in ticks", x.filled(), 0.0);
        x.blow(0);
        x.fill(0, 0, 0, 30);
        CHECKS.due("30 of 100", x.filled(), 30.0 / 100.0);
        x.pass(1);
        CHECKS.due("21 of 91", x.filled(), 21.0 / 91.0);
        x.addSack(0);
        x.put(1, 0, 100);
        x.setWind(20);
        x.blow(1);
        CHECKS.due("21 of 166", x.filled(), 21.0 / 166.0);
    }

    private static long digestOf(FeatherBeds x) {
        int sacks = x.count(1);
        int ticks = x.count(2);
        long d = 617;
        for (int what = 0; what <= 8; what++) {
            d = d * 31 + x.count(what);
        }
        for (int s = 0; s < sacks; s++) {
            for (int what = 0; what <= 7; what++) {
                d = d * 31 + x.sack(s, what);
            }
        }
        for (int c = 0; c < 5; c++) {
            for (int what = 0; what <= 8; what++) {
                d = d * 31 + x.chamber(c, what);
            }
        }
        for (int t = 0; t < ticks; t++) {
            for (int what = 0; what <= 8; what++) {
                d = d * 31 + x.tick(t, what);
            }
            int squares = x.tick(t, 0) * x.tick(t, 1);
            for (int s = 0; s < squares; s++) {
                for (int what = 0; what <= 9; what++) {
                    d = d * 31 + x.square(t, s, what);
                }
            }
        }
        return d;
    }

    private static FeatherBeds grown(boolean isBlown, boolean isFilled) {
        FeatherBeds x = new FeatherBeds();
        x.addSack(3);
        x.addSack(8);
        x.put(1, 4, 300);
        x.put(0, 0, 123);
        if (isBlown) {
            x.blow(0);
            x.blow(1);
        }
        if (isFilled) {
            x.addTick(3, 2, 2);
            x.addTick(5, 6, 9);
            x.fill(0, 4, 1, 50);
            x.fill(0, 1, 4, 60);
            x.fill(1, 29, 0, 33);
            x.sew(0, 3, 0, true);
            x.pass(5);
        }
        return x;
    }

    private static void digest() {
        // each of these takes nearly all the calls that an object is used for
        FeatherBeds[] all = {new FeatherBeds(), grown(false, false), grown(true, false), grown(true, true)};
        for (int i = 0; i < all.length; i++) {
            CHECKS.due("digest " + i, all[i].digest(), digestOf(all[i]));
            CHECKS.due("digest once more " + i, all[i].digest(), all[i].digest());
        }
    }
}
