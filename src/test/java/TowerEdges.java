/** The boundary cases of promises 6 to 10: the tower. */
final class TowerEdges {
    private final Sentences s;

    TowerEdges(Sentences sentences) {
        s = sentences;
    }

    void all() {
        setWindReturns();
        setWindStrength();
        blowReturns();
        blowNoSuch();
        sweepAsFar();
        sweepReturns();
        sweepNoSuch();
        chamberWhat();
        chamberMost();
        chamberPart();
        chamberNoSuch();
        bestWindGreaterPart();
        bestWindLeast();
        bestWindNone();
        bestWindChangesNothing();
        bestWindNoSuch();
    }

    private static FeatherBeds withSack(int damp, int... many) {
        FeatherBeds x = new FeatherBeds();
        x.addSack(damp);
        for (int size = 0; size < many.length; size++) {
            if (many[size] > 0) {
                x.put(0, size, many[size]);
            }
        }
        return x;
    }

    private void setWindReturns() {
        s.promise(6, "Returns the strength before.");
        FeatherBeds x = new FeatherBeds();
        s.due("the first setWind(1)", x.setWind(1), 10);
        s.due("setWind(20)", x.setWind(20), 1);
        s.due("setWind(20) again", x.setWind(20), 20);
        s.due("count(8)", x.count(8), 20);
    }

    private void setWindStrength() {
        s.promise(6, "Throws IllegalArgumentException if strength is not 1 to 20");
        for (int strength : Sentences.outside(1, 20)) {
            s.noArgument(Beds::busy, "setWind(" + strength + ")", x -> x.setWind(strength));
        }
        FeatherBeds x = new FeatherBeds();
        int before = 10;
        for (int strength = 1; strength <= 20; strength++) {
            s.due("setWind(" + strength + ")", x.setWind(strength), before);
            s.due("count(8)", x.count(8), strength);
            before = strength;
        }
    }

    private void blowReturns() {
        s.promise(7, "Returns how many feathers fall into chambers.");
        // near: 12 / 78 is 0; of these many, those that stay in the sack do not fall into a chamber
        int[][] near = {{1, 0}, {2, 1}, {3, 1}, {4, 3}, {500, 425}};
        for (int[] row : near) {
            FeatherBeds x = withSack(9, 0, 0, 0, 0, 0, row[0]);
            x.setWind(1);
            s.due("blow(0), " + row[0] + " near the fan", x.blow(0), row[1]);
            s.due("in chambers", x.count(4), row[1]);
            s.due("in the sack", x.sack(0, 5), row[0] - row[1]);
        }
        // far: 10 * 12 / 4 is 30; those in the yard do not fall into a chamber
        int[][] far = {{1, 1}, {3, 3}, {4, 3}, {500, 375}};
        for (int[] row : far) {
            FeatherBeds x = withSack(0, row[0]);
            s.due("blow(0), " + row[0] + " far", x.blow(0), row[1]);
            s.due("in chambers", x.count(4), row[1]);
            s.due("in the yard", x.count(6), row[0] - row[1]);
        }
        FeatherBeds empty = withSack(5);
        s.due("blow(0), empty", empty.blow(0), 0);
        s.due("in chambers", empty.count(4), 0);
    }

    private void blowNoSuch() {
        s.promise(7, "Throws IndexOutOfBoundsException if there is no such sack");
        s.noIndex(FeatherBeds::new, "blow(0) without sacks", x -> x.blow(0));
        for (int sack : Sentences.noneOf(3, 12)) {
            s.noIndex(Beds::busy, "blow(" + sack + ")", x -> x.blow(sack));
        }
        s.noIndex(Beds::full, "blow(12)", x -> x.blow(12));
        // all six sizes fly far, but size 5: 10 * 12 / 24 is 5, too
        s.due("blow(0), the first", Beds.full().blow(0), 6 * 375);
        // sack 11: 110 of size 5, damp 1; 10 * 12 / 30 is 4
        s.due("blow(11), the last", Beds.full().blow(11), 110 - 27);
    }

    /** Chamber 4 has 600 of size 0 and 6 of size 5; sack 1 has so many of size 0. */
    private static FeatherBeds swept(int many) {
        FeatherBeds x = withSack(0, 500, 0, 0, 0, 0, 10);
        x.addSack(7);
        x.setWind(20);
        x.blow(0);
        x.put(0, 0, 500);
        x.blow(0);
        if (many > 0) {
            x.put(1, 0, many);
        }
        return x;
    }

    private void sweepAsFar() {
        s.promise(8, "all that lies there, of each size as far as the sack may have.");
        int[] before = {0, 1, 499, 500};
        for (int many : before) {
            FeatherBeds x = swept(many);
            x.sweep(4, 1);
            s.due("to " + many + " of size 0, sweep(4, 1), then size 0", x.sack(1, 0), 500);
            s.due("then size 5", x.sack(1, 5), 6);
            s.due("then size 0 in the chamber", x.chamber(4, 0), 100 + many);
            s.due("then size 5 in the chamber", x.chamber(4, 5), 0);
            s.due("then another chamber", x.chamber(3, 0), 150);
            s.due("then how damp it is", x.sack(1, 7), 7);
        }
        FeatherBeds x = swept(0);
        x.sweep(3, 1);
        s.due("less than it may have, sweep(3, 1), then size 0", x.sack(1, 0), 150);
        s.due("then the chamber", x.chamber(3, 6), 0);
    }

    private void sweepReturns() {
        s.promise(8, "Returns how many feathers these are.");
        int[] before = {0, 1, 499, 500};
        for (int many : before) {
            FeatherBeds x = swept(many);
            s.due("to " + many + " of size 0, sweep(4, 1)", x.sweep(4, 1), 500 - many + 6);
            s.due("once more", x.sweep(4, 1), 0);
            s.due("the rest, sweep(4, 0)", x.sweep(4, 0), 100 + many < 500 ? 100 + many : 500);
        }
        s.due("an empty chamber, sweep(0, 1)", swept(0).sweep(0, 1), 0);
    }

    private void sweepNoSuch() {
        s.promise(8, "Throws IndexOutOfBoundsException if chamber is not 0 to 4, or there is no such sack");
        for (int chamber : Sentences.outside(0, 4)) {
            s.noIndex(Beds::busy, "sweep(" + chamber + ", 0)", x -> x.sweep(chamber, 0));
        }
        s.noIndex(FeatherBeds::new, "sweep(0, 0) without sacks", x -> x.sweep(0, 0));
        for (int sack : Sentences.noneOf(3, 12)) {
            s.noIndex(Beds::busy, "sweep(4, " + sack + ")", x -> x.sweep(4, sack));
        }
        s.noIndex(Beds::full, "sweep(4, 12)", x -> x.sweep(4, 12));
        int there = Beds.busy().chamber(0, 6);
        s.due("sweep(0, 1), the first chamber", Beds.busy().sweep(0, 1), there);
        FeatherBeds last = Beds.full();
        int far = last.chamber(4, 6);
        s.due("sweep(4, 11), the last of both", last.sweep(4, 11), far);
    }

    private void chamberWhat() {
        s.promise(9, "what: 0 to 5 its feathers of this size, 6 all");
        FeatherBeds x = withSack(0, 500, 400, 300, 200, 100, 10);
        // 20 * 12 / 24 is 10: all fly far
        x.setWind(20);
        x.blow(0);
        int[] due = {300, 240, 180, 120, 60, 6, 906, 0, 33};
        for (int what = 0; what < 9; what++) {
            s.due("chamber(4, " + what + ")", x.chamber(4, what), due[what]);
        }
        int[] ahead = {75, 60, 45, 30, 15, 2, 227, 0, 33};
        for (int what = 0; what < 9; what++) {
            s.due("chamber(3, " + what + ")", x.chamber(3, what), ahead[what]);
        }
    }

    private void chamberMost() {
        s.promise(9, "7 the size of which it has the most, of several the smallest one, -1 if it is empty");
        s.due("empty at first", new FeatherBeds().chamber(4, 7), -1);
        int[][] many = {{10, 10, 10, 10, 10, 10}, {0, 10, 10, 10, 10, 10}, {10, 10, 10, 10, 10, 20}, {0, 0, 0, 0, 0, 10},
            {0, 0, 20, 10, 20, 0}, {10, 0, 0, 0, 10, 0}, {0, 0, 0, 2, 3, 3}};
        int[] due = {0, 1, 5, 5, 2, 0, 3};
        for (int row = 0; row < many.length; row++) {
            FeatherBeds x = withSack(0, many[row]);
            x.setWind(20);
            x.blow(0);
            s.due("row " + row + ", chamber(4, 7)", x.chamber(4, 7), due[row]);
            x.sweep(4, 0);
            s.due("swept empty, chamber(4, 7)", x.chamber(4, 7), -1);
        }
        FeatherBeds one = withSack(0, 0, 0, 0, 0, 0, 1);
        one.setWind(20);
        one.blow(0);
        s.due("a single one, chamber(3, 7)", one.chamber(3, 7), 5);
        s.due("none of it, chamber(4, 7)", one.chamber(4, 7), -1);
    }

    private void chamberPart() {
        s.promise(9, "8 how many of 100 of its feathers are of this size (100 * these / all), 0 if it is empty");
        s.due("empty at first", new FeatherBeds().chamber(0, 8), 0);
        // in chamber 4: 6 of each; 199 of 200 there; just one size; 1 of 1 and 1 of 1
        int[][] many = {{10, 10, 10, 10, 10, 10}, {332, 2, 0, 0, 0, 0}, {0, 0, 0, 0, 500, 0}, {2, 2, 2, 0, 0, 0}};
        int[] due = {16, 99, 100, 33};
        for (int row = 0; row < many.length; row++) {
            FeatherBeds x = withSack(0, many[row]);
            x.setWind(20);
            x.blow(0);
            s.due("row " + row + ", chamber(4, 8)", x.chamber(4, 8), due[row]);
            x.sweep(4, 0);
            s.due("swept empty, chamber(4, 8)", x.chamber(4, 8), 0);
        }
        FeatherBeds one = withSack(0, 1);
        one.blow(0);
        s.due("a single one, chamber(3, 8)", one.chamber(3, 8), 100);
        s.due("none of it, chamber(4, 8)", one.chamber(4, 8), 0);
    }

    private void chamberNoSuch() {
        s.promise(9, "Throws IndexOutOfBoundsException if chamber is not 0 to 4, or what is not 0 to 8");
        for (int chamber : Sentences.outside(0, 4)) {
            s.noIndex(Beds::busy, "chamber(" + chamber + ", 6)", x -> x.chamber(chamber, 6));
        }
        for (int what : Sentences.outside(0, 8)) {
            s.noIndex(Beds::busy, "chamber(2, " + what + ")", x -> x.chamber(2, what));
        }
        s.unchanged(() -> withSack(0), "chamber(0, 0), the first of both", x -> x.chamber(0, 0), 0);
        s.unchanged(Beds::full, "chamber(4, 8), the last of both", x -> x.chamber(4, 8), 16);
    }

    private void bestWindGreaterPart() {
        s.promise(10, "n of m feathers are a greater part than n' of m', if n * m' is more than n' * m");
        FeatherBeds near = withSack(0, 0, 0, 0, 0, 20, 397);
        // into chamber 0: wind 1: 238 of 250; wind 2: 60 of 63; both 95 of 100
        s.due("60 of 63, not 238 of 250", near.bestWind(0, 0, 5), 2);
        FeatherBeds far = withSack(0, 3, 420);
        // into chamber 4: wind 2: 105 of 106; wind 3 and stronger ones: 252 of 253; both 99 of 100
        s.due("252 of 253, not 105 of 106", far.bestWind(0, 4, 1), 3);
        FeatherBeds many = withSack(0, 100, 100);
        // into chamber 2: wind 1: 15 of size 0 and 25 of size 1; wind 2: 15 of size 1
        s.due("15 of 15, not 25 of 40", many.bestWind(0, 2, 1), 2);
        s.due("15 of 40", many.bestWind(0, 2, 0), 1);
        FeatherBeds strong = withSack(9, 0, 0, 0, 0, 0, 100);
        // 19 * 12 / 78 is 2, 20 * 12 / 78 is 3
        s.due("the strongest wind", strong.bestWind(0, 4, 5), 20);
    }

    private void bestWindLeast() {
        s.promise(10, "of several the least wind.");
        s.due("always all of it", withSack(0, 100).bestWind(0, 4, 0), 1);
        FeatherBeds x = withSack(9, 0, 0, 0, 0, 100, 100);
        // chamber 0: 60 of 120 by winds 1 to 5, 15 of 30 by 7 to 10; size 5: 15 of 15 by 11 and 12
        s.due("size 4, by 1 to 5 and 7 to 10", x.bestWind(0, 0, 4), 1);
        s.due("size 5, by 11 and 12", x.bestWind(0, 0, 5), 11);
        // 60 of 60 by 11, but 25 of 25 by 6: 6 * 12 / 65 is 1
        s.due("other numbers, the same part", withSack(9, 0, 0, 0, 0, 100).bestWind(0, 2, 4), 6);
    }

    private void bestWindNone() {
        s.promise(10, "-1 if none would bring any of this size there.");
        s.due("an empty sack", withSack(0).bestWind(0, 4, 0), -1);
        FeatherBeds x = withSack(0, 100, 0, 100);
        s.due("none of this size in the sack", x.bestWind(0, 4, 1), -1);
        // 12 / 4 is 3 by the least wind
        s.due("too light for chamber 1", x.bestWind(0, 1, 0), -1);
        s.due("just heavy enough for chamber 2", x.bestWind(0, 2, 0), 1);
        // a single one gets into the chamber ahead, never further than into 3
        FeatherBeds one = withSack(0, 1);
        s.due("a single one, chamber 4", one.bestWind(0, 4, 0), -1);
        s.due("a single one, chamber 3", one.bestWind(0, 3, 0), 2);
        FeatherBeds heavy = withSack(9, 0, 0, 0, 0, 0, 3);
        // 20 * 12 / 78 is 3, and 3 / 4 is 0
        s.due("3 / 4 into chamber 4", heavy.bestWind(0, 4, 5), -1);
        s.due("3 * 6 / 10 into chamber 3", heavy.bestWind(0, 3, 5), 20);
    }

    private void bestWindChangesNothing() {
        s.promise(10, "Returns this wind (nothing is changed)");
        Sentences.Maker maker = () -> {
            FeatherBeds x = withSack(9, 0, 0, 0, 0, 100, 100);
            x.setWind(13);
            return x;
        };
        s.unchanged(maker, "bestWind(0, 0, 5)", x -> x.bestWind(0, 0, 5), 11);
        s.unchanged(maker, "bestWind(0, 0, 0)", x -> x.bestWind(0, 0, 0), -1);
    }

    private void bestWindNoSuch() {
        s.promise(10, "Throws IndexOutOfBoundsException if there is no such sack, chamber is not 0 to 4, "
                + "or size is not 0 to 5");
        s.noIndex(FeatherBeds::new, "bestWind(0, 0, 0) without sacks", x -> x.bestWind(0, 0, 0));
        for (int sack : Sentences.noneOf(3, 12)) {
            s.noIndex(Beds::busy, "bestWind(" + sack + ", 0, 0)", x -> x.bestWind(sack, 0, 0));
        }
        s.noIndex(Beds::full, "bestWind(12, 0, 0)", x -> x.bestWind(12, 0, 0));
        for (int chamber : Sentences.outside(0, 4)) {
            s.noIndex(Beds::busy, "bestWind(2, " + chamber + ", 4)", x -> x.bestWind(2, chamber, 4));
        }
        for (int size : Sentences.outside(0, 5)) {
            s.noIndex(Beds::busy, "bestWind(2, 0, " + size + ")", x -> x.bestWind(2, 0, size));
        }
        // sack 11 has 110 of size 5, damp 1: 8 * 12 / 30 is 3, of which a quarter gets into chamber 4
        s.due("bestWind(11, 4, 5), the last of all", Beds.full().bestWind(11, 4, 5), 8);
        // sack 0 has 500 of each, not damp: by no wind does size 0 get there
        s.due("bestWind(0, 0, 0), the first of all", Beds.full().bestWind(0, 0, 0), -1);
    }
}
