/** Brings objects into the states that tests begin with. */
final class Beds {
    private Beds() {
    }

    /** An object with as many sacks as there may be, none of them damp, and one tick. */
    static FeatherBeds withTick(int columns, int rows, int density) {
        FeatherBeds x = new FeatherBeds();
        for (int s = 0; s < 12; s++) {
            x.addSack(0);
        }
        x.addTick(columns, rows, density);
        return x;
    }

    /**
     * Fills a square of a tick with exactly so many (at most 300) feathers of a size, by way of sack 0
     * and the tower; what is left over is swept into the other sacks.
     */
    static void stuff(FeatherBeds x, int tick, int square, int size, int many) {
        // such a wind that none stay in the sack, and none get into the yard
        int wind = size < 3 ? 1 : 2;
        int before = x.setWind(wind);
        int chamber = wind * 12 / ((size + 1) * 4);
        x.put(0, size, (many * 10 + 5) / 6);
        x.blow(0);
        if (x.chamber(chamber, 6) != many || x.fill(tick, square, chamber, many) != many
                || x.sack(0, 6) + x.count(6) > 0) {
            throw new AssertionError("stuff(" + square + ", " + size + ", " + many + ") failed");
        }
        // another sack for every square, so that none gets full
        x.sweep(chamber - 1, 1 + square % 11);
        x.sweep(chamber + 1, 1 + square % 11);
        x.setWind(before);
    }
}
