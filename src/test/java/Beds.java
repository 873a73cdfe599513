/** Brings objects into the states that tests begin with. */
final class Beds {
    private Beds() {
    }

    /** An object with as many sacks as there may be, none of them damp, and one tick. */
    static FeatherBeds withTick(int columns, int rows, int density) {
        FeatherBeds x = new FeatherBeds();
        for (int s = 0; s < 12; s++) {
            x.addSack(0);
        }
        x.addTick(columns, rows, density);
        return x;
    }

    /**
     * Fills a square of a tick with exactly so many (at most 300) feathers of a size, by way of sack 0
     * and the tower; what is left over is swept into the other sacks.
     */
    static void stuff(FeatherBeds x, int tick, int square, int size, int many) {
        // such a wind that none stay in the sack, and none get into the yard
        int wind = size < 3 ? 1 : 2;
        int before = x.setWind(wind);
        int chamber = wind * 12 / ((size + 1) * 4);
        x.put(0, size, (many * 10 + 5) / 6);
        x.blow(0);
        if (x.chamber(chamber, 6) != many || x.fill(tick, square, chamber, many) != many
                || x.sack(0, 6) + x.count(6) > 0) {
            throw new AssertionError("stuff(" + square + ", " + size + ", " + many + ") failed");
        }
        // another sack for every square, so that none gets full
        x.sweep(chamber - 1, 1 + square % 11);
        x.sweep(chamber + 1, 1 + square % 11);
        x.setWind(before);
    }

    /** As many sacks and ticks as there may be, with something in all of them; sack 0 is full. */
    static FeatherBeds full() {
        FeatherBeds x = new FeatherBeds();
        for (int s = 0; s < 12; s++) {
            x.addSack(s % 10);
        }
        for (int size = 0; size < 6; size++) {
            x.put(0, size, 500);
            x.put(1, size, 300);
        }
        x.blow(1);
        for (int t = 0; t < 6; t++) {
            x.addTick(1 + t % 2, 1, 1 + t);
            x.fill(t, 0, 3, 40);
        }
        for (int s = 2; s < 12; s++) {
            x.put(s, s % 6, 10 * s);
        }
        return x;
    }

    /**
     * Sacks (3) and ticks (2 columns and rows, 3 columns) that have room for more, and something of
     * everything that can be told: in each sack and chamber, in the yard, in squares, seams, nights, lost
     * feathers, another wind than at first.
     */
    static FeatherBeds busy() {
        FeatherBeds x = new FeatherBeds();
        x.addSack(3);
        x.addSack(0);
        x.addSack(9);
        x.addTick(2, 2, 2);
        x.addTick(3, 1, 1);
        x.setWind(20);
        x.put(1, 4, 300);
        x.put(1, 5, 50);
        x.blow(1);
        x.fill(0, 0, 4, 120);
        x.fill(1, 0, 4, 80);
        for (int size = 0; size < 6; size++) {
            x.put(0, size, 90 + size);
            x.put(1, size, 200 - size);
            x.put(2, size, 350);
        }
        x.blow(1);
        x.setWind(3);
        x.blow(0);
        x.setWind(1);
        x.blow(2);
        x.fill(0, 1, 0, 200);
        x.fill(0, 3, 1, 80);
        x.fill(1, 2, 0, 150);
        x.sew(0, 0, 1, true);
        x.pass(2);
        for (int s = 0; s < 3; s++) {
            x.put(s, 2 * s, 100 + s);
        }
        x.setWind(7);
        return x;
    }

    /** All that can be told of an object, save what it foresees and advises. */
    static String picture(FeatherBeds x) {
        StringBuilder p = new StringBuilder("counts");
        for (int what = 0; what < 9; what++) {
            p.append(' ').append(x.count(what));
        }
        int sacks = x.count(1);
        for (int s = 0; s < sacks; s++) {
            p.append(", sack");
            for (int what = 0; what < 8; what++) {
                p.append(' ').append(x.sack(s, what));
            }
        }
        for (int c = 0; c < 5; c++) {
            p.append(", chamber");
            for (int what = 0; what < 9; what++) {
                p.append(' ').append(x.chamber(c, what));
            }
        }
        int ticks = x.count(2);
        for (int t = 0; t < ticks; t++) {
            p.append(", tick");
            for (int what = 0; what < 9; what++) {
                p.append(' ').append(x.tick(t, what));
            }
            int squares = x.tick(t, 0) * x.tick(t, 1);
            for (int s = 0; s < squares; s++) {
                p.append(", square");
                for (int what = 0; what < 10; what++) {
                    p.append(' ').append(x.square(t, s, what));
                }
            }
        }
        return p.append(", ").append(x.filled()).append(", ").append(x.digest()).toString();
    }
}
