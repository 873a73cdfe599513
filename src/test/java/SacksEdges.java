/** The boundary cases of promises 1 to 5: a new object, and sacks. */
final class SacksEdges {
    private final Sentences s;

    SacksEdges(Sentences sentences) {
        s = sentences;
    }

    void all() {
        emptyTower();
        addSackNumber();
        addSackDamp();
        addSackTwelve();
        putReturns();
        putNoSuch();
        putMany();
        putTooMany();
        dryAtLeast();
        dryNoSuch();
        dryHours();
        sackWhat();
        sackNoSuch();
    }

    private void emptyTower() {
        s.promise(1, "Creates an empty tower, without sacks and ticks, before the first night.");
        FeatherBeds x = new FeatherBeds();
        int[] counts = {0, 0, 0, 0, 0, 0, 0, 0, 10};
        for (int what = 0; what < counts.length; what++) {
            s.due("count(" + what + ")", x.count(what), counts[what]);
        }
        int[] chamber = {0, 0, 0, 0, 0, 0, 0, -1, 0};
        for (int c = 0; c < 5; c++) {
            for (int what = 0; what < chamber.length; what++) {
                s.due("chamber(" + c + ", " + what + ")", x.chamber(c, what), chamber[what]);
            }
        }
        s.due("filled()", x.filled(), 0.0);
        s.noIndex(FeatherBeds::new, "sack(0, 7)", y -> y.sack(0, 7));
        s.noIndex(FeatherBeds::new, "tick(0, 0)", y -> y.tick(0, 0));
        s.due("the first sack", x.addSack(9), 0);
        s.due("the first tick", x.addTick(6, 6, 9), 0);
        s.due("a second object's sacks", new FeatherBeds().count(1), 0);
    }

    private void addSackNumber() {
        s.promise(2, "Brings an empty sack.");
        FeatherBeds x = new FeatherBeds();
        for (int number = 0; number < 12; number++) {
            s.due("addSack() number " + number, x.addSack(number % 10), number);
            x.put(number, number % 6, 500);
            for (int what = 0; what <= 6; what++) {
                int due = what == number % 6 || what == 6 ? 500 : 0;
                s.due("sack(" + number + ", " + what + ")", x.sack(number, what), due);
            }
        }
    }

    private void addSackDamp() {
        s.promise(2, "Throws IllegalArgumentException if damp is not 0 to 9");
        for (int damp : Sentences.outside(0, 9)) {
            s.noArgument(Beds::busy, "addSack(" + damp + ")", x -> x.addSack(damp));
            s.noArgument(FeatherBeds::new, "addSack(" + damp + ") of a new one", x -> x.addSack(damp));
        }
        FeatherBeds x = new FeatherBeds();
        for (int damp = 0; damp <= 9; damp++) {
            s.due("addSack(" + damp + ")", x.addSack(damp), damp);
            s.due("sack(" + damp + ", 7)", x.sack(damp, 7), damp);
        }
    }

    private void addSackTwelve() {
        s.promise(2, "Throws IllegalStateException if there are 12");
        for (int damp = 0; damp <= 9; damp++) {
            int how = damp;
            s.noState(Beds::full, "a 13th, addSack(" + damp + ")", x -> x.addSack(how));
        }
        FeatherBeds x = new FeatherBeds();
        for (int number = 0; number < 11; number++) {
            x.addSack(0);
        }
        s.due("the 12th", x.addSack(0), 11);
        s.due("how many there are", x.count(1), 12);
    }

    private void putReturns() {
        s.promise(3, "Returns how many of this size it has then.");
        FeatherBeds x = new FeatherBeds();
        x.addSack(0);
        x.addSack(0);
        s.due("put(1, 5, 1)", x.put(1, 5, 1), 1);
        s.due("put(1, 5, 2)", x.put(1, 5, 2), 3);
        s.due("put(1, 0, 500)", x.put(1, 0, 500), 500);
        s.due("put(0, 5, 4)", x.put(0, 5, 4), 4);
        s.due("put(1, 5, 497)", x.put(1, 5, 497), 500);
    }

    private void putNoSuch() {
        s.promise(3, "Throws IndexOutOfBoundsException if there is no such sack, or size is not 0 to 5");
        s.noIndex(FeatherBeds::new, "put(0, 0, 1) without sacks", x -> x.put(0, 0, 1));
        for (int sack : Sentences.noneOf(3, 12)) {
            s.noIndex(Beds::busy, "put(" + sack + ", 0, 1)", x -> x.put(sack, 0, 1));
        }
        s.noIndex(Beds::full, "put(12, 0, 1)", x -> x.put(12, 0, 1));
        for (int size : Sentences.outside(0, 5)) {
            s.noIndex(Beds::busy, "put(1, " + size + ", 1)", x -> x.put(1, size, 1));
        }
        s.due("put(2, 5, 1), the last of both", Beds.busy().put(2, 5, 1), Beds.busy().sack(2, 5) + 1);
        s.due("put(0, 0, 1), the first of both", Beds.busy().put(0, 0, 1), Beds.busy().sack(0, 0) + 1);
    }

    private void putMany() {
        s.promise(3, "Throws IllegalArgumentException if many is not 1 to 500");
        for (int many : Sentences.outside(1, 500)) {
            s.noArgument(Beds::busy, "put(1, 0, " + many + ")", x -> x.put(1, 0, many));
            s.noArgument(Beds::busy, "put(1, 2, " + many + ") where some are", x -> x.put(1, 2, many));
        }
        FeatherBeds x = new FeatherBeds();
        x.addSack(0);
        s.due("put(0, 3, 1)", x.put(0, 3, 1), 1);
        s.due("put(0, 4, 500)", x.put(0, 4, 500), 500);
    }

    private void putTooMany() {
        s.promise(3, "Throws IllegalStateException if there would be more than 500");
        for (int size = 0; size < 6; size++) {
            int full = size;
            s.noState(Beds::full, "put(0, " + size + ", 1) into a full one", x -> x.put(0, full, 1));
            s.noState(Beds::full, "put(0, " + size + ", 500) into a full one", x -> x.put(0, full, 500));
        }
        Sentences.Maker with400 = () -> {
            FeatherBeds x = new FeatherBeds();
            x.addSack(0);
            x.put(0, 3, 400);
            x.put(0, 4, 500);
            return x;
        };
        s.noState(with400, "put(0, 3, 101) to 400", x -> x.put(0, 3, 101));
        s.due("put(0, 3, 100) to 400", with400.make().put(0, 3, 100), 500);
        s.due("put(0, 5, 500) beside 900 of other sizes", with400.make().put(0, 5, 500), 500);
        FeatherBeds blown = with400.make();
        blown.blow(0);
        s.due("put(0, 4, 500), blown empty", blown.put(0, 4, 500), 500);
    }

    private static FeatherBeds damp(int damp) {
        FeatherBeds x = new FeatherBeds();
        x.addSack(4);
        x.addSack(damp);
        return x;
    }

    private void dryAtLeast() {
        s.promise(4, "hours: by how much it is less damp then, at least 0");
        for (int damp = 0; damp <= 9; damp++) {
            for (int hours = 1; hours <= 9; hours++) {
                FeatherBeds x = damp(damp);
                int due = damp > hours ? damp - hours : 0;
                s.due("damp " + damp + ", dry(1, " + hours + ")", x.dry(1, hours), due);
                s.due("how damp it is then", x.sack(1, 7), due);
                s.due("how damp the other one is", x.sack(0, 7), 4);
            }
        }
        FeatherBeds x = damp(9);
        s.due("dry(1, 8)", x.dry(1, 8), 1);
        s.due("dry(1, 1), then just dry", x.dry(1, 1), 0);
        s.due("dry(1, 1), dry already", x.dry(1, 1), 0);
    }

    private void dryNoSuch() {
        s.promise(4, "Throws IndexOutOfBoundsException if there is no such sack");
        s.noIndex(FeatherBeds::new, "dry(0, 1) without sacks", x -> x.dry(0, 1));
        for (int sack : Sentences.noneOf(3, 12)) {
            s.noIndex(Beds::busy, "dry(" + sack + ", 1)", x -> x.dry(sack, 1));
        }
        s.noIndex(Beds::full, "dry(12, 1)", x -> x.dry(12, 1));
        s.due("dry(11, 1), the last", Beds.full().dry(11, 1), 0);
        s.due("dry(0, 1), the first", Beds.busy().dry(0, 1), 2);
    }

    private void dryHours() {
        s.promise(4, "Throws IllegalArgumentException if hours is not 1 to 9");
        for (int hours : Sentences.outside(1, 9)) {
            s.noArgument(Beds::busy, "dry(2, " + hours + ")", x -> x.dry(2, hours));
        }
        s.due("dry(2, 1)", Beds.busy().dry(2, 1), 8);
        s.due("dry(2, 9)", Beds.busy().dry(2, 9), 0);
    }

    private void sackWhat() {
        s.promise(5, "what: 0 to 5 its feathers of this size, 6 all, 7 how damp it is");
        FeatherBeds x = new FeatherBeds();
        x.addSack(9);
        x.addSack(8);
        int[] empty = {0, 0, 0, 0, 0, 0, 0, 8};
        for (int what = 0; what < 8; what++) {
            s.due("empty, sack(1, " + what + ")", x.sack(1, what), empty[what]);
        }
        for (int size = 0; size < 6; size++) {
            x.put(1, size, 500 - size);
        }
        int[] filled = {500, 499, 498, 497, 496, 495, 2985, 8};
        for (int what = 0; what < 8; what++) {
            s.due("filled, sack(1, " + what + ")", x.sack(1, what), filled[what]);
        }
        s.due("sack(0, 6)", x.sack(0, 6), 0);
    }

    private void sackNoSuch() {
        s.promise(5, "Throws IndexOutOfBoundsException if there is no such sack, or what is not 0 to 7");
        s.noIndex(FeatherBeds::new, "sack(0, 0) without sacks", x -> x.sack(0, 0));
        for (int sack : Sentences.noneOf(3, 12)) {
            s.noIndex(Beds::busy, "sack(" + sack + ", 0)", x -> x.sack(sack, 0));
        }
        s.noIndex(Beds::full, "sack(12, 7)", x -> x.sack(12, 7));
        for (int what : Sentences.outside(0, 7)) {
            s.noIndex(Beds::busy, "sack(1, " + what + ")", x -> x.sack(1, what));
        }
        s.unchanged(Beds::full, "sack(11, 7), the last of both", x -> x.sack(11, 7), 1);
        s.unchanged(Beds::full, "sack(0, 0), the first of both", x -> x.sack(0, 0), 500);
    }
}
