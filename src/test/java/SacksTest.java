/** Promises 1 to 5: a new object, and sacks. */
public final class SacksTest {
    private static final Checks CHECKS = new Checks();

    public static void main(String[] args) {
        newObject();
        addSack();
        put();
        dry();
        sack();
        CHECKS.end();
    }

    private static void newObject() {
        FeatherBeds x = new FeatherBeds();
        for (int what = 0; what < 8; what++) {
            CHECKS.due("new, count(" + what + ")", x.count(what), 0);
        }
        CHECKS.due("new, the wind", x.count(8), 10);
        for (int c = 0; c < 5; c++) {
            CHECKS.due("new, chamber(" + c + ", 6)", x.chamber(c, 6), 0);
        }
        CHECKS.noIndex(x, "new, sack(0, 0)", () -> x.sack(0, 0));
        CHECKS.noIndex(x, "new, tick(0, 0)", () -> x.tick(0, 0));
        FeatherBeds other = new FeatherBeds();
        other.addSack(3);
        CHECKS.due("a sack of another object", x.count(1), 0);
    }

    private static void addSack() {
        FeatherBeds x = new FeatherBeds();
        CHECKS.noArgument(x, "addSack(-1)", () -> x.addSack(-1));
        CHECKS.noArgument(x, "addSack(10)", () -> x.addSack(10));
        for (int s = 0; s < 12; s++) {
            CHECKS.due("addSack() number " + s, x.addSack(s % 10), s);
            CHECKS.due("how damp it is", x.sack(s, 7), s % 10);
            CHECKS.due("what it has", x.sack(s, 6), 0);
        }
        CHECKS.noState(x, "a 13th sack", () -> x.addSack(5));
        CHECKS.noArgument(x, "a 13th sack, too damp", () -> x.addSack(10));
        CHECKS.noArgument(x, "addSack(min)", () -> x.addSack(Integer.MIN_VALUE));
    }

    private static void put() {
        FeatherBeds x = new FeatherBeds();
        CHECKS.noIndex(x, "put into no sack", () -> x.put(0, 0, 1));
        x.addSack(0);
        x.addSack(0);
        CHECKS.due("put(1, 5, 1)", x.put(1, 5, 1), 1);
        CHECKS.due("put(1, 5, 499)", x.put(1, 5, 499), 500);
        CHECKS.due("put(1, 4, 500)", x.put(1, 4, 500), 500);
        CHECKS.due("put(1, 0, 7)", x.put(1, 0, 7), 7);
        CHECKS.due("put(1, 0, 8)", x.put(1, 0, 8), 15);
        CHECKS.due("the other sack", x.sack(0, 6), 0);
        CHECKS.noState(x, "a 501st", () -> x.put(1, 5, 1));
        CHECKS.noState(x, "15 and 486", () -> x.put(1, 0, 486));
        CHECKS.due("15 and 485", x.put(1, 0, 485), 500);
        CHECKS.noArgument(x, "put none", () -> x.put(0, 0, 0));
        CHECKS.noArgument(x, "put 501", () -> x.put(0, 0, 501));
        CHECKS.noArgument(x, "put 501 into a full one", () -> x.put(1, 5, 501));
        CHECKS.noArgument(x, "put the most", () -> x.put(1, 5, Integer.MAX_VALUE));
        CHECKS.noIndex(x, "put(-1, ..)", () -> x.put(-1, 0, 1));
        CHECKS.noIndex(x, "put(2, ..)", () -> x.put(2, 0, 1));
        CHECKS.noIndex(x, "size -1", () -> x.put(0, -1, 1));
        CHECKS.noIndex(x, "size 6", () -> x.put(0, 6, 1));
        CHECKS.noIndex(x, "size 6 and none", () -> x.put(0, 6, 0));
        CHECKS.noIndex(x, "no sack and none", () -> x.put(2, 0, 0));
    }

    private static void dry() {
        FeatherBeds x = new FeatherBeds();
        x.addSack(9);
        x.addSack(3);
        CHECKS.due("dry(0, 4)", x.dry(0, 4), 5);
        CHECKS.due("dry(0, 1)", x.dry(0, 1), 4);
        CHECKS.due("dry(0, 9)", x.dry(0, 9), 0);
        CHECKS.due("dry(0, 2)", x.dry(0, 2), 0);
        CHECKS.due("the other sack", x.sack(1, 7), 3);
        CHECKS.due("dry(1, 3)", x.dry(1, 3), 0);
        CHECKS.noArgument(x, "dry(0, 0)", () -> x.dry(0, 0));
        CHECKS.noArgument(x, "dry(0, 10)", () -> x.dry(0, 10));
        CHECKS.noIndex(x, "dry(2, 1)", () -> x.dry(2, 1));
        CHECKS.noIndex(x, "dry(-1, 0)", () -> x.dry(-1, 0));
    }

    private static void sack() {
        FeatherBeds x = new FeatherBeds();
        x.addSack(8);
        for (int size = 0; size < 6; size++) {
            x.put(0, size, 10 + size);
        }
        for (int size = 0; size < 6; size++) {
            CHECKS.due("sack(0, " + size + ")", x.sack(0, size), 10 + size);
        }
        CHECKS.due("sack(0, 6)", x.sack(0, 6), 75);
        CHECKS.due("sack(0, 7)", x.sack(0, 7), 8);
        CHECKS.noIndex(x, "sack(0, -1)", () -> x.sack(0, -1));
        CHECKS.noIndex(x, "sack(0, 8)", () -> x.sack(0, 8));
        CHECKS.noIndex(x, "sack(1, 0)", () -> x.sack(1, 0));
        CHECKS.noIndex(x, "sack(-1, 0)", () -> x.sack(-1, 0));
        CHECKS.noIndex(x, "sack(min, max)", () -> x.sack(Integer.MIN_VALUE, Integer.MAX_VALUE));
    }
}
