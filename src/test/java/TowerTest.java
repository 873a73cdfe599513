/** Promises 6 to 10: the tower. */
public final class TowerTest {
    private static final Checks CHECKS = new Checks();

    public static void main(String[] args) {
        setWind();
        blow();
        blowAtTheEnds();
        sweep();
        chamber();
        bestWind();
        bestWindIsExact();
        CHECKS.end();
    }

    private static FeatherBeds withSack(int damp) {
        FeatherBeds x = new FeatherBeds();
        x.addSack(damp);
        return x;
    }

    private static void setWind() {
        FeatherBeds x = new FeatherBeds();
        CHECKS.due("setWind(1)", x.setWind(1), 10);
        CHECKS.due("setWind(20)", x.setWind(20), 1);
        CHECKS.due("the wind", x.count(8), 20);
        CHECKS.noArgument(x, "setWind(0)", () -> x.setWind(0));
        CHECKS.noArgument(x, "setWind(21)", () -> x.setWind(21));
        CHECKS.noArgument(x, "setWind(-5)", () -> x.setWind(-5));
        CHECKS.due("the wind then", x.setWind(20), 20);
    }

    private static void blow() {
        FeatherBeds x = withSack(1);
        CHECKS.due("blow an empty sack", x.blow(0), 0);
        x.put(0, 2, 107);
        x.setWind(3);
        // 3 * 12 / (3 * 5) is 2
        CHECKS.due("blow", x.blow(0), 107);
        CHECKS.due("those that fall", x.chamber(2, 2), 64);
        CHECKS.due("those in the next one", x.chamber(3, 2), 26);
        CHECKS.due("those in the one ahead", x.chamber(1, 2), 17);
        CHECKS.due("those in all", x.count(4), 107);
        CHECKS.due("those in the sack", x.sack(0, 6), 0);
        CHECKS.due("those in the yard", x.count(6), 0);
        x.put(0, 2, 10);
        x.dry(0, 1);
        // 3 * 12 / (3 * 4) is 3
        CHECKS.due("blow, dried", x.blow(0), 10);
        CHECKS.due("those that fall, dried", x.chamber(3, 2), 26 + 6);
        CHECKS.due("those in the next one, dried", x.chamber(4, 2), 2);
        CHECKS.due("those in the one ahead, dried", x.chamber(2, 2), 64 + 2);
        CHECKS.noIndex(x, "blow(1)", () -> x.blow(1));
        CHECKS.noIndex(x, "blow(-1)", () -> x.blow(-1));
    }

    private static void blowAtTheEnds() {
        FeatherBeds x = withSack(0);
        x.setWind(20);
        x.put(0, 0, 101);
        CHECKS.due("blow far", x.blow(0), 76);
        CHECKS.due("the last chamber", x.chamber(4, 0), 60);
        CHECKS.due("the one ahead of it", x.chamber(3, 0), 16);
        CHECKS.due("the yard", x.count(6), 25);
        CHECKS.due("the sack", x.sack(0, 0), 0);

        FeatherBeds y = withSack(9);
        y.setWind(1);
        y.put(0, 5, 101);
        CHECKS.due("blow near", y.blow(0), 85);
        CHECKS.due("chamber 0", y.chamber(0, 5), 60);
        CHECKS.due("chamber 1", y.chamber(1, 5), 25);
        CHECKS.due("staying in the sack", y.sack(0, 5), 16);
        CHECKS.due("no yard", y.count(6), 0);
        CHECKS.due("blow what stays", y.blow(0), 9 + 4);
        CHECKS.due("staying then", y.sack(0, 5), 3);
    }

    private static void sweep() {
        FeatherBeds x = withSack(0);
        x.addSack(5);
        x.setWind(20);
        x.put(0, 0, 500);
        x.blow(0);
        x.put(0, 0, 450);
        x.put(0, 1, 100);
        x.setWind(4);
        x.blow(0);
        // sizes 0: 300 and 270 in chamber 4, 75 and 68 in chamber 3; 1: 60 in 4, 15 in 3
        CHECKS.due("chamber 4, 0", x.chamber(4, 0), 570);
        CHECKS.due("chamber 4, 1", x.chamber(4, 1), 60);
        x.put(1, 0, 50);
        CHECKS.due("sweep(4, 1)", x.sweep(4, 1), 510);
        CHECKS.due("left there, 0", x.chamber(4, 0), 120);
        CHECKS.due("left there, 1", x.chamber(4, 1), 0);
        CHECKS.due("in the sack, 0", x.sack(1, 0), 500);
        CHECKS.due("in the sack, 1", x.sack(1, 1), 60);
        CHECKS.due("sweep(4, 1) again", x.sweep(4, 1), 0);
        CHECKS.due("sweep(0, 1), empty", x.sweep(0, 1), 0);
        CHECKS.due("how damp it is", x.sack(1, 7), 5);
        CHECKS.noIndex(x, "sweep(-1, 0)", () -> x.sweep(-1, 0));
        CHECKS.noIndex(x, "sweep(5, 0)", () -> x.sweep(5, 0));
        CHECKS.noIndex(x, "sweep(4, 2)", () -> x.sweep(4, 2));
        CHECKS.noIndex(x, "sweep(4, -1)", () -> x.sweep(4, -1));
    }

    private static void chamber() {
        FeatherBeds x = withSack(9);
        CHECKS.due("empty, 7", x.chamber(0, 7), -1);
        CHECKS.due("empty, 8", x.chamber(0, 8), 0);
        x.setWind(1);
        x.put(0, 5, 50);
        x.put(0, 4, 50);
        x.put(0, 3, 45);
        x.blow(0);
        CHECKS.due("chamber(0, 5)", x.chamber(0, 5), 30);
        CHECKS.due("chamber(0, 4)", x.chamber(0, 4), 30);
        CHECKS.due("chamber(0, 3)", x.chamber(0, 3), 27);
        CHECKS.due("chamber(0, 0)", x.chamber(0, 0), 0);
        CHECKS.due("chamber(0, 6)", x.chamber(0, 6), 87);
        CHECKS.due("of several the smallest", x.chamber(0, 7), 4);
        CHECKS.due("3000 / 87", x.chamber(0, 8), 34);
        CHECKS.due("all others empty", x.chamber(4, 6), 0);
        FeatherBeds down = withSack(0);
        down.put(0, 1, 10);
        down.put(0, 0, 10);
        down.blow(0);
        CHECKS.due("size 0", down.chamber(4, 7), 0);
        CHECKS.due("6 of 12", down.chamber(4, 8), 50);
        CHECKS.noIndex(x, "chamber(0, -1)", () -> x.chamber(0, -1));
        CHECKS.noIndex(x, "chamber(0, 9)", () -> x.chamber(0, 9));
        CHECKS.noIndex(x, "chamber(5, 0)", () -> x.chamber(5, 0));
        CHECKS.noIndex(x, "chamber(-1, 0)", () -> x.chamber(-1, 0));
    }

    private static void bestWind() {
        FeatherBeds x = withSack(0);
        CHECKS.due("of an empty sack", x.bestWind(0, 0, 0), -1);
        x.put(0, 0, 100);
        CHECKS.due("of several the least", x.bestWind(0, 4, 0), 1);
        x.put(0, 1, 100);
        long before = x.digest();
        CHECKS.due("15 of 40", x.bestWind(0, 2, 0), 1);
        CHECKS.due("15 of 15, not 25 of 40", x.bestWind(0, 2, 1), 2);
        CHECKS.due("none there", x.bestWind(0, 0, 5), -1);
        CHECKS.due("too light for chamber 0", x.bestWind(0, 1, 0), -1);
        CHECKS.due("nothing is changed", x.digest(), before);
        x.setWind(7);
        CHECKS.due("whatever the wind is", x.bestWind(0, 2, 1), 2);
        CHECKS.noIndex(x, "bestWind(1, 0, 0)", () -> x.bestWind(1, 0, 0));
        CHECKS.noIndex(x, "bestWind(-1, 0, 0)", () -> x.bestWind(-1, 0, 0));
        CHECKS.noIndex(x, "bestWind(0, 5, 0)", () -> x.bestWind(0, 5, 0));
        CHECKS.noIndex(x, "bestWind(0, -1, 0)", () -> x.bestWind(0, -1, 0));
        CHECKS.noIndex(x, "bestWind(0, 0, 6)", () -> x.bestWind(0, 0, 6));
        CHECKS.noIndex(x, "bestWind(0, 0, -1)", () -> x.bestWind(0, 0, -1));
    }

    /** The same part in hundreds, but not the same part; and the strongest wind. */
    private static void bestWindIsExact() {
        FeatherBeds x = withSack(0);
        x.put(0, 5, 397);
        x.put(0, 4, 20);
        // into chamber 0: wind 1: 238 of 250; wind 2: 60 of 63
        CHECKS.due("60 of 63, not 238 of 250", x.bestWind(0, 0, 5), 2);

        FeatherBeds y = withSack(0);
        y.put(0, 1, 420);
        y.put(0, 0, 3);
        // into chamber 4: wind 2: 105 of 106; wind 3: 252 of 253; stronger ones: the same
        CHECKS.due("252 of 253, not 105 of 106", y.bestWind(0, 4, 1), 3);

        FeatherBeds z = withSack(9);
        z.put(0, 5, 100);
        // 19 * 12 / 78 is 2, 20 * 12 / 78 is 3
        CHECKS.due("the strongest wind", z.bestWind(0, 4, 5), 20);
    }
}
