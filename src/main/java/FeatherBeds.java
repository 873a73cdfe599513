import java.util.ArrayList;

/** Featherbed makers: sacks of feathers, the tower that sorts them, and the ticks that they fill. */
public final class FeatherBeds {
    private static final int SIZES = 6;
    private static final int SHIFTING_SIZES = 2;

    private static final int MOST_SACKS = 12;
    private static final int MOST_IN_SACK = 500;
    private static final int MOST_DAMP = 9;

    private static final int CHAMBERS = 5;
    /** The places where a blown feather comes to lie, before and behind the chambers' numbers. */
    private static final int IN_SACK = -1;
    private static final int YARD = CHAMBERS;
    private static final int FIRST_WIND = 10;
    private static final int MOST_WIND = 20;

    private static final int MOST_TICKS = 6;
    private static final int MOST_COLUMNS = 6;
    private static final int MOST_SQUARES = MOST_COLUMNS * MOST_COLUMNS;
    private static final int MOST_DENSITY = 9;
    private static final int MOST_IN_SQUARE = 300;
    private static final int MOST_WARMTH = 900;
    private static final int DIRECTIONS = 2;
    private static final int RIGHT = 0;
    private static final int BELOW = 1;

    private static final int MOST_NIGHTS = 200;
    private static final int MOST_NIGHTS_ADVISED = 60;

    /** How many things each of the telling methods tells. */
    private static final int SACK_TELLS = 8;
    private static final int CHAMBER_TELLS = 9;
    private static final int SQUARE_TELLS = 10;
    private static final int TICK_TELLS = 9;
    private static final int COUNT_TELLS = 9;
    private static final int FORESEE_TELLS = 3;

    private static final int DIGEST_START = 617;
    private static final int DIGEST_FACTOR = 31;

    private final ArrayList<Sack> sacks;
    private final ArrayList<Tick> ticks;
    private final Heap[] chambers;
    /** The tick on which nights are tried out, so that nothing is changed. */
    private final Tick trial;
    private int wind;
    private int nightsGone;
    private int lostInYard;
    private int lostByPricking;

    public FeatherBeds() {
        sacks = new ArrayList<>();
        ticks = new ArrayList<>();
        chambers = new Heap[CHAMBERS];
        for (int c = 0; c < chambers.length; c++) {
            chambers[c] = new Heap();
        }
        trial = new Tick(1, 1, 1);
        wind = FIRST_WIND;
    }

    // ---- sacks

    public int addSack(int damp) throws IllegalArgumentException, IllegalStateException {
        needRange(damp, 0, MOST_DAMP);
        if (sacks.size() >= MOST_SACKS) {
            throw new IllegalStateException("no more sacks");
        }
        sacks.add(new Sack(damp));
        return sacks.size() - 1;
    }

    public int put(int sack, int size, int many)
            throws IndexOutOfBoundsException, IllegalArgumentException, IllegalStateException {
        Heap heap = needSack(sack).heap;
        needIndex(size, SIZES);
        needRange(many, 1, MOST_IN_SACK);
        if (heap.of(size) + many > MOST_IN_SACK) {
            throw new IllegalStateException("more than the sack may have");
        }
        heap.change(size, many);
        return heap.of(size);
    }

    public int dry(int sack, int hours) throws IndexOutOfBoundsException, IllegalArgumentException {
        Sack dried = needSack(sack);
        needRange(hours, 1, MOST_DAMP);
        dried.damp = Math.max(0, dried.damp - hours);
        return dried.damp;
    }

    public int sack(int sack, int what) throws IndexOutOfBoundsException {
        Sack told = needSack(sack);
        needIndex(what, SACK_TELLS);
        return told.tells(what);
    }

    // ---- the tower

    public int setWind(int strength) throws IllegalArgumentException {
        needRange(strength, 1, MOST_WIND);
        int before = wind;
        wind = strength;
        return before;
    }

    public int blow(int sack) throws IndexOutOfBoundsException {
        Sack blown = needSack(sack);
        int fallen = 0;
        for (int size = 0; size < SIZES; size++) {
            for (int c = 0; c < chambers.length; c++) {
                int many = blown.brings(size, wind, c);
                chambers[c].change(size, many);
                fallen += many;
            }
            lostInYard += blown.brings(size, wind, YARD);
            int staying = blown.brings(size, wind, IN_SACK);
            blown.heap.change(size, staying - blown.heap.of(size));
        }
        return fallen;
    }

    public int sweep(int chamber, int sack) throws IndexOutOfBoundsException {
        Heap swept = needChamber(chamber);
        Heap into = needSack(sack).heap;
        int moved = 0;
        for (int size = 0; size < SIZES; size++) {
            int many = Math.min(swept.of(size), MOST_IN_SACK - into.of(size));
            swept.change(size, -many);
            into.change(size, many);
            moved += many;
        }
        return moved;
    }

    public int chamber(int chamber, int what) throws IndexOutOfBoundsException {
        Heap told = needChamber(chamber);
        needIndex(what, CHAMBER_TELLS);
        return chamberTells(told, what);
    }

    public int bestWind(int sack, int chamber, int size) throws IndexOutOfBoundsException {
        Sack tried = needSack(sack);
        needIndex(chamber, CHAMBERS);
        needIndex(size, SIZES);
        int best = -1;
        int bestMany = 0;
        int bestAll = 1;
        for (int strength = 1; strength <= MOST_WIND; strength++) {
            int many = tried.brings(size, strength, chamber);
            int all = tried.bringsInAll(strength, chamber);
            if (many * bestAll > bestMany * all) {
                best = strength;
                bestMany = many;
                bestAll = all;
            }
        }
        return best;
    }

    // ---- ticks

    public int addTick(int columns, int rows, int density) throws IllegalArgumentException, IllegalStateException {
        needRange(columns, 1, MOST_COLUMNS);
        needRange(rows, 1, MOST_COLUMNS);
        needRange(density, 1, MOST_DENSITY);
        if (ticks.size() >= MOST_TICKS) {
            throw new IllegalStateException("no more ticks");
        }
        ticks.add(new Tick(columns, rows, density));
        return ticks.size() - 1;
    }

    public int sew(int tick, int square, int direction, boolean isSewn)
            throws IndexOutOfBoundsException, IllegalArgumentException {
        Tick sewnTick = needTick(tick);
        needIndex(square, sewnTick.squares);
        if (sewnTick.otherOfPair(square, direction) < 0) {
            throw new IllegalArgumentException("no square in this direction");
        }
        sewnTick.setSeam(square, direction, isSewn);
        return sewnTick.openPairs();
    }

    public int fill(int tick, int square, int chamber, int many)
            throws IndexOutOfBoundsException, IllegalArgumentException {
        Heap filledSquare = needSquare(needTick(tick), square);
        Heap from = needChamber(chamber);
        needRange(many, 1, MOST_IN_SQUARE);
        return moveByHand(from, filledSquare, many);
    }

    public int shift(int tick, int from, int to, int many)
            throws IndexOutOfBoundsException, IllegalArgumentException {
        Tick shifted = needTick(tick);
        Heap source = needSquare(shifted, from);
        Heap target = needSquare(shifted, to);
        if (from == to) {
            throw new IllegalArgumentException("both squares are the same");
        }
        needRange(many, 1, MOST_IN_SQUARE);
        return moveByHand(source, target, many);
    }

    public int square(int tick, int square, int what) throws IndexOutOfBoundsException {
        Tick told = needTick(tick);
        needIndex(square, told.squares);
        needIndex(what, SQUARE_TELLS);
        return told.squareTells(square, what);
    }

    public int tick(int tick, int what) throws IndexOutOfBoundsException {
        Tick told = needTick(tick);
        needIndex(what, TICK_TELLS);
        return told.tells(what);
    }

    // ---- nights

    public int pass(int nights) throws IllegalArgumentException {
        needRange(nights, 1, MOST_NIGHTS);
        int lost = 0;
        for (int t = 0; t < ticks.size(); t++) {
            lost += ticks.get(t).sleep(nights);
        }
        nightsGone += nights;
        lostByPricking += lost;
        return lost;
    }

    public int count(int what) throws IndexOutOfBoundsException {
        needIndex(what, COUNT_TELLS);
        return countTells(what);
    }

    public int foresee(int tick, int nights, int what) throws IndexOutOfBoundsException, IllegalArgumentException {
        Tick seen = needTick(tick);
        needIndex(what, FORESEE_TELLS);
        needRange(nights, 1, MOST_NIGHTS);
        trial.become(seen);
        trial.sleep(nights);
        switch (what) {
            case 0:
                return trial.feathers();
            case 1:
                return trial.coldestWarmth();
            default:
                return trial.coldestSquare();
        }
    }

    public int lasts(int tick, int warmth) throws IndexOutOfBoundsException, IllegalArgumentException {
        Tick seen = needTick(tick);
        needRange(warmth, 0, MOST_WARMTH);
        trial.become(seen);
        for (int nights = 0; nights <= MOST_NIGHTS; nights++) {
            if (trial.coldestWarmth() < warmth) {
                return nights;
            }
            trial.sleep(1);
        }
        return -1;
    }

    public int advise(int tick, int nights) throws IndexOutOfBoundsException, IllegalArgumentException {
        Tick seen = needTick(tick);
        needRange(nights, 1, MOST_NIGHTS_ADVISED);
        trial.become(seen);
        trial.sleep(nights);
        int warmest = trial.coldestWarmth();
        int best = -1;
        for (int square = 0; square < seen.squares; square++) {
            for (int direction = 0; direction < DIRECTIONS; direction++) {
                if (seen.isOpen(square, direction)) {
                    int warmth = warmthIfSewn(seen, square, direction, nights);
                    if (warmth > warmest) {
                        warmest = warmth;
                        best = DIRECTIONS * square + direction;
                    }
                }
            }
        }
        return best;
    }

    public double filled() {
        int inTicks = inTicks();
        int all = inSacks() + inChambers() + inTicks;
        return all > 0 ? (double) inTicks / (double) all : 0.0;
    }

    public long digest() {
        long d = DIGEST_START;
        for (int what = 0; what < COUNT_TELLS; what++) {
            d = d * DIGEST_FACTOR + countTells(what);
        }
        for (int s = 0; s < sacks.size(); s++) {
            for (int what = 0; what < SACK_TELLS; what++) {
                d = d * DIGEST_FACTOR + sacks.get(s).tells(what);
            }
        }
        for (int c = 0; c < chambers.length; c++) {
            for (int what = 0; what < CHAMBER_TELLS; what++) {
                d = d * DIGEST_FACTOR + chamberTells(chambers[c], what);
            }
        }
        for (int t = 0; t < ticks.size(); t++) {
            d = digestOfTick(d, ticks.get(t));
        }
        return d;
    }

    // ---- what the methods above share

    private static void needRange(int number, int least, int most) throws IllegalArgumentException {
        if (number < least || number > most) {
            throw new IllegalArgumentException("a number is out of its range");
        }
    }

    private static void needIndex(int index, int length) throws IndexOutOfBoundsException {
        if (index < 0 || index >= length) {
            throw new IndexOutOfBoundsException("there is none of this number");
        }
    }

    private Sack needSack(int number) throws IndexOutOfBoundsException {
        if (number < 0 || number >= sacks.size()) {
            throw new IndexOutOfBoundsException("no such sack");
        }
        return sacks.get(number);
    }

    private Heap needChamber(int number) throws IndexOutOfBoundsException {
        if (number < 0 || number >= chambers.length) {
            throw new IndexOutOfBoundsException("no such chamber");
        }
        return chambers[number];
    }

    private Tick needTick(int number) throws IndexOutOfBoundsException {
        if (number < 0 || number >= ticks.size()) {
            throw new IndexOutOfBoundsException("no such tick");
        }
        return ticks.get(number);
    }

    private static Heap needSquare(Tick tick, int number) throws IndexOutOfBoundsException {
        if (number < 0 || number >= tick.squares || number >= tick.heaps.length) {
            throw new IndexOutOfBoundsException("no such square");
        }
        return tick.heaps[number];
    }

    /** Moves feathers into a square, as far as it has room for them. */
    private static int moveByHand(Heap from, Heap square, int many) {
        return from.moveTo(square, Math.min(many, MOST_IN_SQUARE - square.all), SIZES);
    }

    private static int chamberTells(Heap heap, int what) {
        if (what < SIZES) {
            return heap.of(what);
        }
        switch (what) {
            case 6:
                return heap.all;
            case 7:
                return heap.mostFrequentSize();
            default:
                return heap.purity();
        }
    }

    private int countTells(int what) {
        switch (what) {
            case 0:
                return nightsGone;
            case 1:
                return sacks.size();
            case 2:
                return ticks.size();
            case 3:
                return inSacks();
            case 4:
                return inChambers();
            case 5:
                return inTicks();
            case 6:
                return lostInYard;
            case 7:
                return lostByPricking;
            default:
                return wind;
        }
    }

    private int inSacks() {
        int all = 0;
        for (int s = 0; s < sacks.size(); s++) {
            all += sacks.get(s).heap.all;
        }
        return all;
    }

    private int inChambers() {
        int all = 0;
        for (int c = 0; c < chambers.length; c++) {
            all += chambers[c].all;
        }
        return all;
    }

    private int inTicks() {
        int all = 0;
        for (int t = 0; t < ticks.size(); t++) {
            all += ticks.get(t).feathers();
        }
        return all;
    }

    private int warmthIfSewn(Tick tick, int square, int direction, int nights) {
        trial.become(tick);
        trial.setSeam(square, direction, true);
        trial.sleep(nights);
        return trial.coldestWarmth();
    }

    private static long digestOfTick(long start, Tick tick) {
        long d = start;
        for (int what = 0; what < TICK_TELLS; what++) {
            d = d * DIGEST_FACTOR + tick.tells(what);
        }
        for (int square = 0; square < tick.squares; square++) {
            for (int what = 0; what < SQUARE_TELLS; what++) {
                d = d * DIGEST_FACTOR + tick.squareTells(square, what);
            }
        }
        return d;
    }

    /** How many feathers of each size lie together. */
    private static final class Heap {
        private final int[] ofSize;
        private int all;

        Heap() {
            ofSize = new int[SIZES];
        }

        int of(int size) {
            return size >= 0 && size < ofSize.length ? ofSize[size] : 0;
        }

        void change(int size, int by) {
            if (size >= 0 && size < ofSize.length) {
                ofSize[size] += by;
                all += by;
            }
        }

        void become(Heap other) {
            for (int size = 0; size < SIZES; size++) {
                change(size, other.of(size) - of(size));
            }
        }

        /** Moves the smallest feathers first, and none but those of the first so many sizes. */
        int moveTo(Heap other, int many, int sizes) {
            int moved = 0;
            for (int size = 0; size < sizes; size++) {
                int now = Math.min(of(size), many - moved);
                change(size, -now);
                other.change(size, now);
                moved += now;
            }
            return moved;
        }

        int warmth() {
            int sum = 0;
            for (int size = 0; size < ofSize.length; size++) {
                sum += (SIZES - size) * ofSize[size];
            }
            return Math.min(sum, MOST_WARMTH);
        }

        /** The smallest of the sizes of which there are the most, -1 in an empty heap. */
        int mostFrequentSize() {
            int found = -1;
            for (int size = 0; size < SIZES; size++) {
                if (of(size) > of(found)) {
                    found = size;
                }
            }
            return found;
        }

        /** How many of 100 feathers are of the size of which there are the most. */
        int purity() {
            return all > 0 ? 100 * of(mostFrequentSize()) / all : 0;
        }

        /** Takes away what pricks through a cloth of this density in one night. */
        int prick(int density) {
            int lost = 0;
            for (int size = 0; size < SIZES; size++) {
                int sharpness = 2 * size - density;
                if (sharpness > 0) {
                    int now = of(size) * sharpness / 30;
                    change(size, -now);
                    lost += now;
                }
            }
            return lost;
        }
    }

    /** A heap that is damp. */
    private static final class Sack {
        private final Heap heap;
        private int damp;

        Sack(int dampAtFirst) {
            heap = new Heap();
            damp = dampAtFirst;
        }

        int tells(int what) {
            if (what < SIZES) {
                return heap.of(what);
            }
            return what == 6 ? heap.all : damp;
        }

        /** The chamber to which feathers of a size fly. */
        int flight(int size, int strength) {
            int weight = (size + 1) * (4 + damp);
            int far = CHAMBERS - 1;
            return weight > 0 ? Math.min(strength * 12 / weight, far) : far;
        }

        /** How many feathers of a size would come to lie in a place: a chamber, IN_SACK or YARD. */
        int brings(int size, int strength, int place) {
            int many = heap.of(size);
            int middle = flight(size, strength);
            int falling = many * 6 / 10;
            int behind = many / 4;
            if (place == middle) {
                return falling;
            }
            if (place == middle + 1) {
                return behind;
            }
            return place == middle - 1 ? many - falling - behind : 0;
        }

        int bringsInAll(int strength, int place) {
            int sum = 0;
            for (int size = 0; size < SIZES; size++) {
                sum += brings(size, strength, place);
            }
            return sum;
        }
    }

    /** Squares of cloth, filled with feathers and parted by seams. */
    private static final class Tick {
        private int columns;
        private int rows;
        private int density;
        private int squares;
        private final Heap[] heaps;
        /** Whether there is a seam, at 2 * the square and the direction. */
        private final boolean[] sewn;
        /** The part in which each square lies, written anew whenever parts are counted. */
        private final int[] partOf;

        Tick(int columnsAtFirst, int rowsAtFirst, int densityAtFirst) {
            columns = columnsAtFirst;
            rows = rowsAtFirst;
            density = densityAtFirst;
            squares = columnsAtFirst * rowsAtFirst;
            // as many as the greatest tick needs, so that one tick can become any other
            heaps = new Heap[MOST_SQUARES];
            for (int square = 0; square < heaps.length; square++) {
                heaps[square] = new Heap();
            }
            sewn = new boolean[MOST_SQUARES * DIRECTIONS];
            partOf = new int[MOST_SQUARES];
        }

        void become(Tick other) {
            columns = other.columns;
            rows = other.rows;
            density = other.density;
            squares = other.squares;
            for (int square = 0; square < heaps.length && square < other.heaps.length; square++) {
                heaps[square].become(other.heaps[square]);
            }
            for (int seam = 0; seam < sewn.length && seam < other.sewn.length; seam++) {
                sewn[seam] = other.sewn[seam];
            }
        }

        /** The square to the right or below, -1 if there is none. */
        int otherOfPair(int square, int direction) {
            if (square < 0 || square >= squares || columns < 1) {
                return -1;
            }
            if (direction == RIGHT) {
                return square % columns + 1 < columns ? square + 1 : -1;
            }
            return direction == BELOW && square + columns < squares ? square + columns : -1;
        }

        boolean isOpen(int square, int direction) {
            int seam = DIRECTIONS * square + direction;
            return otherOfPair(square, direction) >= 0 && seam >= 0 && seam < sewn.length && !sewn[seam];
        }

        void setSeam(int square, int direction, boolean isSewn) {
            int seam = DIRECTIONS * square + direction;
            if (seam >= 0 && seam < sewn.length) {
                sewn[seam] = isSewn;
            }
        }

        int openPairs() {
            int open = 0;
            for (int square = 0; square < squares; square++) {
                for (int direction = 0; direction < DIRECTIONS; direction++) {
                    open += isOpen(square, direction) ? 1 : 0;
                }
            }
            return open;
        }

        int parts() {
            for (int square = 0; square < partOf.length; square++) {
                partOf[square] = square;
            }
            int parts = squares;
            for (int square = 0; square < squares; square++) {
                for (int direction = 0; direction < DIRECTIONS; direction++) {
                    if (isOpen(square, direction) && joinParts(square, otherOfPair(square, direction))) {
                        parts--;
                    }
                }
            }
            return parts;
        }

        /** Makes the parts of two squares one; tells whether they were two. */
        boolean joinParts(int first, int second) {
            if (first < 0 || first >= partOf.length || second < 0 || second >= partOf.length) {
                return false;
            }
            int kept = partOf[first];
            int dropped = partOf[second];
            if (kept == dropped) {
                return false;
            }
            for (int square = 0; square < partOf.length; square++) {
                if (partOf[square] == dropped) {
                    partOf[square] = kept;
                }
            }
            return true;
        }

        int feathers() {
            int sum = 0;
            for (int square = 0; square < heaps.length; square++) {
                sum += heaps[square].all;
            }
            return sum;
        }

        int warmthInAll() {
            int sum = 0;
            for (int square = 0; square < heaps.length; square++) {
                sum += heaps[square].warmth();
            }
            return sum;
        }

        int warmthAt(int square) {
            return square >= 0 && square < heaps.length ? heaps[square].warmth() : 0;
        }

        int coldestSquare() {
            int coldest = 0;
            for (int square = 1; square < squares; square++) {
                if (warmthAt(square) < warmthAt(coldest)) {
                    coldest = square;
                }
            }
            return coldest;
        }

        int coldestWarmth() {
            return warmthAt(coldestSquare());
        }

        int tells(int what) {
            switch (what) {
                case 0:
                    return columns;
                case 1:
                    return rows;
                case 2:
                    return density;
                case 3:
                    return feathers();
                case 4:
                    return warmthInAll();
                case 5:
                    return coldestWarmth();
                case 6:
                    return coldestSquare();
                case 7:
                    return openPairs();
                default:
                    return parts();
            }
        }

        int squareTells(int square, int what) {
            if (square < 0 || square >= heaps.length) {
                return 0;
            }
            if (what < SIZES) {
                return heaps[square].of(what);
            }
            switch (what) {
                case 6:
                    return heaps[square].all;
                case 7:
                    return heaps[square].warmth();
                case 8:
                    return isOpen(square, RIGHT) ? 1 : 0;
                default:
                    return isOpen(square, BELOW) ? 1 : 0;
            }
        }

        /** Lets nights go by; tells how many feathers were lost in them. */
        int sleep(int nights) {
            int lost = 0;
            for (int night = 0; night < nights; night++) {
                int pricked = prickInAll();
                int shifted = shiftInAll();
                lost += pricked;
                if (pricked == 0 && shifted == 0) {
                    // a night that changes nothing is followed by none that does
                    return lost;
                }
            }
            return lost;
        }

        int prickInAll() {
            int lost = 0;
            for (int square = 0; square < heaps.length; square++) {
                lost += heaps[square].prick(density);
            }
            return lost;
        }

        int shiftInAll() {
            int shifted = 0;
            for (int square = 0; square < squares; square++) {
                for (int direction = 0; direction < DIRECTIONS; direction++) {
                    if (isOpen(square, direction)) {
                        shifted += shiftBetween(square, otherOfPair(square, direction));
                    }
                }
            }
            return shifted;
        }

        int shiftBetween(int first, int second) {
            if (first < 0 || first >= heaps.length || second < 0 || second >= heaps.length) {
                return 0;
            }
            int difference = heaps[first].all - heaps[second].all;
            return difference > 0
                    ? heaps[first].moveTo(heaps[second], difference / 8, SHIFTING_SIZES)
                    : heaps[second].moveTo(heaps[first], -difference / 8, SHIFTING_SIZES);
        }
    }
}
