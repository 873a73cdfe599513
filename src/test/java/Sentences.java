import java.util.ArrayList;
import java.util.List;

/**
 * Checks of the document's sentences that name a boundary case. A check belongs to the sentence that was
 * said last, and is told with its promise and its words.
 */
final class Sentences {
    /** Brings an object into the state that a test begins with, by always the same calls. */
    interface Maker {
        FeatherBeds make();
    }

    interface Call {
        double on(FeatherBeds x);
    }

    private final Checks checks = new Checks();
    private final List<String[]> said = new ArrayList<>();
    private int checked = 1;

    /** From here on it is about this sentence of a promise. */
    void promise(int number, String words) {
        says("Promise " + number, words);
    }

    /** From here on it is about this sentence of "Terms". */
    void terms(String words) {
        says("Terms", words);
    }

    void says(String section, String words) {
        testOfBefore();
        said.add(new String[] {section, words});
        checked = 0;
    }

    private void testOfBefore() {
        checks.isTrue("a sentence with a check of its own: " + name(), checked > 0);
    }

    private String name() {
        if (said.isEmpty()) {
            return "none";
        }
        String[] now = said.get(said.size() - 1);
        return now[0] + ", \"" + now[1] + "\"";
    }

    void due(String call, double got, double want) {
        checked++;
        checks.due(name() + ": " + call, got, want);
    }

    void due(String call, long got, long want) {
        checked++;
        checks.due(name() + ": " + call, got, want);
    }

    void same(String call, String got, String want) {
        checked++;
        checks.isTrue(name() + ": " + call + " is " + got + ", due is " + want + "; this", got.equals(want));
    }

    void isTrue(String call, boolean holds) {
        checked++;
        checks.isTrue(name() + ": " + call, holds);
    }

    /**
     * The call throws exactly this exception, by a throw of the class and not by the machine; what can be
     * told of the object is as it was.
     */
    void refused(Maker maker, Class<? extends RuntimeException> due, String what, Call call) {
        checked++;
        FeatherBeds x = maker.make();
        Class<?> thrown = null;
        try {
            call.on(x);
        } catch (RuntimeException e) {
            thrown = e.getClass();
            String thrower = e.getStackTrace()[0].getClassName();
            checks.isTrue(name() + ": " + what + ", thrown by " + thrower + "; that the class itself throws",
                    thrower.startsWith("FeatherBeds"));
        }
        checks.isTrue(name() + ": " + what + " threw " + thrown + ", due is " + due + "; this", thrown == due);
        asBefore(maker, what + ", refused", x);
    }

    void noIndex(Maker maker, String what, Call call) {
        refused(maker, IndexOutOfBoundsException.class, what, call);
    }

    void noArgument(Maker maker, String what, Call call) {
        refused(maker, IllegalArgumentException.class, what, call);
    }

    void noState(Maker maker, String what, Call call) {
        refused(maker, IllegalStateException.class, what, call);
    }

    /** The call answers this, and what can be told of the object is as it was. */
    void unchanged(Maker maker, String what, Call call, double want) {
        FeatherBeds x = maker.make();
        due(what, call.on(x), want);
        asBefore(maker, what, x);
    }

    private void asBefore(Maker maker, String what, FeatherBeds x) {
        String before = Beds.picture(maker.make());
        String after = Beds.picture(x);
        checks.isTrue(name() + ": " + what + ", then " + after + ", before " + before + "; this", after.equals(before));
    }

    /** Whole numbers that are not from least to most: those beside them, and those far from them. */
    static int[] outside(int least, int most) {
        return new int[] {least - 1, most + 1, least - 100, most + 100, least - 65536, most + 65536,
            Integer.MIN_VALUE, Integer.MAX_VALUE};
    }

    /** The same for numbers of things of which there are so many now, and could be more. */
    static int[] noneOf(int count, int room) {
        return new int[] {-1, count, count + 1, room - 1, room, -count, -65536, 65536, Integer.MIN_VALUE,
            Integer.MAX_VALUE};
    }

    void end() {
        testOfBefore();
        Document document = Document.read();
        if (document == null) {
            System.out.println("no ../shared/DOC.md here; the sentences are not compared with it");
        } else {
            for (String wrong : document.wrongOnes(said)) {
                checks.isTrue(wrong, false);
            }
        }
        System.out.println(said.size() + " sentences");
        checks.end();
    }
}
