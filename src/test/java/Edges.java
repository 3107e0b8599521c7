import java.util.Arrays;
import java.util.function.Supplier;

/** Tests of single sentences of the document, each told by the sentence that it would see broken. */
final class Edges {
    /** One test: it makes its own objects. */
    interface Edge {
        void look(Check c);
    }

    private static final long[] FAR = {Integer.MIN_VALUE, Integer.MAX_VALUE};

    private final Document document;
    private int looked;
    private int broken;

    Edges(Document document) {
        this.document = document;
    }

    /** The words stand in the document's section (a heading, or the first words of one). */
    void of(String section, String words, Edge edge) {
        looked++;
        document.quote(section, words);
        Check c = new Check();
        edge.look(c);
        if (c.wrong() != 0 || c.asked() == 0) {
            broken++;
            System.out.println("broken: " + section + ": " + words);
        }
    }

    int looked() {
        return looked;
    }

    int broken() {
        return broken;
    }

    /** The call is refused, and all that is told then is what an object tells that was not asked. */
    static void refused(Check c, long want, Supplier<StoneRiver> world, String name, long... args) {
        StoneRiver asked = world.get();
        c.due(want, asked, name, args);
        c.same("what is told after the refused " + Check.told(name, args), 1,
                Arrays.equals(Worlds.tell(asked), Worlds.tell(world.get())) ? 1 : 0);
    }

    /** The number at that place of the good ones is taken from least to most, and refused beyond. */
    static void range(Check c, long bad, String name, long[] good, int at, long least, long most) {
        range(c, bad, Worlds::some, name, good, at, least, most);
    }

    static void range(Check c, long bad, Supplier<StoneRiver> world, String name, long[] good, int at, long least,
            long most) {
        for (long v : new long[] {least, most}) {
            String call = Check.told(name, with(good, at, v));
            c.same(call + " is taken", 1, Check.call(world.get(), name, with(good, at, v)) == bad ? 0 : 1);
        }
        refused(c, bad, world, name, with(good, at, least - 1));
        refused(c, bad, world, name, with(good, at, most + 1));
        for (long far : FAR) {
            refused(c, bad, world, name, with(good, at, far));
        }
    }

    private static long[] with(long[] good, int at, long v) {
        long[] args = good.clone();
        args[at] = v;
        return args;
    }
}
