import java.util.function.ToIntFunction;

/**
 * The sentences of REFUSALS for each call that refuses: which refusal is told where several fit, and
 * that what is refused changes nothing; and that what only asks changes nothing either. Two objects
 * are used alike, but for the looked-at call on one of them: all that they tell then must be like.
 */
public final class RefusalsTest extends Edges {
    private static final int USED = 0, CROWDED = 1, FRESH = 2, STATES = 3;

    public static void main(String[] args) {
        refusedOfTheBazaar();
        refusedOfActs();
        refusedOfCounsel();
        refusedOfChances();
        refusedWhenFull();
        refusedWhenEmpty();
        onlyAsked();
        feastsChangeTheSeedAlone();
        end("RefusalsTest", 4, 17);
    }

    /** A bazaar with something of all that can change, and a text of which it was not made. */
    private static FoilBazaar used() {
        FoilBazaar x = of(FOUR);
        x.meet(1, 0);
        x.keep(0);
        x.salute(2, 5);
        x.step(0);
        x.see(0, 1);
        x.see(3, 2);
        x.seed(-7);
        x.wipe();
        write(x, "BF1wlpF0lllG1");
        return x;
    }

    /** A bazaar with as much of all as there can be. */
    private static FoilBazaar crowded() {
        FoilBazaar x = of(LARGEST);
        x.keep(1);
        for (int k = 0; k < 16; k++) {
            x.salute(k % 6, 9);
            x.step(k % 5);
            x.see(k % 6, 3);
        }
        x.seed(9);
        write(x, "xxxxxx");
        return x;
    }

    /** All that an object tells; what it keeps and what its text is are told by going on with them. */
    private static String taleOf(FoilBazaar x) {
        StringBuilder tale = new StringBuilder(" ");
        long seed = x.seed(0);
        x.seed(seed);
        tale.append(seed).append(' ').append(x.fault());
        tellNow(x, tale);
        tale.append(' ').append(x.masks(0)).append(' ').append(x.masks(1));
        for (int k = 0; k < 15; k++) {
            tale.append(" undo ").append(x.undo()).append(' ').append(x.count(3) * 100 + x.count(5));
        }
        tellNow(x, tale);
        for (int slot = 0; slot < 2; slot++) {
            tale.append(" again ").append(x.again(slot));
            tellNow(x, tale);
        }
        tale.append(" bazaar ").append(x.bazaar());
        x.write('7');
        tale.append(" bazaar ").append(x.bazaar());
        tellNow(x, tale);
        return tale.toString();
    }

    private static void tellNow(FoilBazaar x, StringBuilder tale) {
        for (int what = 0; what <= 9; what++) {
            tale.append(' ').append(x.count(what));
        }
        for (int f = 0; f < x.count(1); f++) {
            for (int what = 0; what <= 3; what++) {
                tale.append(' ').append(x.fencer(f, what));
            }
        }
        for (int g = 0; g < x.count(2); g++) {
            tale.append(' ').append(x.good(g, 0)).append(' ').append(x.good(g, 1)).append(' ').append(x.good(g, 2));
        }
    }

    private static FoilBazaar inState(int state) {
        return state == USED ? used() : state == CROWDED ? crowded() : of(FOUR);
    }

    private static void changesNothing(int state, String name, ToIntFunction<FoilBazaar> call, int want) {
        FoilBazaar x = inState(state);
        due(name + " in state " + state, call.applyAsInt(x), want);
        due(name + " in state " + state + " again", call.applyAsInt(x), want);
        dueLike("after " + name + " in state " + state, x, inState(state));
    }

    private static void dueLike(String when, FoilBazaar x, FoilBazaar untouched) {
        String got = taleOf(x);
        String want = taleOf(untouched);
        due(when + " it told" + got + ", without it" + want, got.equals(want) ? 1 : 0, 1);
    }

    private static void refused(int promise, String name, ToIntFunction<FoilBazaar> call, int want) {
        edge(promise, "What is refused changes nothing.");
        for (int state = 0; state < STATES; state++) {
            changesNothing(state, name, call, want);
        }
    }

    private static void refusedIn(int state, int promise, String name, ToIntFunction<FoilBazaar> call, int want) {
        edge(promise, "REFUSALS, of several the first that a call names");
        changesNothing(state, name, call, want);
    }

    private static void refusedOfTheBazaar() {
        refused(2, "write(-1)", x -> x.write(-1), OUTSIDE);
        refused(2, "write(256)", x -> x.write(256), OUTSIDE);
        refused(6, "fencer(-1, -1)", x -> x.fencer(-1, -1), UNKNOWN);
        refused(6, "fencer(6, 0)", x -> x.fencer(6, 0), UNKNOWN);
        refused(6, "fencer(0, 6)", x -> x.fencer(0, 6), OUTSIDE);
        refused(7, "good(5, 5)", x -> x.good(5, 5), UNKNOWN);
        refused(7, "good(0, 3)", x -> x.good(0, 3), OUTSIDE);
        refused(8, "bout(6, 6, 3)", x -> x.bout(6, 6, 3), UNKNOWN);
        refused(8, "bout(0, 0, 3)", x -> x.bout(0, 0, 3), OUTSIDE);
        refused(8, "bout(0, 1, 3)", x -> x.bout(0, 1, 3), OUTSIDE);
        refused(9, "cost(6, 0)", x -> x.cost(6, 0), UNKNOWN);
        refused(9, "cost(0, 5)", x -> x.cost(0, 5), UNKNOWN);
        refused(9, "cost(1, 1)", x -> x.cost(1, 1), STATE);
    }

    private static void refusedOfActs() {
        refused(10, "meet(6, 0)", x -> x.meet(6, 0), UNKNOWN);
        refused(10, "meet(0, 5)", x -> x.meet(0, 5), UNKNOWN);
        refused(10, "meet(-1, -1)", x -> x.meet(-1, -1), UNKNOWN);
        refused(10, "meet(1, 1)", x -> x.meet(1, 1), STATE);
        refused(11, "step(6)", x -> x.step(6), UNKNOWN);
        refused(11, "step(-1)", x -> x.step(-1), UNKNOWN);
        refused(12, "salute(6, 0)", x -> x.salute(6, 0), UNKNOWN);
        refused(12, "salute(0, 0)", x -> x.salute(0, 0), OUTSIDE);
        refused(12, "salute(0, 10)", x -> x.salute(0, 10), OUTSIDE);
    }

    private static void refusedOfCounsel() {
        refused(14, "chain(6, 0, 2)", x -> x.chain(6, 0, 2), UNKNOWN);
        refused(14, "chain(0, 5, 2)", x -> x.chain(0, 5, 2), UNKNOWN);
        refused(14, "chain(0, 0, 2)", x -> x.chain(0, 0, 2), OUTSIDE);
        refused(15, "order(2)", x -> x.order(2), OUTSIDE);
        refused(16, "judge(0, 110)", x -> x.judge(0, 110), OUTSIDE);
        refused(16, "judge(5, 110)", x -> x.judge(5, 110), OUTSIDE);
        refused(16, "judge(1, 1000)", x -> x.judge(1, 1000), OUTSIDE);
        refused(16, "judge(1, -1)", x -> x.judge(1, -1), OUTSIDE);
        refused(17, "see(6, 10)", x -> x.see(6, 10), UNKNOWN);
        refused(17, "see(0, 10)", x -> x.see(0, 10), OUTSIDE);
        refused(17, "see(0, -1)", x -> x.see(0, -1), OUTSIDE);
        refused(19, "masks(2)", x -> x.masks(2), OUTSIDE);
    }

    private static void refusedOfChances() {
        refused(20, "share(6, true)", x -> x.share(6, true), UNKNOWN);
        refused(20, "share(-1, false)", x -> x.share(-1, false), UNKNOWN);
        refused(21, "rests(6, 6, 2)", x -> x.rests(6, 6, 2), UNKNOWN);
        refused(21, "rests(0, 0, 0)", x -> x.rests(0, 0, 0), OUTSIDE);
        refused(21, "rests(0, 1, 2)", x -> x.rests(0, 1, 2), OUTSIDE);
        refused(22, "clouded(6, 6, 11, true)", x -> x.clouded(6, 6, 11, true), UNKNOWN);
        refused(22, "clouded(0, 0, 0, false)", x -> x.clouded(0, 0, 0, false), OUTSIDE);
        refused(22, "clouded(0, 1, 11, true)", x -> x.clouded(0, 1, 11, true), OUTSIDE);
        refused(24, "feasts(0)", x -> x.feasts(0), OUTSIDE);
        refused(24, "feasts(31)", x -> x.feasts(31), OUTSIDE);
        refused(25, "keep(2)", x -> x.keep(2), UNKNOWN);
        refused(25, "keep(-1)", x -> x.keep(-1), UNKNOWN);
        refused(26, "again(2)", x -> x.again(2), UNKNOWN);
        refused(26, "again(-1)", x -> x.again(-1), UNKNOWN);
        refused(27, "count(10)", x -> x.count(10), OUTSIDE);
        refused(27, "count(far)", x -> x.count(Integer.MAX_VALUE), OUTSIDE);
    }

    private static void refusedWhenFull() {
        refusedIn(CROWDED, 2, "write(66) when full", x -> x.write(66), FULL);
        refusedIn(CROWDED, 2, "write(256) when full", x -> x.write(256), OUTSIDE);
        refusedIn(CROWDED, 5, "bazaar() of too many letters", x -> x.bazaar(), STATE);
        refusedIn(CROWDED, 17, "see(0, 3) when full", x -> x.see(0, 3), FULL);
        refusedIn(CROWDED, 17, "see(0, 10) when full", x -> x.see(0, 10), OUTSIDE);
        refusedIn(CROWDED, 17, "see(6, 10) when full", x -> x.see(6, 10), UNKNOWN);
        refusedIn(CROWDED, 26, "again(0) when 1 was kept", x -> x.again(0), STATE);
        refusedIn(USED, 26, "again(1) when 0 was kept", x -> x.again(1), STATE);
        refusedIn(USED, 5, "bazaar() of a text not at its end", x -> x.bazaar(), STATE);
    }

    private static void refusedWhenEmpty() {
        refusedIn(FRESH, 13, "undo() of no ACTS", x -> x.undo(), STATE);
        refusedIn(FRESH, 26, "again(0) when none were kept", x -> x.again(0), STATE);
        refusedIn(FRESH, 26, "again(1) when none were kept", x -> x.again(1), STATE);
    }

    private static void asked(int promise, String name, ToIntFunction<FoilBazaar> call) {
        edge(promise, "In what follows nothing is changed.");
        for (int state = 0; state < STATES; state++) {
            changesNothing(state, name, call, call.applyAsInt(inState(state)));
        }
    }

    private static void onlyAsked() {
        asked(4, "fault()", x -> x.fault());
        asked(6, "fencer(0, 5)", x -> x.fencer(0, 5));
        asked(7, "good(0, 0)", x -> x.good(0, 0));
        asked(8, "bout(0, 1, 2)", x -> x.bout(0, 1, 2));
        asked(9, "cost(2, 0)", x -> x.cost(2, 0));
        asked(14, "chain(3, 0, 1)", x -> x.chain(3, 0, 1));
        asked(15, "order(1)", x -> x.order(1));
        asked(16, "judge(4, 110309201500)", x -> x.judge(4, 110309201500L));
        asked(16, "judge(3, 120201309)", x -> x.judge(3, 120201309L));
        asked(19, "masks(0)", x -> x.masks(0));
        asked(20, "share(1, true)", x -> x.share(1, true));
        asked(21, "rests(0, 1, 0)", x -> x.rests(0, 1, 0));
        asked(22, "clouded(0, 1, 3, true)", x -> x.clouded(0, 1, 3, true));
        asked(27, "count(7)", x -> x.count(7));
    }

    private static void feastsChangeTheSeedAlone() {
        edge(24, "(Nothing changes but THE SEED.)");
        for (int state = 0; state < STATES; state++) {
            FoilBazaar x = inState(state);
            FoilBazaar untouched = inState(state);
            for (int k = 0; k < 10; k++) {
                x.feasts(30);
            }
            x.seed(0);
            untouched.seed(0);
            dueLike("after feasts in state " + state, x, untouched);
        }
    }
}
