/** Each promise of the document by runs whose answers were reckoned by hand. */
public final class PromisesTest {
    private static final int UNKNOWN = -1, OUTSIDE = -2, STATE = -3, FULL = -4, NONE = -9;

    // hits of the pairs: 0:1 is 1:3, 0:2 is 3:2, 0:3 is 3:1, 1:2 is 3:2, 1:3 is 3:2, 2:3 is 0:3
    private static final String FOUR = "BF0llpF1lwfF2pppF3fplG03G12G29";

    public static void main(String[] args) {
        newObject();
        writeAndWipe();
        faults();
        bazaar();
        fencersAndGoods();
        bouts();
        boutsOfKinds();
        costs();
        meetings();
        purses();
        stepsAndSalutes();
        undoing();
        rowOfActs();
        chains();
        orders();
        judged();
        masks();
        masksOfOtherBazaars();
        shares();
        rests();
        clouded();
        seedAndFeasts();
        feastsOfOne();
        slots();
        counts();
        firstRefusals();
        Check.end("PromisesTest");
    }

    private static void due(String call, long got, long want) {
        Check.due(call, got, want);
    }

    private static void write(FoilBazaar x, String text) {
        for (int k = 0; k < text.length(); k++) {
            x.write(text.charAt(k));
        }
    }

    private static FoilBazaar of(String text) {
        FoilBazaar x = new FoilBazaar();
        write(x, text);
        Check.holds("bazaar of " + text, x.bazaar() >= 0);
        return x;
    }

    private static int faultOf(String text) {
        FoilBazaar x = new FoilBazaar();
        write(x, text);
        int fault = x.fault();
        due("bazaar() of " + text, x.bazaar() == STATE ? 1 : 0, fault == NONE ? 0 : 1);
        return fault;
    }

    private static void newObject() {
        FoilBazaar x = new FoilBazaar();
        for (int what = 0; what < 10; what++) {
            due("new: count(" + what + ")", x.count(what), 0);
        }
        due("new: fault()", x.fault(), 0);
        due("new: fencer(0, 0)", x.fencer(0, 0), UNKNOWN);
        due("new: good(0, 0)", x.good(0, 0), UNKNOWN);
        due("new: undo()", x.undo(), STATE);
        due("new: seed(0)", x.seed(0), 0);
        due("new: masks(0)", x.masks(0), 64);
        due("new: order(1)", x.order(1), 0);
        due("new: again(0)", x.again(0), STATE);
        due("new: again(1)", x.again(1), STATE);
    }

    private static void writeAndWipe() {
        FoilBazaar x = new FoilBazaar();
        due("write(256)", x.write(256), OUTSIDE);
        due("write(-1)", x.write(-1), OUTSIDE);
        for (int k = 1; k <= 52; k++) {
            due("write " + k, x.write(k % 2 == 0 ? 0 : 255), k);
        }
        due("write a 53rd", x.write(66), FULL);
        due("write(256) when full", x.write(256), OUTSIDE);
        due("count(0)", x.count(0), 52);
        due("wipe()", x.wipe(), 52);
        due("wipe() again", x.wipe(), 0);
        due("write after wipe", x.write(66), 1);
    }

    private static void faults() {
        due("fault of nothing", faultOf(""), 0);
        due("fault of b", faultOf("b"), 0);
        due("fault of B", faultOf("B"), NONE);
        due("fault of BB", faultOf("BB"), 1);
        due("fault of BG", faultOf("BG"), 1);
        due("fault of BF", faultOf("BF"), 2);
        due("fault of BF4", faultOf("BF4"), 2);
        due("fault of BF/", faultOf("BF/"), 2);
        due("fault of BF3", faultOf("BF3"), 3);
        due("fault of BF3x", faultOf("BF3x"), 3);
        due("fault of BF3lpL", faultOf("BF3lpL"), 5);
        due("fault of BF3lp", faultOf("BF3lp"), 5);
        due("fault of BF3lpw", faultOf("BF3lpw"), NONE);
        due("fault of BF3lpwl", faultOf("BF3lpwl"), 6);
        due("fault of BF3lpwG", faultOf("BF3lpwG"), 7);
        due("fault of BF3lpwG1", faultOf("BF3lpwG1"), 7);
        due("fault of BF3lpwG0", faultOf("BF3lpwG0"), 8);
        due("fault of BF3lpwG0:", faultOf("BF3lpwG0:"), 8);
        due("fault of BF3lpwG09", faultOf("BF3lpwG09"), NONE);
        due("an owner told behind", faultOf("BF0lllG10F0lll"), 7);
        due("goods between fencers", faultOf("BF0lllG00F1pppG15F2fffG27"), NONE);
        String six = "BF0lllF0lllF0lllF0lllF0lllF0lll";
        due("six fencers", faultOf(six), NONE);
        due("a seventh", faultOf(six + "F"), 31);
        due("five goods", faultOf(six + "G50G51G52G53G54"), NONE);
        due("a sixth good", faultOf(six + "G50G51G52G53G54G"), 46);
        due("behind all", faultOf(six + "G50G51G52G53G54F0lll"), 46);
    }

    private static void bazaar() {
        FoilBazaar x = of(FOUR);
        due("bazaar() once more", x.bazaar(), 43);
        due("the text stays", x.count(0), 30);
        x.meet(1, 0);
        x.keep(0);
        x.see(0, 2);
        x.seed(77);
        due("a broken text", x.write('x'), 31);
        due("bazaar() of it", x.bazaar(), STATE);
        due("all is as it was", x.count(3), 1);
        due("its act is there", x.count(8), 1);
        x.wipe();
        write(x, "BF0lll");
        due("writing alone makes no bazaar", x.count(1), 4);
        due("bazaar() of one", x.bazaar(), 10);
        due("the day", x.count(3), 0);
        due("no acts", x.count(8), 0);
        due("nothing kept", x.again(0), STATE);
        due("what was seen stays", x.count(9), 1);
        due("the seed stays", x.seed(0), 77);
        due("purses together", x.count(4), 9);
        x.wipe();
        write(x, "B");
        due("bazaar() of nobody", x.bazaar(), 0);
        due("nobody", x.fencer(0, 0), UNKNOWN);
        due("no purses", x.count(4), 0);
    }

    private static void fencersAndGoods() {
        FoilBazaar x = of(FOUR);
        int[] moves = {112, 143, 222, 321};
        int[] goods = {1, 2, 4, 0};
        int[] beats = {0b1100, 0b1101, 0, 0b100};
        for (int f = 0; f < 4; f++) {
            due("kind of " + f, x.fencer(f, 0), f);
            due("moves of " + f, x.fencer(f, 1), moves[f]);
            due("purse of " + f, x.fencer(f, 2), 9);
            due("feet of " + f, x.fencer(f, 3), 0);
            due("goods of " + f, x.fencer(f, 4), goods[f]);
            due("beaten by " + f, x.fencer(f, 5), beats[f]);
        }
        due("fencer(-1, 0)", x.fencer(-1, 0), UNKNOWN);
        due("fencer(4, 0)", x.fencer(4, 0), UNKNOWN);
        due("fencer(4, 9)", x.fencer(4, 9), UNKNOWN);
        due("fencer(0, 6)", x.fencer(0, 6), OUTSIDE);
        due("fencer(0, -1)", x.fencer(0, -1), OUTSIDE);
        int[] prices = {3, 2, 9};
        for (int g = 0; g < 3; g++) {
            due("whose " + g, x.good(g, 0), g);
            due("price of " + g, x.good(g, 1), prices[g]);
            due("told whose " + g, x.good(g, 2), g);
        }
        due("good(3, 0)", x.good(3, 0), UNKNOWN);
        due("good(-1, 3)", x.good(-1, 3), UNKNOWN);
        due("good(0, 3)", x.good(0, 3), OUTSIDE);
        due("good(0, -1)", x.good(0, -1), OUTSIDE);
        x.meet(1, 0);
        due("whose then", x.good(0, 0), 1);
        due("told as ever", x.good(0, 2), 0);
        due("goods of 1 then", x.fencer(1, 4), 3);
        due("moves of 1 as told", x.fencer(1, 1), 143);
    }

    private static void dueBout(FoilBazaar x, int one, int other, int hits, int taken, int passes) {
        due("hits of " + one + " with " + other, x.bout(one, other, 0), hits);
        due("hits of the other", x.bout(one, other, 1), taken);
        due("passes", x.bout(one, other, 2), passes);
        due("hits of " + other + " with " + one, x.bout(other, one, 0), taken);
        due("hits of the other", x.bout(other, one, 1), hits);
        due("passes", x.bout(other, one, 2), passes);
    }

    private static void bouts() {
        FoilBazaar x = of(FOUR);
        dueBout(x, 0, 1, 1, 3, 4);
        dueBout(x, 0, 2, 3, 2, 7);
        dueBout(x, 0, 3, 3, 1, 4);
        dueBout(x, 1, 2, 3, 2, 7);
        dueBout(x, 1, 3, 3, 2, 7);
        dueBout(x, 2, 3, 0, 3, 4);
        due("bout(0, 4, 0)", x.bout(0, 4, 0), UNKNOWN);
        due("bout(-1, 0, 0)", x.bout(-1, 0, 0), UNKNOWN);
        due("bout(4, 4, 5)", x.bout(4, 4, 5), UNKNOWN);
        due("bout(0, 0, 0)", x.bout(0, 0, 0), OUTSIDE);
        due("bout(0, 1, 3)", x.bout(0, 1, 3), OUTSIDE);
        due("bout(0, 1, -1)", x.bout(0, 1, -1), OUTSIDE);
        due("nothing changed", x.count(5), 0);
    }

    private static void boutsOfKinds() {
        FoilBazaar two = of("BF2lllF2wwwF1lllF1lllF0lllF0www");
        dueBout(two, 0, 1, 3, 3, 8);
        dueBout(two, 2, 3, 0, 0, 9);
        dueBout(two, 2, 4, 3, 0, 3);
        dueBout(two, 2, 5, 3, 0, 3);
        FoilBazaar feet = of("BF0lwwF3wlwF0www");
        dueBout(feet, 0, 2, 3, 0, 7);
        due("a step", feet.step(0), 1);
        dueBout(feet, 0, 2, 3, 0, 9);
        due("a step", feet.step(0), 2);
        dueBout(feet, 0, 2, 3, 0, 8);
        due("a step of a master", feet.step(1), 0);
        dueBout(feet, 1, 2, 3, 0, 8);
        FoilBazaar liar = of("BF1fwwF0lll");
        dueBout(liar, 0, 1, 0, 3, 3);
    }

    private static void costs() {
        FoilBazaar x = of(FOUR);
        int[][] want = {{STATE, 4, 8}, {1, STATE, 8}, {4, 3, STATE}, {5, 3, 6}};
        for (int f = 0; f < 4; f++) {
            for (int g = 0; g < 3; g++) {
                due("cost(" + f + ", " + g + ")", x.cost(f, g), want[f][g]);
            }
        }
        due("cost(4, 0)", x.cost(4, 0), UNKNOWN);
        due("cost(0, 3)", x.cost(0, 3), UNKNOWN);
        due("cost(0, -1)", x.cost(0, -1), UNKNOWN);
        due("0 at least", of("BF0wwwF0lllG02").cost(1, 0), 0);
    }

    private static void meetings() {
        FoilBazaar x = of(FOUR);
        due("meet(1, 0)", x.meet(1, 0), 1);
        due("purse of 1", x.fencer(1, 2), 8);
        due("purse of 0", x.fencer(0, 2), 10);
        due("feet of 1", x.fencer(1, 3), 1);
        due("feet of 0", x.fencer(0, 3), 1);
        due("feet of 2", x.fencer(2, 3), 0);
        due("day", x.count(3), 1);
        due("meet(1, 0) when it is its", x.meet(1, 0), STATE);
        due("meet(4, 0)", x.meet(4, 0), UNKNOWN);
        due("meet(0, 3)", x.meet(0, 3), UNKNOWN);
        due("refused changes nothing", x.count(3), 1);
        due("of the master", x.meet(3, 2), 3);
        due("his feet", x.fencer(3, 3), 0);
        due("feet of 2", x.fencer(2, 3), 1);
        due("purse of 3", x.fencer(3, 2), 3);
        due("purse of 2", x.fencer(2, 2), 15);
        due("day", x.count(3), 2);
        FoilBazaar dear = of("BF0lllF0wwwG09");
        due("cost", dear.cost(1, 0), 12);
        due("he can not pay", dear.meet(1, 0), 0);
        due("purses", dear.count(4), 18);
        due("purse of 1", dear.fencer(1, 2), 9);
        due("feet", dear.count(5), 2);
        due("day", dear.count(3), 1);
        due("it is an act", dear.count(8), 1);
        dear.salute(1, 3);
        due("he can pay just that", dear.meet(1, 0), 1);
        due("purse of 1", dear.fencer(1, 2), 0);
        due("purse of 0", dear.fencer(0, 2), 21);
    }

    private static void purses() {
        FoilBazaar x = of("BF0lllF0wwwG05");
        for (int k = 0; k < 10; k++) {
            due("salute", x.salute(0, 9), 18 + 9 * k);
        }
        due("99 at most", x.salute(0, 1), 99);
        due("meet", x.meet(1, 0), 1);
        due("purse of 1", x.fencer(1, 2), 1);
        due("purse of 0", x.fencer(0, 2), 99);
        due("undo", x.undo(), 11);
        due("purse of 1", x.fencer(1, 2), 9);
        due("purse of 0", x.fencer(0, 2), 99);
    }

    private static void stepsAndSalutes() {
        FoilBazaar x = of(FOUR);
        due("step", x.step(0), 1);
        due("step", x.step(0), 2);
        due("step", x.step(0), 0);
        due("step of a blind one", x.step(2), 1);
        due("step of the master", x.step(3), 0);
        due("it is an act", x.count(8), 5);
        due("no day", x.count(3), 0);
        due("step(4)", x.step(4), UNKNOWN);
        due("step(-1)", x.step(-1), UNKNOWN);
        due("salute(0, 1)", x.salute(0, 1), 10);
        due("salute(0, 9)", x.salute(0, 9), 19);
        due("salute(0, 0)", x.salute(0, 0), OUTSIDE);
        due("salute(0, 10)", x.salute(0, 10), OUTSIDE);
        due("salute(4, 0)", x.salute(4, 0), UNKNOWN);
        due("no day", x.count(3), 0);
        due("acts", x.count(8), 7);
    }

    private static void undoing() {
        FoilBazaar x = of(FOUR);
        due("undo of none", x.undo(), STATE);
        x.meet(1, 0);
        x.salute(2, 5);
        x.step(0);
        due("undo of a step", x.undo(), 2);
        due("feet of 0", x.fencer(0, 3), 1);
        due("undo of a salute", x.undo(), 1);
        due("purse of 2", x.fencer(2, 2), 9);
        due("undo of a meeting", x.undo(), 0);
        due("whose", x.good(0, 0), 0);
        due("purse of 0", x.fencer(0, 2), 9);
        due("purse of 1", x.fencer(1, 2), 9);
        due("feet", x.count(5), 0);
        due("day", x.count(3), 0);
        due("undo of none", x.undo(), STATE);
    }

    private static void rowOfActs() {
        FoilBazaar x = of("BF0lllF0www");
        for (int k = 1; k <= 15; k++) {
            x.salute(0, 1);
            due("acts", x.count(8), Math.min(14, k));
        }
        due("purse", x.fencer(0, 2), 24);
        for (int k = 13; k >= 0; k--) {
            due("undo", x.undo(), k);
        }
        due("the first can not be undone", x.undo(), STATE);
        due("purse", x.fencer(0, 2), 10);
    }

    private static void dueChain(FoilBazaar x, int fencer, int good, int sum, int first) {
        due("chain(" + fencer + ", " + good + ", 0)", x.chain(fencer, good, 0), sum);
        due("chain(" + fencer + ", " + good + ", 1)", x.chain(fencer, good, 1), first);
    }

    private static void chains() {
        FoilBazaar x = of(FOUR);
        dueChain(x, 0, 0, 0, NONE);
        dueChain(x, 1, 0, 1, 1);
        dueChain(x, 2, 0, 4, 2);
        dueChain(x, 3, 0, 4, 2);
        dueChain(x, 1, 2, 8, 1);
        due("chain(4, 0, 0)", x.chain(4, 0, 0), UNKNOWN);
        due("chain(0, 3, 2)", x.chain(0, 3, 2), UNKNOWN);
        due("chain(0, 0, 2)", x.chain(0, 0, 2), OUTSIDE);
        due("chain(0, 0, -1)", x.chain(0, 0, -1), OUTSIDE);
        FoilBazaar idle = of("BF0wwwF0wwwF0wwwF0wwwG10G13");
        dueChain(idle, 3, 0, 0, 0);
        dueChain(idle, 0, 0, 0, 0);
        dueChain(idle, 0, 1, 3, 0);
        // a purse that can not pay is no hindrance to what it would cost
        dueChain(of("BF0lllF0wwwG09"), 1, 0, 12, 1);
    }

    private static void orders() {
        FoilBazaar x = of(FOUR);
        due("order(0)", x.order(0), 0);
        due("order(1)", x.order(1), 2143);
        due("order(2)", x.order(2), OUTSIDE);
        due("order(-1)", x.order(-1), OUTSIDE);
        FoilBazaar ring = of("BF0lllF0pppF0fff");
        due("order(0) of a ring", ring.order(0), 1);
        due("order(1) of a ring", ring.order(1), 132);
        due("order(1) of idle ones", of("BF0wwwF0wwwF0wwwF0wwwF0wwwF0www").order(1), 123456);
        due("order(1) of one", of("BF0www").order(1), 1);
        due("order(0) of nobody", of("B").order(0), 0);
        due("order(1) of nobody", of("B").order(1), 0);
    }

    private static void dueJudge(FoilBazaar x, int n, long row, int want) {
        due("judge(" + n + ", " + row + ")", x.judge(n, row), want);
    }

    private static void judged() {
        FoilBazaar x = of(FOUR);
        dueJudge(x, 1, 110, NONE);
        dueJudge(x, 1, 100, 0);
        dueJudge(x, 1, 140, 0);
        dueJudge(x, 1, 113, 0);
        dueJudge(x, 2, 110510, NONE);
        dueJudge(x, 2, 110500, 1);
        dueJudge(x, 1, 500, NONE);
        dueJudge(x, 1, 510, 0);
        dueJudge(x, 1, 503, 0);
        dueJudge(x, 1, 402, NONE);
        dueJudge(x, 1, 420, 0);
        dueJudge(x, 1, 400, 0);
        dueJudge(x, 1, 404, 0);
        dueJudge(x, 1, 203, NONE);
        dueJudge(x, 1, 210, 0);
        dueJudge(x, 1, 204, 0);
        dueJudge(x, 1, 309, NONE);
        dueJudge(x, 1, 300, 0);
        dueJudge(x, 1, 341, 0);
        dueJudge(x, 1, 600, 0);
        dueJudge(x, 1, 0, 0);
        dueJudge(x, 2, 200, 0);
        dueJudge(x, 4, 200309402500L, NONE);
        dueJudge(x, 4, 200309402510L, 3);
        dueJudge(x, 4, 999999999999L, 0);
        dueJudge(x, 4, 1000000000000L, OUTSIDE);
        dueJudge(x, 1, 1000, OUTSIDE);
        dueJudge(x, 1, -1, OUTSIDE);
        dueJudge(x, 0, 0, OUTSIDE);
        dueJudge(x, 5, 200, OUTSIDE);
        due("nothing changed", x.count(3) + x.count(5) + x.count(6) + x.count(8), 0);
        due("purses", x.count(4), 36);
        FoilBazaar dear = of("BF0lllF0wwwG09");
        dueJudge(dear, 1, 110, 0);
        dueJudge(dear, 2, 313110, NONE);
        dueJudge(dear, 2, 312110, 1);
    }

    private static void masks() {
        FoilBazaar x = of("BF0wwwF0pwwF3lll");
        due("masks(0)", x.masks(0), 64);
        due("masks(1)", x.masks(1), 111);
        due("masks(2)", x.masks(2), OUTSIDE);
        due("masks(-1)", x.masks(-1), OUTSIDE);
        due("see(3, 0)", x.see(3, 10), UNKNOWN);
        due("see(0, 10)", x.see(0, 10), OUTSIDE);
        due("see(0, -1)", x.see(0, -1), OUTSIDE);
        due("see(0, 0)", x.see(0, 0), 1);
        due("masks without a lunge", x.masks(0), 27);
        due("the first", x.masks(1), 222);
        due("see(1, 3)", x.see(1, 3), 2);
        due("a feint first", x.masks(0), 9);
        due("the first", x.masks(1), 322);
        x.step(1);
        due("a feint last, by its feet now", x.masks(1), 223);
        due("see(0, 3)", x.see(0, 3), 3);
        due("none", x.masks(0), 0);
        due("none", x.masks(1), NONE);
        due("see", x.see(0, 3), 4);
        due("see", x.see(0, 3), 5);
        due("see", x.see(0, 9), 6);
        due("see a seventh", x.see(0, 3), FULL);
        due("OUTSIDE ahead of FULL", x.see(0, 10), OUTSIDE);
        due("count(9)", x.count(9), 6);
        due("unsee()", x.unsee(), 6);
        due("unsee()", x.unsee(), 0);
        due("masks(0)", x.masks(0), 64);
        x.see(0, 3);
        due("masks with a lunge", x.masks(0), 37);
        due("the first", x.masks(1), 111);
    }

    private static void masksOfOtherBazaars() {
        FoilBazaar x = of("BF0wwwF0www");
        x.see(1, 0);
        due("masks(0)", x.masks(0), 27);
        x.wipe();
        write(x, "BF0www");
        x.bazaar();
        due("nobody there to look at", x.masks(0), 64);
        due("it is SEEN all the same", x.count(9), 1);
        write(x, "F0fff");
        x.bazaar();
        // lunges hit the feints of the new one just as they hit the waits of the old one
        due("another one there", x.masks(0), 27);
    }

    private static void dueShare(FoilBazaar x, int fencer, int above, int below) {
        due("share(" + fencer + ", true)", x.share(fencer, true), above);
        due("share(" + fencer + ", false)", x.share(fencer, false), below);
    }

    private static void shares() {
        FoilBazaar x = of(FOUR);
        dueShare(x, 0, 5, 6);
        dueShare(x, 1, 11, 6);
        dueShare(x, 2, 0, 1);
        dueShare(x, 3, 1, 3);
        dueShare(x, 4, UNKNOWN, UNKNOWN);
        dueShare(x, -1, UNKNOWN, UNKNOWN);
        dueShare(of("BF0lll"), 0, 0, 1);
        dueShare(of("BF0lllF0lllF0lllF0lllF0lllF0www"), 0, 1, 5);
    }

    private static void dueRests(FoilBazaar x, int one, int other, int many, int first) {
        due("rests(" + one + ", " + other + ", 0)", x.rests(one, other, 0), many);
        due("rests(" + one + ", " + other + ", 1)", x.rests(one, other, 1), first);
    }

    private static void rests() {
        FoilBazaar x = of("BF0lpfF0lpfF0wwwF0wwwF3lpf");
        dueRests(x, 0, 1, 0, NONE);
        dueRests(x, 2, 3, 9, 0);
        dueRests(x, 4, 0, 3, 1);
        dueRests(x, 0, 4, 3, 10);
        x.step(0);
        dueRests(x, 4, 0, 3, 1);
        due("rests(5, 5, 2)", x.rests(5, 5, 2), UNKNOWN);
        due("rests(0, -1, 0)", x.rests(0, -1, 0), UNKNOWN);
        due("rests(0, 0, 0)", x.rests(0, 0, 0), OUTSIDE);
        due("rests(0, 1, 2)", x.rests(0, 1, 2), OUTSIDE);
        due("rests(0, 1, -1)", x.rests(0, 1, -1), OUTSIDE);
    }

    private static void dueClouded(FoilBazaar x, int one, int other, int tenths, int above, int below) {
        String call = "clouded(" + one + ", " + other + ", " + tenths + ", ";
        due(call + "true)", x.clouded(one, other, tenths, true), above);
        due(call + "false)", x.clouded(one, other, tenths, false), below);
    }

    private static void clouded() {
        FoilBazaar x = of("BF0lllF0wwwF0lwwF0wlwF0fww");
        dueClouded(x, 0, 1, 0, 1, 1);
        dueClouded(x, 0, 1, 5, 63, 64);
        dueClouded(x, 0, 1, 1, 999999, 1000000);
        dueClouded(x, 0, 1, 10, 0, 1);
        dueClouded(x, 1, 0, 0, 0, 1);
        // two hits in six passes
        dueClouded(x, 2, 1, 5, 3, 4);
        dueClouded(x, 2, 1, 2, 24, 25);
        // two hits of each: 2:1, 2:0, 1:0 of sixteen ways are 2, 1 and 2
        dueClouded(x, 2, 3, 5, 5, 16);
        dueClouded(x, 5, 5, 11, UNKNOWN, UNKNOWN);
        dueClouded(x, 0, -1, 0, UNKNOWN, UNKNOWN);
        dueClouded(x, 0, 0, 0, OUTSIDE, OUTSIDE);
        dueClouded(x, 0, 1, 11, OUTSIDE, OUTSIDE);
        dueClouded(x, 0, 1, -1, OUTSIDE, OUTSIDE);
    }

    private static void seedAndFeasts() {
        FoilBazaar x = new FoilBazaar();
        due("seed(2)", x.seed(2), 0);
        due("feasts(0)", x.feasts(0), OUTSIDE);
        due("feasts(31)", x.feasts(31), OUTSIDE);
        due("feasts(1)", x.feasts(1), 0);
        due("seed(Long.MIN_VALUE)", x.seed(Long.MIN_VALUE), -4275776585127002199L);
        due("seed(0)", x.seed(0), Long.MIN_VALUE);
        x.feasts(30);
        long seed = x.seed(0);
        for (int k = 0; k < 30; k++) {
            x.feasts(1);
        }
        due("one by one the seed is the same", x.seed(0), seed);
    }

    /** A seed after which the next one's upper 31 bits leave that by 42. */
    private static long seedFor(int left) {
        long seed = 0;
        while (((seed * 6364136223846793005L + 1442695040888963407L) >>> 33) % 42 != left) {
            seed++;
        }
        return seed;
    }

    private static void feastsOfOne() {
        FoilBazaar x = of(FOUR);
        for (int left = 0; left < 42; left++) {
            int fencer = left / 5;
            int good = left % 5;
            boolean goes = left < 30 && fencer < 4 && good < 3 && fencer != good;
            x.seed(seedFor(left));
            due("feasts(1) by " + left, x.feasts(1), goes ? 1 : 0);
        }
        due("nothing changed", x.count(3) + x.count(5) + x.count(6) + x.count(8), 0);
        due("purses", x.count(4), 36);
        x.meet(1, 0);
        x.seed(seedFor(0));
        due("back to him whose it was told", x.feasts(1), 0);
        x.seed(seedFor(41));
        due("as it was", x.feasts(1), 1);
    }

    private static void slots() {
        FoilBazaar x = of(FOUR);
        due("keep(-1)", x.keep(-1), UNKNOWN);
        due("keep(2)", x.keep(2), UNKNOWN);
        due("again(2)", x.again(2), UNKNOWN);
        due("again(-1)", x.again(-1), UNKNOWN);
        due("again(0)", x.again(0), STATE);
        x.meet(1, 0);
        due("keep(0)", x.keep(0), 1);
        due("acts stay", x.count(8), 1);
        due("again(1)", x.again(1), STATE);
        x.meet(3, 2);
        due("keep(1)", x.keep(1), 2);
        x.salute(0, 9);
        due("again(0)", x.again(0), 1);
        due("acts are gone", x.count(8), 0);
        due("undo()", x.undo(), STATE);
        due("whose 0", x.good(0, 0), 1);
        due("whose 2", x.good(2, 0), 2);
        due("purse of 0", x.fencer(0, 2), 10);
        due("feet", x.count(5), 2);
        x.step(0);
        due("again(1)", x.again(1), 2);
        due("whose 2", x.good(2, 0), 3);
        due("feet", x.count(5), 3);
        due("again(0)", x.again(0), 1);
        due("feet", x.count(5), 2);
    }

    private static void counts() {
        FoilBazaar x = of(FOUR);
        x.meet(1, 0);
        x.meet(3, 2);
        x.step(0);
        x.see(0, 1);
        int[] want = {30, 4, 3, 2, 36, 4, 0b101, x.count(7), 3, 1};
        for (int what = 0; what < 10; what++) {
            due("count(" + what + ")", x.count(what), want[what]);
        }
        due("count(7) of a new one", of(FOUR).count(7), 0b1101);
        due("count(7) of a ring", of("BF0lllF0pppF0fffF0lll").count(7), 0b1111);
        due("count(10)", x.count(10), OUTSIDE);
        due("count(-1)", x.count(-1), OUTSIDE);
    }

    private static void firstRefusals() {
        FoilBazaar x = of(FOUR);
        int[] wrong = {Integer.MIN_VALUE, -1, 6, Integer.MAX_VALUE};
        for (int bad : wrong) {
            due("fencer", x.fencer(bad, bad), UNKNOWN);
            due("good", x.good(bad, bad), UNKNOWN);
            due("bout", x.bout(bad, bad, bad), UNKNOWN);
            due("cost", x.cost(0, bad), UNKNOWN);
            due("meet", x.meet(bad, 0), UNKNOWN);
            due("step", x.step(bad), UNKNOWN);
            due("salute", x.salute(bad, bad), UNKNOWN);
            due("chain", x.chain(bad, bad, bad), UNKNOWN);
            due("order", x.order(bad), OUTSIDE);
            due("judge", x.judge(bad, bad), OUTSIDE);
            due("see", x.see(bad, bad), UNKNOWN);
            due("masks", x.masks(bad), OUTSIDE);
            due("share", x.share(bad, true), UNKNOWN);
            due("rests", x.rests(0, bad, bad), UNKNOWN);
            due("clouded", x.clouded(bad, 0, bad, false), UNKNOWN);
            due("keep", x.keep(bad), UNKNOWN);
            due("again", x.again(bad), UNKNOWN);
        }
        due("judge", x.judge(4, Long.MIN_VALUE), OUTSIDE);
        due("judge", x.judge(4, Long.MAX_VALUE), OUTSIDE);
        due("nothing changed", x.count(3) + x.count(5) + x.count(6) + x.count(8) + x.count(9), 0);
    }
}
