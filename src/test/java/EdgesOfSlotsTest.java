/** The boundary cases of slots and counts: promises 25 to 27. */
public final class EdgesOfSlotsTest extends Edges {
    private static final int[] NO_SLOTS = {Integer.MIN_VALUE, -1, 2, 3, Integer.MAX_VALUE};

    public static void main(String[] args) {
        keepRefused();
        keptByDay();
        keptOnceMore();
        againRefused();
        againAsKept();
        againLeavesTheRest();
        againEmptiesTheRow();
        keptOfNobody();
        countsOfNobody();
        countsAtMost();
        countsTogether();
        countsOfBits();
        countsOfActsAndSeen();
        countRefused();
        end("EdgesOfSlotsTest", 25, 27);
    }

    private static void keepRefused() {
        edge(25, "SLOTS 0 to 1 keep");
        FoilBazaar x = of(FOUR);
        for (int bad : NO_SLOTS) {
            due("keep(" + bad + ")", x.keep(bad), UNKNOWN);
        }
        due("again(0)", x.again(0), STATE);
        due("again(1)", x.again(1), STATE);
        due("keep(0)", x.keep(0), 0);
        due("again(1) when 0 alone was kept", x.again(1), STATE);
        due("keep(1)", x.keep(1), 0);
        due("again(1)", x.again(1), 0);
    }

    private static void keptByDay() {
        edge(25, "They are kept: THE DAY. UNKNOWN.");
        FoilBazaar x = of("BF0wwwF0wwwG00");
        for (int day = 1; day <= 20; day++) {
            x.meet(day % 2, 0);
            due("keep(" + day % 2 + ")", x.keep(day % 2), day);
        }
        x.step(0);
        due("a step is no day", x.keep(0), 20);
        due("keep leaves ACTS as they are", x.count(8), 14);
        due("undo()", x.undo(), 13);
    }

    private static void keptOnceMore() {
        edge(25, "They are kept");
        FoilBazaar x = of("BF0lllF0www");
        x.step(0);
        x.keep(0);
        x.step(0);
        due("keep(0) once more", x.keep(0), 0);
        x.step(0);
        due("again(0)", x.again(0), 0);
        due("the later one is kept", x.fencer(0, 3), 2);
        x.step(0);
        due("what comes behind it is not kept", x.again(0), 0);
        due("feet", x.fencer(0, 3), 2);
        x.keep(1);
        due("one slot kept in the other", x.again(1), 0);
        due("feet", x.fencer(0, 3), 2);
    }

    private static void againRefused() {
        edge(26, "UNKNOWN; STATE: none were kept.");
        FoilBazaar x = of(FOUR);
        x.step(0);
        for (int bad : NO_SLOTS) {
            due("again(" + bad + ")", x.again(bad), UNKNOWN);
        }
        due("again(0)", x.again(0), STATE);
        due("again(1)", x.again(1), STATE);
        due("feet stay", x.fencer(0, 3), 1);
        due("ACTS stay", x.count(8), 1);
        x.keep(1);
        due("again(0)", x.again(0), STATE);
        due("again(1)", x.again(1), 0);
        due("bazaar()", x.bazaar(), 43);
        due("again(1) when THE BAZAAR is new", x.again(1), STATE);
    }

    private static void againAsKept() {
        edge(26, "They are as they were kept: THE DAY.");
        FoilBazaar x = of(FOUR);
        due("keep(0)", x.keep(0), 0);
        x.meet(1, 0);
        x.salute(2, 4);
        x.step(2);
        due("keep(1)", x.keep(1), 1);
        x.meet(3, 2);
        x.salute(0, 9);
        for (int round = 0; round < 3; round++) {
            due("again(1)", x.again(1), 1);
            due("THE DAY", x.count(3), 1);
            due("goods not his", x.count(6), 1);
            due("purses", x.fencer(0, 2) * 10000 + x.fencer(1, 2) * 100 + x.fencer(2, 2), 100813);
            due("feet", x.fencer(0, 3) * 100 + x.fencer(1, 3) * 10 + x.fencer(2, 3), 111);
            x.meet(0, 0);
            due("again(0)", x.again(0), 0);
            due("THE DAY", x.count(3), 0);
            due("goods not his", x.count(6), 0);
            due("PURSES", x.count(4), 36);
            due("FEET", x.count(5), 0);
            x.meet(2, 0);
        }
    }

    private static void againLeavesTheRest() {
        edge(26, "SLOTS 0 to 1 keep whose GOODS are, PURSES, FEET, THE DAY");
        FoilBazaar x = of(FOUR);
        x.see(0, 1);
        x.seed(5);
        x.keep(0);
        x.see(1, 1);
        x.seed(6);
        x.write('x');
        due("again(0)", x.again(0), 0);
        due("SEEN is not kept", x.count(9), 2);
        due("THE SEED is not kept", x.seed(0), 6);
        due("THE TEXT is not kept", x.count(0), 31);
        due("wipe()", x.wipe(), 31);
        due("again(0) after wipe()", x.again(0), 0);
    }

    private static void againEmptiesTheRow() {
        edge(26, "(THE ROW of ACTS is empty when one goes on)");
        FoilBazaar x = of("BF0lllF0www");
        x.step(0);
        x.keep(0);
        x.step(0);
        due("again(0)", x.again(0), 0);
        due("count(8)", x.count(8), 0);
        due("undo()", x.undo(), STATE);
        due("feet", x.fencer(0, 3), 1);
        x.step(0);
        due("an ACT behind it", x.count(8), 1);
        due("undo()", x.undo(), 0);
        due("feet", x.fencer(0, 3), 1);
        due("undo()", x.undo(), STATE);
    }

    private static void keptOfNobody() {
        edge(26, "STATE: none were kept.");
        FoilBazaar x = new FoilBazaar();
        due("keep(1)", x.keep(1), 0);
        due("again(0)", x.again(0), STATE);
        due("again(1)", x.again(1), 0);
        anew(x, FOUR);
        due("again(1) when what was kept is gone", x.again(1), STATE);
        due("FENCERS", x.count(1), 4);
    }

    private static void countsOfNobody() {
        edge(27, "0 letters of THE TEXT, 1 FENCERS, 2 GOODS, 3 THE DAY, 4 PURSES together, 5 FEET together");
        FoilBazaar x = of("B");
        for (int what = 0; what <= 9; what++) {
            due("count(" + what + ") of nobody", x.count(what), what == 0 ? 1 : 0);
        }
    }

    private static void countsAtMost() {
        edge(27, "0 letters of THE TEXT, 1 FENCERS, 2 GOODS");
        FoilBazaar x = of(LARGEST);
        due("count(0)", x.count(0), 46);
        due("count(1)", x.count(1), 6);
        due("count(2)", x.count(2), 5);
        write(x, "xxxxxxxx");
        due("count(0) when full", x.count(0), 52);
        x.wipe();
        due("count(0) of an empty one", x.count(0), 0);
        due("count(1) as ever", x.count(1), 6);
        due("count(2) as ever", x.count(2), 5);
    }

    private static void countsTogether() {
        edge(27, "3 THE DAY, 4 PURSES together, 5 FEET together");
        FoilBazaar x = of("BF0lllF0lllF0lllF0lllF0lllF0lllG00");
        due("count(4)", x.count(4), 54);
        for (int f = 0; f < 6; f++) {
            fillPurse(x, f, 99);
            steps(x, f, 2);
        }
        due("count(4) at most", x.count(4), 594);
        due("count(5) at most", x.count(5), 12);
        due("count(3)", x.count(3), 0);
        for (int day = 1; day <= 30; day++) {
            x.meet(day % 2, 0);
            due("count(3)", x.count(3), day);
        }
        due("count(5)", x.count(5), 12);
        FoilBazaar masters = of("BF3lllF0www");
        steps(masters, 0, 2);
        steps(masters, 1, 2);
        due("count(5) has no feet of a master", masters.count(5), 2);
    }

    private static void countsOfBits() {
        edge(27, "6 GOODS that are not his whose they were told (bits)");
        FoilBazaar x = of("BF0wwwF0wwwG00G00G00G00G00");
        int bits = 0;
        for (int g = 4; g >= 0; g--) {
            x.meet(1, g);
            bits |= 1 << g;
            due("count(6)", x.count(6), bits);
        }
        for (int g = 0; g < 5; g++) {
            x.meet(0, g);
            bits &= ~(1 << g);
            due("count(6) back", x.count(6), bits);
        }
        FoilBazaar dear = of("BF0lllF0wwwG09");
        dear.meet(1, 0);
        due("count(6) when it was not paid", dear.count(6), 0);
        edge(27, "7 who is BEATEN by anybody (bits)");
        due("nobody", of("BF0wwwF0wwwF0lll").count(7), 0b011);
        due("none of like ones", of("BF0lllF0lllF0lll").count(7), 0);
        due("all of a ring", of("BF0lllF0pppF0fffF0lllF0pppF0fff").count(7), 0b111111);
        due("the last one", of("BF0lllF0lllF0lllF0lllF0lllF0www").count(7), 0b100000);
        due("the first one", of("BF0wwwF0lllF0lllF0lllF0lllF0lll").count(7), 0b000001);
        FoilBazaar now = of("BF0lwwF0pww");
        due("by feet now", now.count(7), 0b01);
        now.step(1);
        due("by other feet", now.count(7), 0b10);
    }

    private static void countsOfActsAndSeen() {
        edge(27, "8 ACTS in the row, 9 SEEN");
        FoilBazaar x = of("BF0lll");
        for (int k = 1; k <= 16; k++) {
            x.step(0);
            x.see(0, 0);
            due("count(8)", x.count(8), Math.min(14, k));
            due("count(9)", x.count(9), Math.min(6, k));
        }
        x.undo();
        x.unsee();
        due("count(8)", x.count(8), 13);
        due("count(9)", x.count(9), 0);
    }

    private static void countRefused() {
        edge(27, "9 SEEN. OUTSIDE.");
        FoilBazaar x = of(FOUR);
        for (int what : new int[] {Integer.MIN_VALUE, -1, 10, 11, Integer.MAX_VALUE}) {
            due("count(" + what + ")", x.count(what), OUTSIDE);
            due("count(" + what + ") of nobody", new FoilBazaar().count(what), OUTSIDE);
        }
    }
}
