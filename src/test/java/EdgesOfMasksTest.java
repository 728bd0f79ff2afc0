/** The boundary cases of what is seen of a mask: promises 17 to 19. */
public final class EdgesOfMasksTest extends Edges {
    public static void main(String[] args) {
        sixAtMost();
        hitsSeen();
        seeRefused();
        seenIsNoAct();
        unseen();
        allMasks();
        masksOfHits();
        noMask();
        maskIsPlain();
        maskHasNoFeet();
        fencersAsNow();
        fencersNotAnyMore();
        masksRefused();
        end("EdgesOfMasksTest", 17, 19);
    }

    private static void dueMasks(FoilBazaar x, int many, int first) {
        due("masks(0)", x.masks(0), many);
        due("masks(1)", x.masks(1), first);
    }

    private static void sixAtMost() {
        edge(17, "6 such at most");
        FoilBazaar x = of("BF0www");
        for (int k = 1; k <= 6; k++) {
            due("see the " + k + "th time", x.see(0, 0), k);
        }
        edge(17, "FULL: 6.");
        due("see the 7th time", x.see(0, 0), FULL);
        due("see the 7th time, another h", x.see(0, 9), FULL);
        due("count(9)", x.count(9), 6);
        dueMasks(x, 27, 222);
        due("unsee()", x.unsee(), 6);
        due("see after unsee()", x.see(0, 0), 1);
    }

    private static void hitsSeen() {
        edge(17, "made h HITS (0 to 9)");
        FoilBazaar x = of("BF0www");
        due("see(0, 0)", x.see(0, 0), 1);
        due("see(0, 9)", x.see(0, 9), 2);
        for (int h : new int[] {Integer.MIN_VALUE, -1, 10, 11, Integer.MAX_VALUE}) {
            due("see(0, " + h + ")", x.see(0, h), OUTSIDE);
        }
        due("count(9)", x.count(9), 2);
    }

    private static void seeRefused() {
        edge(17, "UNKNOWN; OUTSIDE: h; FULL: 6.");
        FoilBazaar x = of("BF0wwwF0lll");
        for (int round = 0; round < 2; round++) {
            for (int bad : new int[] {Integer.MIN_VALUE, -1, 2, 6, Integer.MAX_VALUE}) {
                due("see(" + bad + ", 0)", x.see(bad, 0), UNKNOWN);
                due("see(" + bad + ", 10)", x.see(bad, 10), UNKNOWN);
            }
            due("see(0, 10)", x.see(0, 10), OUTSIDE);
            due("see(0, -1)", x.see(0, -1), OUTSIDE);
            due("count(9)", x.count(9), 6 * round);
            for (int k = 0; k < 6; k++) {
                x.see(1, 3);
            }
        }
        due("see(0, 0)", x.see(0, 0), FULL);
    }

    private static void seenIsNoAct() {
        edge(17, "ACTS (MET, STEPPED, SALUTED)");
        FoilBazaar x = of("BF0www");
        x.see(0, 0);
        due("undo()", x.undo(), STATE);
        x.step(0);
        x.keep(0);
        x.see(0, 0);
        due("undo()", x.undo(), 0);
        due("count(9) after undo()", x.count(9), 2);
        due("again(0)", x.again(0), 0);
        due("count(9) after again(0)", x.count(9), 2);
    }

    private static void unseen() {
        edge(18, "Nothing is SEEN: how much there was.");
        FoilBazaar x = of("BF0www");
        due("unsee() of nothing", x.unsee(), 0);
        for (int many = 1; many <= 7; many++) {
            for (int k = 0; k < many; k++) {
                x.see(0, 0);
            }
            due("unsee() of " + many, x.unsee(), Math.min(6, many));
            due("unsee() again", x.unsee(), 0);
            due("count(9)", x.count(9), 0);
            dueMasks(x, 64, 111);
        }
        due("unsee() of no BAZAAR", new FoilBazaar().unsee(), 0);
    }

    private static void allMasks() {
        edge(19, "how many (64 there are)");
        dueMasks(new FoilBazaar(), 64, 111);
        dueMasks(of(FOUR), 64, 111);
        edge(19, "(three figures, 1 LUNGE, 2 PARRY, 3 FEINT, 4 WAIT; the least)");
        FoilBazaar x = of("BF0wwwF0lllF0ppp");
        x.see(0, 0);
        dueMasks(x, 27, 222);
        x.see(1, 0);
        dueMasks(x, 8, 333);
        x.see(2, 0);
        dueMasks(x, 1, 444);
        x.unsee();
        x.see(2, 0);
        dueMasks(x, 27, 111);
    }

    private static void masksOfHits() {
        edge(19, "MOVES by which all that is SEEN is so");
        // against lunges, with x for a feint or a wait: xxx makes 0; lxx, xlx, xxl, xpx, xxp make 1;
        // pxx, llx, lxl, xll, xlp, xpl make 2; all others make 3
        int[] many = {8, 20, 14, 22, 0, 0, 0, 0, 0, 0};
        int[] first = {333, 133, 113, 111, NONE, NONE, NONE, NONE, NONE, NONE};
        int all = 0;
        for (int h = 0; h <= 9; h++) {
            FoilBazaar x = of("BF0lll");
            x.see(0, h);
            dueMasks(x, many[h], first[h]);
            all += x.masks(0);
            x.see(0, h);
            dueMasks(x, many[h], first[h]);
        }
        due("all together", all, 64);
    }

    private static void noMask() {
        edge(19, "the first (1); NONE.");
        FoilBazaar x = of("BF0wwwF0www");
        x.see(0, 0);
        x.see(1, 3);
        dueMasks(x, 0, NONE);
        x.unsee();
        x.see(0, 3);
        dueMasks(x, 37, 111);
        x.see(0, 9);
        dueMasks(x, 0, NONE);
    }

    private static void maskIsPlain() {
        edge(19, "a mask, PLAIN, FEET 0");
        // a liar's lunge and two waits would make 2 hits against lunges, for he denies the first
        FoilBazaar x = of("BF0lllF0wwwF0lwwF1lll");
        x.see(0, 1);
        x.see(1, 3);
        dueMasks(x, 12, 133);
        x.unsee();
        x.see(3, 0);
        // a liar who lunges denies all lunges: only parries hit him
        dueMasks(x, 27, 111);
    }

    private static void maskHasNoFeet() {
        edge(19, "whose three MOVES nobody knows");
        FoilBazaar x = of("BF0pwwF0wpwF0wwp");
        x.see(0, 3);
        x.see(1, 0);
        x.see(2, 0);
        // a feint first, and neither a feint nor a lunge behind it: those would hit too
        dueMasks(x, 4, 322);
        x.unsee();
        x.see(0, 0);
        x.see(1, 0);
        x.see(2, 3);
        dueMasks(x, 4, 223);
    }

    private static void fencersAsNow() {
        edge(19, "in a BOUT with a FENCER as it is now");
        FoilBazaar x = of("BF0pwwF0www");
        x.see(0, 3);
        x.see(1, 0);
        dueMasks(x, 9, 322);
        x.step(0);
        dueMasks(x, 9, 223);
        x.step(0);
        dueMasks(x, 9, 232);
        x.step(0);
        dueMasks(x, 9, 322);
        due("undo()", x.undo(), 2);
        dueMasks(x, 9, 232);
    }

    private static void fencersNotAnyMore() {
        edge(19, "(of FENCERS that there are not any more nothing is looked at)");
        FoilBazaar x = of("BF0lllF0lllF0lllF0lllF0lllF0www");
        x.see(5, 0);
        dueMasks(x, 27, 222);
        anew(x, "BF0lllF0lllF0lllF0lllF0lll");
        dueMasks(x, 64, 111);
        due("it is SEEN as ever", x.count(9), 1);
        anew(x, "B");
        dueMasks(x, 64, 111);
        anew(x, "BF0lllF0lllF0lllF0lllF0lllF0ppp");
        dueMasks(x, 27, 111);
        due("unsee()", x.unsee(), 1);
    }

    private static void masksRefused() {
        edge(19, "MASKS: how many (what = 0), the first (1); NONE. OUTSIDE.");
        FoilBazaar x = of("BF0lll");
        for (int what : new int[] {Integer.MIN_VALUE, -1, 2, 3, Integer.MAX_VALUE}) {
            due("masks(" + what + ")", x.masks(what), OUTSIDE);
            due("masks(" + what + ") of nobody", new FoilBazaar().masks(what), OUTSIDE);
        }
    }
}
