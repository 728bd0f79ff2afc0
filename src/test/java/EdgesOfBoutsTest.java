/** The boundary cases of bouts, costs and acts: promises 8 to 13. */
public final class EdgesOfBoutsTest extends Edges {
    private static final int[] NO_FENCERS = {Integer.MIN_VALUE, -1, 2, 6, Integer.MAX_VALUE};

    public static void main(String[] args) {
        hitsOfMoves();
        enoughHits();
        mostPasses();
        movesByFeet();
        masters();
        blindOnes();
        liars();
        boutRefused();
        costs();
        costRefused();
        meetingsPaid();
        meetingsNotPaid();
        feetInMeetings();
        meetRefused();
        steps();
        salutes();
        undone();
        undoneOfMany();
        undoneAtLimits();
        end("EdgesOfBoutsTest", 8, 13);
    }

    private static void dueBout(FoilBazaar x, int one, int other, int hits, int taken, int passes) {
        String who = "(" + one + ", " + other + ")";
        due("hits of the one in a bout " + who, x.bout(one, other, 0), hits);
        due("hits of the other in a bout " + who, x.bout(one, other, 1), taken);
        due("passes of a bout " + who, x.bout(one, other, 2), passes);
        due("hits of the one, told the other way " + who, x.bout(other, one, 1), hits);
        due("hits of the other, told the other way " + who, x.bout(other, one, 0), taken);
        due("passes, told the other way " + who, x.bout(other, one, 2), passes);
    }

    private static void dueBout(String one, String other, int hits, int taken, int passes) {
        dueBout(of("BF" + one + "F" + other), 0, 1, hits, taken, passes);
    }

    private static void hitsOfMoves() {
        edge(8, "LUNGE hits FEINT, and WAIT;");
        dueBout("0lll", "0fff", 3, 0, 3);
        dueBout("0lll", "0www", 3, 0, 3);
        edge(8, "PARRY (with its riposte) hits LUNGE;");
        dueBout("0ppp", "0lll", 3, 0, 3);
        edge(8, "FEINT hits PARRY: 1 HIT for it.");
        dueBout("0fff", "0ppp", 3, 0, 3);
        edge(8, "LUNGE and LUNGE: both have a HIT");
        dueBout("0lll", "0lll", 3, 3, 3);
        edge(8, "Else nobody hits.");
        dueBout("0ppp", "0ppp", 0, 0, 9);
        dueBout("0fff", "0fff", 0, 0, 9);
        dueBout("0www", "0www", 0, 0, 9);
        dueBout("0ppp", "0www", 0, 0, 9);
        dueBout("0fff", "0www", 0, 0, 9);
    }

    private static void enoughHits() {
        edge(8, "till one has 3 HITS or more");
        dueBout("0lll", "0wwl", 3, 1, 3);
        dueBout("0lpf", "0fff", 3, 2, 7);
        dueBout("0lpw", "0fff", 3, 2, 7);
        dueBout("0lwf", "0wlp", 3, 1, 4);
        edge(8, "or both do");
        dueBout("0lll", "0lpf", 3, 3, 4);
        dueBout("0llw", "0llw", 3, 3, 4);
    }

    private static void mostPasses() {
        edge(8, "9 at most");
        dueBout("0pfw", "0pfw", 0, 0, 9);
        // the third hit comes in the ninth pass
        dueBout("0wwl", "0www", 3, 0, 9);
        dueBout("0lwl", "0wlw", 3, 1, 4);
        dueBout("2lll", "0pfp", 2, 3, 9);
    }

    private static void movesByFeet() {
        edge(8, "makes that of its three MOVES (0 first) that is left by three of its FEET and t together");
        FoilBazaar x = of("BF0lwwF0wwwF1wlw");
        dueBout(x, 0, 1, 3, 0, 7);
        dueBout(x, 2, 1, 3, 0, 8);
        x.step(0);
        dueBout(x, 0, 1, 3, 0, 9);
        x.step(0);
        dueBout(x, 0, 1, 3, 0, 8);
        x.step(0);
        dueBout(x, 0, 1, 3, 0, 7);
        x.step(2);
        dueBout(x, 2, 1, 3, 0, 7);
        x.step(2);
        dueBout(x, 2, 1, 3, 0, 9);
    }

    private static void masters() {
        edge(8, "a MASTER's FEET are 0 always");
        FoilBazaar x = of("BF3wlwF0wwwG10");
        dueBout(x, 0, 1, 3, 0, 8);
        for (int k = 0; k < 3; k++) {
            x.step(0);
            dueBout(x, 0, 1, 3, 0, 8);
            due("fencer(0, 3)", x.fencer(0, 3), 0);
        }
        due("meet(0, 0)", x.meet(0, 0), 0);
        dueBout(x, 0, 1, 3, 0, 8);
        due("fencer(0, 3) after a meeting", x.fencer(0, 3), 0);
        due("count(5) has no feet of his", x.count(5), 1);
        // a master says nothing when he is hit
        dueBout("3lll", "0lll", 3, 3, 3);
    }

    private static void blindOnes() {
        edge(8, "a BLIND one WAITS in PASS 0");
        dueBout("2lll", "0lww", 3, 2, 6);
        dueBout("2lll", "3lll", 3, 1, 4);
        edge(8, "PARRY for LUNGE, FEINT for PARRY, LUNGE for FEINT, LUNGE for WAIT");
        dueBout("2www", "0lll", 3, 1, 4);
        dueBout("2www", "0ppp", 3, 0, 4);
        dueBout("2www", "0fff", 3, 0, 4);
        dueBout("2www", "0www", 3, 0, 4);
        edge(8, "what beats the MOVE that the other one made in the PASS ahead of it");
        dueBout("2www", "0lpf", 2, 3, 7);
        dueBout("2www", "1lpf", 0, 3, 7);
        dueBout("2lll", "2www", 3, 3, 8);
        FoilBazaar x = of("BF2pppF0lpf");
        x.step(0);
        dueBout(x, 0, 1, 2, 3, 7);
        x.step(0);
        dueBout(x, 0, 1, 2, 3, 7);
    }

    private static void liars() {
        edge(8, "but he that was hit by it and is a LIAR says no: the other one has none");
        dueBout("1lll", "0lll", 3, 0, 3);
        dueBout("1lll", "1lll", 0, 0, 9);
        dueBout("1lll", "3lll", 3, 0, 3);
        // he says no to nothing else
        dueBout("1lll", "0ppp", 0, 3, 3);
        dueBout("1ppp", "0fff", 0, 3, 3);
        dueBout("1fff", "0lll", 0, 3, 3);
        dueBout("1www", "0lll", 0, 3, 3);
        dueBout("1lll", "2www", 1, 3, 4);
    }

    private static void boutRefused() {
        FoilBazaar x = of("BF0lllF0www");
        edge(8, "UNKNOWN: both; OUTSIDE: both are one, what.");
        for (int bad : NO_FENCERS) {
            due("bout(" + bad + ", 0, 0)", x.bout(bad, 0, 0), UNKNOWN);
            due("bout(0, " + bad + ", 0)", x.bout(0, bad, 0), UNKNOWN);
            due("bout(" + bad + ", " + bad + ", 0)", x.bout(bad, bad, 0), UNKNOWN);
            due("bout(0, " + bad + ", 3)", x.bout(0, bad, 3), UNKNOWN);
            due("bout(" + bad + ", 1, -1)", x.bout(bad, 1, -1), UNKNOWN);
        }
        for (int what = -1; what <= 3; what++) {
            due("bout(0, 0, " + what + ")", x.bout(0, 0, what), OUTSIDE);
            due("bout(1, 1, " + what + ")", x.bout(1, 1, what), OUTSIDE);
        }
        for (int what : new int[] {Integer.MIN_VALUE, -1, 3, Integer.MAX_VALUE}) {
            due("bout(0, 1, " + what + ")", x.bout(0, 1, what), OUTSIDE);
        }
        due("bout(0, 1, 2)", x.bout(0, 1, 2), 3);
    }

    private static void costs() {
        edge(9, "(0 at least)");
        int[] prices = {0, 2, 3, 4, 9};
        int[] forHimWhoHits = {0, 0, 0, 1, 6};
        int[] forHimWhoIsHit = {3, 5, 6, 7, 12};
        for (int k = 0; k < prices.length; k++) {
            due("price " + prices[k] + ", 3 to 0", of("BF0wwwF0lllG0" + prices[k]).cost(1, 0), forHimWhoHits[k]);
            due("price " + prices[k] + ", 0 to 3", of("BF0lllF0wwwG0" + prices[k]).cost(1, 0), forHimWhoIsHit[k]);
        }
        edge(9, "its PRICE and the HITS that it had itself taken, less those that it made");
        due("price 0, 3 to 3", of("BF0lllF0lllG00").cost(1, 0), 0);
        due("price 1, 2 to 3", of("BF0lpfF0fffG01").cost(1, 0), 2);
        due("price 1, 3 to 2", of("BF0fffF0lpfG01").cost(1, 0), 0);
        edge(9, "by a BOUT of it with him whose it is");
        FoilBazaar x = of("BF0lllF0wwwF0lllG05");
        due("of fencer 0", x.cost(1, 0), 8);
        due("meet(2, 0)", x.meet(2, 0), 2);
        due("of fencer 2 for him who had it", x.cost(0, 0), 5);
        FoilBazaar feet = of("BF0lwwF0pwwG05");
        due("3 to 0", feet.cost(1, 0), 2);
        feet.step(1);
        due("0 to 3 by other feet", feet.cost(1, 0), 8);
        feet.step(0);
        due("3 to 0 by other feet of both", feet.cost(1, 0), 2);
    }

    private static void costRefused() {
        edge(9, "UNKNOWN: both; STATE: it is its.");
        FoilBazaar x = of("BF0lllF0wwwG00G10");
        for (int bad : NO_FENCERS) {
            due("cost(" + bad + ", 0)", x.cost(bad, 0), UNKNOWN);
            due("cost(0, " + bad + ")", x.cost(0, bad), UNKNOWN);
            due("cost(" + bad + ", " + bad + ")", x.cost(bad, bad), UNKNOWN);
        }
        due("cost(0, 0)", x.cost(0, 0), STATE);
        due("cost(1, 1)", x.cost(1, 1), STATE);
        due("meet(0, 1)", x.meet(0, 1), 0);
        due("cost(0, 1) when it is its by a meeting", x.cost(0, 1), STATE);
        due("cost(1, 1) when it is its no more", x.cost(1, 1), 3);
    }

    private static void dueHeld(FoilBazaar x, int good, int owner, int purseOfNought, int purseOfOne) {
        due("whose good " + good, x.good(good, 0), owner);
        due("purse of 0", x.fencer(0, 2), purseOfNought);
        due("purse of 1", x.fencer(1, 2), purseOfOne);
    }

    private static void meetingsPaid() {
        edge(10, "if its PURSE holds the COST, that goes from PURSE to PURSE");
        FoilBazaar just = of("BF0wwwF0wwwG09G00");
        due("meet(1, 0) for all it has", just.meet(1, 0), 1);
        dueHeld(just, 0, 1, 18, 0);
        due("meet(1, 1) for nothing, having nothing", just.meet(1, 1), 1);
        dueHeld(just, 1, 1, 18, 0);
        FoilBazaar dear = of("BF0lllF0wwwG09");
        fillPurse(dear, 1, 12);
        due("meet(1, 0) for 12 of 12", dear.meet(1, 0), 1);
        dueHeld(dear, 0, 1, 21, 0);
        FoilBazaar free = of("BF0wwwF0lllG03");
        due("meet(1, 0) for 0", free.meet(1, 0), 1);
        dueHeld(free, 0, 1, 9, 9);
        edge(10, "(99 at most), and the GOOD is its");
        for (int purse = 89; purse <= 99; purse++) {
            FoilBazaar rich = of("BF0wwwF0wwwG09");
            fillPurse(rich, 0, purse);
            due("meet(1, 0) of him who has " + purse, rich.meet(1, 0), 1);
            dueHeld(rich, 0, 1, Math.min(99, purse + 9), 0);
        }
    }

    private static void meetingsNotPaid() {
        edge(10, "else nothing of that; in either case FEET of both are 1 more");
        FoilBazaar x = of("BF0lwwF0wwwG07");
        due("cost(1, 0)", x.cost(1, 0), 10);
        due("meet(1, 0) with 9 for 10", x.meet(1, 0), 0);
        dueHeld(x, 0, 0, 9, 9);
        due("feet of 0", x.fencer(0, 3), 1);
        due("feet of 1", x.fencer(1, 3), 1);
        due("THE DAY", x.count(3), 1);
        due("it is an ACT", x.count(8), 1);
        due("salute(1, 1)", x.salute(1, 1), 10);
        due("meet(1, 0) with 10 for 10", x.meet(1, 0), 1);
        dueHeld(x, 0, 1, 19, 0);
        due("feet of 0", x.fencer(0, 3), 2);
        due("feet of 1", x.fencer(1, 3), 2);
        due("THE DAY", x.count(3), 2);
        edge(10, "whose the GOOD is then");
        due("meet(0, 0)", x.meet(0, 0), 0);
        due("meet(1, 0) with 4 for 10", x.meet(1, 0), 0);
    }

    private static void feetInMeetings() {
        edge(10, "(2 at most, then 0 again), and THE DAY is one more");
        FoilBazaar x = of("BF0wwwF0wwwF0wwwG00");
        for (int k = 1; k <= 7; k++) {
            due("meet " + k, x.meet(k % 2, 0), k % 2);
            due("feet of 0", x.fencer(0, 3), k % 3);
            due("feet of 1", x.fencer(1, 3), k % 3);
            due("feet of 2", x.fencer(2, 3), 0);
            due("THE DAY", x.count(3), k);
        }
        FoilBazaar masters = of("BF3wwwF2wwwG00");
        for (int k = 1; k <= 4; k++) {
            due("meet " + k, masters.meet(k % 2, 0), k % 2);
            due("feet of a master", masters.fencer(0, 3), 0);
            due("feet of a blind one", masters.fencer(1, 3), k % 3);
        }
        // what it costs goes by the feet as they were ahead of the meeting
        FoilBazaar ahead = of("BF0lppF0pllG07");
        due("cost(1, 0)", ahead.cost(1, 0), 8);
        due("meet(1, 0)", ahead.meet(1, 0), 1);
        dueHeld(ahead, 0, 1, 17, 1);
    }

    private static void meetRefused() {
        edge(10, "UNKNOWN: both; STATE: it is its.");
        FoilBazaar x = of("BF0lllF0wwwG00G10");
        for (int bad : NO_FENCERS) {
            due("meet(" + bad + ", 0)", x.meet(bad, 0), UNKNOWN);
            due("meet(0, " + bad + ")", x.meet(0, bad), UNKNOWN);
            due("meet(" + bad + ", " + bad + ")", x.meet(bad, bad), UNKNOWN);
        }
        due("meet(0, 0)", x.meet(0, 0), STATE);
        due("meet(1, 1)", x.meet(1, 1), STATE);
        due("THE DAY", x.count(3), 0);
        due("FEET", x.count(5), 0);
        due("ACTS", x.count(8), 0);
        due("meet(0, 1)", x.meet(0, 1), 0);
        due("meet(0, 1) when it is its", x.meet(0, 1), STATE);
        due("THE DAY", x.count(3), 1);
        due("FEET", x.count(5), 2);
        due("ACTS", x.count(8), 1);
    }

    private static void steps() {
        edge(11, "STEPPED: a FENCER's FEET are 1 more, likewise.");
        FoilBazaar x = of("BF0lllF1lllF2lllF3lll");
        for (int f = 0; f < 4; f++) {
            for (int k = 1; k <= 4; k++) {
                due("step(" + f + ") the " + k + "th time", x.step(f), f == 3 ? 0 : k % 3);
            }
        }
        due("THE DAY", x.count(3), 0);
        due("a master's steps are ACTS too", x.count(8), 14);
        due("FEET together", x.count(5), 3);
        edge(11, "STEPPED: its FEET. UNKNOWN.");
        for (int bad : new int[] {Integer.MIN_VALUE, -1, 4, 6, Integer.MAX_VALUE}) {
            due("step(" + bad + ")", x.step(bad), UNKNOWN);
        }
        due("FEET together", x.count(5), 3);
        edge(11, "An object is used for at most 512 calls");
        FoilBazaar tired = of("BF0lll");
        for (int call = 8; call <= 512; call++) {
            due("call " + call, tired.step(0), (call - 7) % 3);
        }
    }

    private static void salutes() {
        edge(12, "a FENCER has n (1 to 9) more in its PURSE (99 at most)");
        FoilBazaar x = of("BF0lllF3www");
        due("salute(0, 1)", x.salute(0, 1), 10);
        due("salute(0, 9)", x.salute(0, 9), 19);
        due("the other one's purse", x.fencer(1, 2), 9);
        fillPurse(x, 0, 90);
        due("90 and 9", x.salute(0, 9), 99);
        due("99 and 1", x.salute(0, 1), 99);
        due("99 and 9", x.salute(0, 9), 99);
        due("THE DAY", x.count(3), 0);
        fillPurse(x, 1, 91);
        due("91 and 7", x.salute(1, 7), 98);
        due("98 and 1", x.salute(1, 1), 99);
        edge(12, "UNKNOWN; OUTSIDE: n.");
        FoilBazaar refused = of("BF0lllF0www");
        for (int n : new int[] {Integer.MIN_VALUE, -9, -1, 0, 10, Integer.MAX_VALUE}) {
            due("salute(0, " + n + ")", refused.salute(0, n), OUTSIDE);
            due("salute(2, " + n + ")", refused.salute(2, n), UNKNOWN);
            due("salute(-1, " + n + ")", refused.salute(-1, n), UNKNOWN);
        }
        for (int bad : NO_FENCERS) {
            due("salute(" + bad + ", 1)", refused.salute(bad, 1), UNKNOWN);
        }
        due("PURSES", refused.count(4), 18);
        due("ACTS", refused.count(8), 0);
        due("a salute at 99 is an ACT", saluteAtMost().count(8), 11);
    }

    private static FoilBazaar saluteAtMost() {
        FoilBazaar x = of("BF0lll");
        for (int k = 0; k < 11; k++) {
            x.salute(0, 9);
        }
        return x;
    }

    private static void undone() {
        edge(13, "The last ACT is undone: how many are left.");
        FoilBazaar x = of(FOUR);
        x.meet(1, 0);
        x.salute(2, 5);
        x.step(0);
        due("undo() of a step", x.undo(), 2);
        due("feet of 0", x.fencer(0, 3), 1);
        due("purse of 2", x.fencer(2, 2), 14);
        due("undo() of a salute", x.undo(), 1);
        due("purse of 2", x.fencer(2, 2), 9);
        due("whose good 0", x.good(0, 0), 1);
        due("undo() of a meeting", x.undo(), 0);
        due("whose good 0", x.good(0, 0), 0);
        due("PURSES", x.fencer(0, 2) * 100 + x.fencer(1, 2), 909);
        due("FEET", x.count(5), 0);
        due("THE DAY", x.count(3), 0);
        edge(13, "STATE: there is none.");
        due("undo()", x.undo(), STATE);
        due("undo() again", x.undo(), STATE);
        due("THE DAY", x.count(3), 0);
        due("undo() of a new BAZAAR", of(FOUR).undo(), STATE);
        due("undo() of no BAZAAR", new FoilBazaar().undo(), STATE);
        edge(13, "the last one can be undone");
        x.step(0);
        due("an ACT after that", x.count(8), 1);
        due("refused calls are no ACTS", x.step(9) + x.salute(0, 0) + x.meet(0, 0), UNKNOWN + OUTSIDE + STATE);
        due("undo()", x.undo(), 0);
        due("feet of 0", x.fencer(0, 3), 0);
    }

    private static void undoneOfMany() {
        edge(13, "are a row (14 at most; of more the first one is forgotten)");
        for (int acts = 13; acts <= 40; acts++) {
            FoilBazaar x = of("BF0wwwF0www");
            for (int k = 0; k < acts; k++) {
                x.salute(0, 1);
            }
            int left = Math.min(14, acts);
            due("count(8) of " + acts, x.count(8), left);
            for (int k = left - 1; k >= 0; k--) {
                due("undo() of " + acts, x.undo(), k);
            }
            due("undo() of none", x.undo(), STATE);
            due("purse of 0 of " + acts, x.fencer(0, 2), 9 + acts - left);
        }
        FoilBazaar mixed = of("BF0wwwF0wwwG00");
        for (int k = 1; k <= 20; k++) {
            mixed.meet(k % 2, 0);
        }
        due("THE DAY", mixed.count(3), 20);
        due("count(8)", mixed.count(8), 14);
        due("undo()", mixed.undo(), 13);
        due("two ACTS more", mixed.step(0) + 10 * mixed.step(1), 22);
        due("count(8)", mixed.count(8), 14);
        for (int k = 13; k >= 0; k--) {
            due("undo()", mixed.undo(), k);
        }
        due("THE DAY of the first that is left", mixed.count(3), 7);
    }

    private static void undoneAtLimits() {
        edge(13, "can be undone");
        FoilBazaar feet = of("BF0lll");
        steps(feet, 0, 3);
        due("undo() of the step from 2 to 0", feet.undo(), 2);
        due("feet", feet.fencer(0, 3), 2);
        FoilBazaar purse = of("BF0lll");
        fillPurse(purse, 0, 95);
        int acts = purse.count(8);
        due("salute to 99", purse.salute(0, 9), 99);
        due("undo() of it", purse.undo(), acts);
        due("purse", purse.fencer(0, 2), 95);
        FoilBazaar rich = of("BF0wwwF0wwwG09");
        fillPurse(rich, 0, 97);
        acts = rich.count(8);
        due("meet of a rich one", rich.meet(1, 0), 1);
        due("his purse", rich.fencer(0, 2), 99);
        due("undo() of it", rich.undo(), acts);
        dueHeld(rich, 0, 0, 97, 9);
        FoilBazaar dear = of("BF0lllF0wwwG09");
        steps(dear, 0, 2);
        due("meet that can not be paid", dear.meet(1, 0), 0);
        due("feet of 0", dear.fencer(0, 3), 0);
        due("undo() of it", dear.undo(), 2);
        due("feet of 0", dear.fencer(0, 3), 2);
        due("feet of 1", dear.fencer(1, 3), 0);
        due("THE DAY", dear.count(3), 0);
        FoilBazaar master = of("BF3lll");
        due("step of a master", master.step(0), 0);
        due("undo() of it", master.undo(), 0);
        due("undo() of none", master.undo(), STATE);
    }
}
