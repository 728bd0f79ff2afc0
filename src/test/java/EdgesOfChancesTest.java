/** The boundary cases of shares, rests, clouds and feasts: promises 20 to 24. */
public final class EdgesOfChancesTest extends Edges {
    private static final long FACTOR = 6364136223846793005L, MORE = 1442695040888963407L;

    public static void main(String[] args) {
        shareOfNothing();
        shareOfMany();
        shareComeOrNot();
        shareRefused();
        restsOfNone();
        restsOfAll();
        restsFirst();
        restsChosen();
        restsRefused();
        cloudsOfNoneAndAll();
        cloudsOfSixPasses();
        cloudsOfTies();
        cloudsInLeastTerms();
        cloudsNow();
        cloudedRefused();
        seeds();
        feastsOfOneAndThirty();
        feastsRefused();
        feastsOfEachDraw();
        feastsWithNobody();
        feastsOfMeetings();
        feastsOfStepsAndSalutes();
        feastsTogether();
        end("EdgesOfChancesTest", 20, 24);
    }

    private static void dueShare(FoilBazaar x, int fencer, int above, int below) {
        due("share(" + fencer + ", true)", x.share(fencer, true), above);
        due("share(" + fencer + ", false)", x.share(fencer, false), below);
    }

    private static void shareOfNothing() {
        edge(20, "below (1 and more), in least terms");
        dueShare(of("BF0lll"), 0, 0, 1);
        dueShare(of("BF0wwwF0www"), 0, 0, 1);
        dueShare(of("BF0lllF0lll"), 1, 0, 1);
        dueShare(of("BF0lllF0www"), 1, 0, 1);
        // 0 is beaten by five, 1 by two, 3 by three, 4 by one, 5 by three
        FoilBazaar x = of("BF0flpF0wppF1lwwF1flwF0lpwF1wlf");
        int[] beats = {0, 0b101001, 0b111011, 0b000001, 0b101011, 0b000001};
        int[] above = {0, 13, 71, 1, 41, 1};
        int[] below = {1, 15, 30, 5, 30, 5};
        for (int f = 0; f < 6; f++) {
            due("whom " + f + " beats", x.fencer(f, 5), beats[f]);
            dueShare(x, f, above[f], below[f]);
        }
    }

    private static void shareOfMany() {
        edge(20, "BEATEN by one that has come, or more");
        dueShare(of("BF0lllF0wwwF0wwwF0wwwF0wwwF0www"), 0, 5, 1);
        dueShare(of("BF0lllF0lllF0www"), 0, 1, 2);
        dueShare(of("BF0lllF0lllF0lllF0www"), 1, 1, 3);
        dueShare(of("BF0lllF0lllF0lllF0lllF0www"), 2, 1, 4);
        dueShare(of("BF0lllF0lllF0lllF0lllF0lllF0www"), 4, 1, 5);
        dueShare(of("BF0lllF0lllF0wwwF0www"), 0, 1, 1);
        dueShare(of("BF0lllF0lllF0lllF0lllF0wwwF0www"), 0, 1, 2);
        FoilBazaar x = of(FOUR);
        dueShare(x, 0, 5, 6);
        dueShare(x, 1, 11, 6);
        dueShare(x, 2, 0, 1);
        dueShare(x, 3, 1, 3);
    }

    private static void shareComeOrNot() {
        edge(20, "FENCERS (come or not)");
        FoilBazaar two = of("BF0lllF0www");
        dueShare(two, 0, 1, 1);
        FoilBazaar ring = of("BF0lllF0pppF0fff");
        for (int f = 0; f < 3; f++) {
            dueShare(ring, f, 1, 1);
        }
        FoilBazaar now = of("BF0lwwF0pww");
        dueShare(now, 1, 1, 1);
        now.step(1);
        dueShare(now, 1, 0, 1);
        dueShare(now, 0, 1, 1);
    }

    private static void shareRefused() {
        edge(20, "refusals of them are told likewise");
        FoilBazaar x = of("BF0lllF0www");
        for (int bad : new int[] {Integer.MIN_VALUE, -1, 2, 6, Integer.MAX_VALUE}) {
            dueShare(x, bad, UNKNOWN, UNKNOWN);
            dueShare(new FoilBazaar(), bad, UNKNOWN, UNKNOWN);
        }
    }

    private static void dueRests(FoilBazaar x, int one, int other, int many, int first) {
        due("rests(" + one + ", " + other + ", 0)", x.rests(one, other, 0), many);
        due("rests(" + one + ", " + other + ", 1)", x.rests(one, other, 1), first);
    }

    private static void restsOfNone() {
        edge(21, "RESTS: how many (what = 0), the first (1); NONE.");
        FoilBazaar x = of("BF0lpfF0lpfF0lwwF0pww");
        dueRests(x, 0, 1, 0, NONE);
        dueRests(x, 1, 0, 0, NONE);
        dueRests(x, 2, 3, 0, NONE);
    }

    private static void restsOfAll() {
        edge(21, "pairs in which neither has more by other FEET alone");
        FoilBazaar x = of("BF0wwwF0wwwF3lpfF3pflF2lpfF2fpl");
        dueRests(x, 0, 1, 9, 0);
        dueRests(x, 2, 3, 9, 0);
        dueRests(x, 4, 5, 9, 0);
        dueRests(x, 2, 4, 9, 0);
        dueRests(of("BF0lllF0www"), 0, 1, 9, 0);
    }

    private static void restsFirst() {
        edge(21, "the first (10 times the one and the other)");
        // of turned moves that one is best which parries first
        String[] turned = {"pll", "lpl", "llp"};
        for (int one = 0; one < 3; one++) {
            for (int other = 0; other < 3; other++) {
                FoilBazaar x = of("BF0" + turned[one] + "F0" + turned[other]);
                dueRests(x, 0, 1, 1, 10 * one + other);
                dueRests(x, 1, 0, 1, 10 * other + one);
            }
        }
        // a master has no other feet to choose: the other one's choice alone tells
        FoilBazaar master = of("BF3lpfF0lpf");
        dueRests(master, 0, 1, 3, 1);
        dueRests(master, 1, 0, 3, 10);
    }

    private static void restsChosen() {
        edge(21, "each chooses its FEET (0 to 2) for a BOUT of both");
        FoilBazaar x = of("BF0llpF0lplF3lpf");
        for (int k = 0; k < 3; k++) {
            dueRests(x, 0, 1, 1, 21);
            x.step(0);
            dueRests(x, 0, 1, 1, 21);
            x.step(1);
        }
        due("FEET as they were", x.fencer(0, 3) + x.fencer(1, 3), 0);
    }

    private static void restsRefused() {
        edge(21, "UNKNOWN: both; OUTSIDE: both are one, what.");
        FoilBazaar x = of("BF0lllF0www");
        for (int bad : new int[] {Integer.MIN_VALUE, -1, 2, 6, Integer.MAX_VALUE}) {
            for (int what = -1; what <= 2; what++) {
                due("rests(" + bad + ", 0, " + what + ")", x.rests(bad, 0, what), UNKNOWN);
                due("rests(0, " + bad + ", " + what + ")", x.rests(0, bad, what), UNKNOWN);
                due("rests(" + bad + ", " + bad + ", " + what + ")", x.rests(bad, bad, what), UNKNOWN);
            }
        }
        for (int what : new int[] {Integer.MIN_VALUE, -1, 2, Integer.MAX_VALUE}) {
            due("rests(0, 1, " + what + ")", x.rests(0, 1, what), OUTSIDE);
            due("rests(0, 0, " + what + ")", x.rests(0, 0, what), OUTSIDE);
        }
        due("rests(0, 0, 0)", x.rests(0, 0, 0), OUTSIDE);
        due("rests(1, 1, 1)", x.rests(1, 1, 1), OUTSIDE);
    }

    private static void dueClouded(FoilBazaar x, int one, int other, int tenths, int above, int below) {
        String call = "clouded(" + one + ", " + other + ", " + tenths + ", ";
        due(call + "true)", x.clouded(one, other, tenths, true), above);
        due(call + "false)", x.clouded(one, other, tenths, false), below);
    }

    private static void cloudsOfNoneAndAll() {
        edge(22, "by x tenths (0 to 10)");
        FoilBazaar x = of("BF0lllF0wwwF0fff");
        dueClouded(x, 0, 1, 0, 1, 1);
        dueClouded(x, 1, 0, 0, 0, 1);
        dueClouded(x, 0, 1, 10, 0, 1);
        dueClouded(x, 1, 0, 10, 0, 1);
        dueClouded(x, 1, 2, 5, 0, 1);
        edge(22, "nobody's HITS were seen (they are none)");
        dueClouded(x, 0, 1, 1, 999999, 1000000);
        dueClouded(x, 0, 1, 9, 468559, 1000000);
    }

    private static void cloudsOfSixPasses() {
        edge(22, "of 6 PASSES, however many HITS there are");
        FoilBazaar x = of("BF0lllF0wwwF0wwlF2wwwF1lllF1lll");
        dueClouded(x, 0, 1, 5, 63, 64);
        // hits in passes 2 and 5; a third one in pass 8 is too late
        dueClouded(x, 2, 1, 5, 3, 4);
        // against a blind one who waits: five hits, in passes 1 to 5
        dueClouded(x, 3, 1, 5, 31, 32);
        // a liar's hits stand, those of the other one do not; of two liars nobody has any
        dueClouded(x, 4, 0, 5, 63, 64);
        dueClouded(x, 0, 4, 5, 0, 1);
        dueClouded(x, 4, 5, 5, 0, 1);
    }

    private static void cloudsOfTies() {
        edge(22, "that the one has more than the other: a FRACTION");
        FoilBazaar x = of("BF0lwwF0wlwF0lllF0lll");
        dueClouded(x, 0, 1, 0, 0, 1);
        dueClouded(x, 1, 0, 0, 0, 1);
        // two hits of each: of sixteen clouds 2 leave 2 to 1, 1 leaves 2 to 0, 2 leave 1 to 0
        dueClouded(x, 0, 1, 5, 5, 16);
        dueClouded(x, 1, 0, 5, 5, 16);
        // both lunge in each pass, and are seen together
        dueClouded(x, 2, 3, 5, 0, 1);
    }

    private static void cloudsInLeastTerms() {
        edge(22, "in least terms; refusals of them are told likewise");
        FoilBazaar x = of("BF0lwwF0www");
        int[] above = {1, 99, 24, 91, 21, 3, 16, 51, 9, 19, 0};
        int[] below = {1, 100, 25, 100, 25, 4, 25, 100, 25, 100, 1};
        for (int tenths = 0; tenths <= 10; tenths++) {
            dueClouded(x, 0, 1, tenths, above[tenths], below[tenths]);
        }
    }

    private static void cloudsNow() {
        edge(22, "CLOUDED: a BOUT of two FENCERS now");
        FoilBazaar x = of("BF0lwwF2lll");
        // the plain one hits in pass 0, both in 3, the blind one in 2 and 5
        dueClouded(x, 0, 1, 5, 1, 8);
        x.step(0);
        // now the blind one hits in passes 1 and 4, both in 2 and 5
        dueClouded(x, 0, 1, 5, 0, 1);
        dueClouded(x, 1, 0, 5, 3, 4);
        x.step(1);
        dueClouded(x, 1, 0, 5, 3, 4);
    }

    private static void cloudedRefused() {
        edge(22, "UNKNOWN: both; OUTSIDE: both are one, x.");
        FoilBazaar x = of("BF0lllF0www");
        for (int bad : new int[] {Integer.MIN_VALUE, -1, 2, 6, Integer.MAX_VALUE}) {
            dueClouded(x, bad, 0, 5, UNKNOWN, UNKNOWN);
            dueClouded(x, 0, bad, 11, UNKNOWN, UNKNOWN);
            dueClouded(x, bad, bad, -1, UNKNOWN, UNKNOWN);
        }
        for (int tenths : new int[] {Integer.MIN_VALUE, -1, 11, Integer.MAX_VALUE}) {
            dueClouded(x, 0, 1, tenths, OUTSIDE, OUTSIDE);
            dueClouded(x, 1, 1, tenths, OUTSIDE, OUTSIDE);
        }
        dueClouded(x, 0, 0, 0, OUTSIDE, OUTSIDE);
        dueClouded(x, 1, 1, 10, OUTSIDE, OUTSIDE);
    }

    private static void seeds() {
        edge(23, "THE SEED is v: what it was.");
        FoilBazaar x = new FoilBazaar();
        long[] seeds = {0, 1, -1, Long.MAX_VALUE, Long.MIN_VALUE, 1L << 32, (1L << 32) - 1, 1L << 31, 0};
        long was = 0;
        for (long seed : seeds) {
            due("seed(" + seed + ")", x.seed(seed), was);
            was = seed;
        }
        due("seed(0)", x.seed(0), 0);
    }

    private static long next(long seed) {
        return seed * FACTOR + MORE;
    }

    /** The least seed by which the draws that follow are these. */
    private static long seedFor(int... draws) {
        for (long start = 0; ; start++) {
            long seed = start;
            int at = 0;
            while (at < draws.length && Long.remainderUnsigned(next(seed) >>> 33, 42) == draws[at]) {
                seed = next(seed);
                at++;
            }
            if (at == draws.length) {
                return start;
            }
        }
    }

    private static void dueFeasts(FoilBazaar x, int want, int... draws) {
        long seed = seedFor(draws);
        x.seed(seed);
        due("feasts(" + draws.length + ") by " + java.util.Arrays.toString(draws), x.feasts(draws.length), want);
        for (int k = 0; k < draws.length; k++) {
            seed = next(seed);
        }
        due("THE SEED then", x.seed(0), seed);
    }

    private static void feastsOfOneAndThirty() {
        edge(24, "m times (1 to 30)");
        FoilBazaar x = of("BF0wwwF0wwwG00");
        long[] starts = {0, 1, -1, Long.MAX_VALUE, Long.MIN_VALUE, 123456789012345L};
        for (long start : starts) {
            for (int m : new int[] {1, 2, 29, 30}) {
                x.seed(start);
                int together = x.feasts(m);
                due("feasts(" + m + ") is 0 to " + m, together >= 0 && together <= m ? 1 : 0, 1);
                long seed = start;
                for (int k = 0; k < m; k++) {
                    seed = next(seed);
                }
                due("THE SEED after " + m, x.seed(0), seed);
            }
        }
        edge(24, "(64 bits, wrapping)");
        x.seed(2);
        x.feasts(1);
        due("the next of 2", x.seed(0), -4275776585127002199L);
    }

    private static void feastsRefused() {
        edge(24, "FEASTS. OUTSIDE: m.");
        FoilBazaar x = of(FOUR);
        x.seed(5);
        for (int m : new int[] {Integer.MIN_VALUE, -1, 0, 31, 32, Integer.MAX_VALUE}) {
            due("feasts(" + m + ")", x.feasts(m), OUTSIDE);
            due("feasts(" + m + ") of nobody", new FoilBazaar().feasts(m), OUTSIDE);
        }
        due("THE SEED stays", x.seed(0), 5);
    }

    private static void feastsOfEachDraw() {
        edge(24, "its upper 31 bits by 42, what is left");
        FoilBazaar x = of("BF0wwwF0wwwF0wwwF0wwwF0wwwF0wwwG00G10G20G30G40");
        for (int draw = 0; draw < 42; draw++) {
            boolean goes = draw < 30 && draw / 5 != draw % 5;
            dueFeasts(x, goes ? 1 : 0, draw);
        }
        edge(24, "that by 5 (cut) is a FENCER that MET him whose the GOOD is that is left by 5");
        // the last FENCER meets for the last GOOD, then the first one for it, then he whose it was told
        dueFeasts(x, 1, 29);
        dueFeasts(x, 2, 29, 4);
        dueFeasts(x, 1, 29, 24);
        due("nothing is changed", x.count(3) + x.count(5) + x.count(6) + x.count(8), 0);
    }

    private static void feastsWithNobody() {
        edge(24, "if there are both, and it is not its");
        // the meeting of 1 for good 0 costs 4 of its 9; feet of one of both moved, it would cost 10
        FoilBazaar x = of("BF0lwwF0pwwG07");
        dueFeasts(x, 1, 5);
        dueFeasts(x, 1, 0, 5);
        dueFeasts(x, 1, 6, 5);
        dueFeasts(x, 1, 1, 5);
        dueFeasts(x, 1, 10, 5);
        dueFeasts(x, 1, 29, 5);
        edge(24, "each if there is such a one");
        dueFeasts(x, 1, 32, 5);
        dueFeasts(x, 1, 35, 5);
        dueFeasts(x, 1, 38, 5);
        dueFeasts(x, 1, 41, 5);
        FoilBazaar nobody = of("B");
        for (int draw = 0; draw < 42; draw++) {
            dueFeasts(nobody, 0, draw);
        }
    }

    private static void feastsOfMeetings() {
        edge(24, "a FENCER that MET him");
        // 1 can not pay 10 twice, but its feet move on by it, the master's do not: then it costs 4
        FoilBazaar x = of("BF3lwwF0wwpG07");
        dueFeasts(x, 0, 5, 5);
        dueFeasts(x, 1, 5, 5, 5);
        // it pays 9 of its 9, and has nothing for the other one then
        FoilBazaar poor = of("BF0wwwF0wwwG09G01");
        dueFeasts(poor, 1, 6);
        dueFeasts(poor, 2, 5, 6);
        // what it paid is in the purse of the other one, who can pay 3 more than he had
        FoilBazaar back = of("BF0wwwF0lllG09");
        due("cost(1, 0)", back.cost(1, 0), 6);
        dueFeasts(back, 1, 5, 0);
        FoilBazaar dear = of("BF0lllF0wwwG09");
        dueFeasts(dear, 0, 5);
    }

    private static void feastsOfStepsAndSalutes() {
        edge(24, "30 to 35 that less 30 FENCER STEPPED");
        FoilBazaar x = of("BF0lwwF0pwwG07");
        dueFeasts(x, 0, 31, 5);
        dueFeasts(x, 0, 30, 5);
        dueFeasts(x, 1, 30, 31, 5);
        dueFeasts(x, 1, 31, 31, 31, 5);
        FoilBazaar master = of("BF3lwwF0pwwG07");
        dueFeasts(master, 1, 30, 5);
        FoilBazaar last = of("BF0wwwF0wwwF0wwwF0wwwF0lwwF0pwwG47");
        dueFeasts(last, 1, 25);
        dueFeasts(last, 0, 35, 25);
        dueFeasts(last, 0, 34, 25);
        dueFeasts(last, 1, 33, 25);
        edge(24, "36 to 41 that less 36 FENCER is SALUTED with 2");
        FoilBazaar dear = of("BF0lllF0wwwG09");
        dueFeasts(dear, 0, 37, 5);
        dear.salute(1, 1);
        dueFeasts(dear, 1, 37, 5);
        dueFeasts(dear, 0, 36, 5);
        dueFeasts(dear, 0, 38, 5);
        FoilBazaar first = of("BF0wwwF0lllG18");
        dueFeasts(first, 0, 0);
        dueFeasts(first, 1, 36, 0);
        dueFeasts(first, 0, 37, 0);
        FoilBazaar sixth = of("BF0lllF0wwwF0wwwF0wwwF0wwwF0wwwG08");
        dueFeasts(sixth, 0, 25);
        dueFeasts(sixth, 1, 41, 25);
        dueFeasts(sixth, 0, 40, 25);
    }

    private static void feastsTogether() {
        edge(24, "how many GOODS are not his whose they were told, each time, together");
        FoilBazaar x = of("BF0wwwF0wwwG00G00");
        dueFeasts(x, 2, 5, 41);
        dueFeasts(x, 3, 5, 6);
        dueFeasts(x, 1, 5, 0);
        x.meet(1, 0);
        dueFeasts(x, 1, 41);
        dueFeasts(x, 2, 41, 35);
        dueFeasts(x, 0, 0);
        edge(24, "(Nothing changes but THE SEED.)");
        due("whose good 0", x.good(0, 0), 1);
        due("THE DAY", x.count(3), 1);
        due("FEET", x.count(5), 2);
        due("PURSES", x.count(4), 18);
        due("ACTS", x.count(8), 1);
        due("undo()", x.undo(), 0);
    }
}
