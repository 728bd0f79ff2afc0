/** The boundary cases of what is best and of told doings: promises 14 to 16. */
public final class EdgesOfCounselTest extends Edges {
    public static void main(String[] args) {
        chainOfItsOwn();
        chainOfLikeSums();
        chainOfEachOnce();
        chainAsNow();
        chainRefused();
        orderOfFew();
        orderOfLikeOnes();
        orderAgainst();
        orderRefused();
        judgeRefused();
        judgedFigures();
        judgedMeetings();
        judgedSteps();
        judgedSalutes();
        judgedBeatings();
        judgedGoods();
        judgedPlaces();
        end("EdgesOfCounselTest", 14, 16);
    }

    private static void dueChain(FoilBazaar x, int fencer, int good, int sum, int first) {
        due("chain(" + fencer + ", " + good + ", 0)", x.chain(fencer, good, 0), sum);
        due("chain(" + fencer + ", " + good + ", 1)", x.chain(fencer, good, 1), first);
    }

    private static void chainOfItsOwn() {
        edge(14, "how much (0: it is its)");
        FoilBazaar x = of("BF0wwwF0wwwG09G15");
        dueChain(x, 0, 0, 0, NONE);
        dueChain(x, 1, 1, 0, NONE);
        edge(14, "NONE: it is its");
        due("meet(1, 0)", x.meet(1, 0), 1);
        dueChain(x, 1, 0, 0, NONE);
        dueChain(x, 0, 0, 9, 0);
        dueChain(x, 1, 0, 0, NONE);
        dueChain(of("BF0wwwG09"), 0, 0, 0, NONE);
    }

    private static void chainOfLikeSums() {
        edge(14, "(the least, of like sums;");
        FoilBazaar idle = of("BF0wwwF0wwwF0wwwF0wwwF0wwwF0wwwG00G30G53");
        dueChain(idle, 5, 0, 0, 1);
        dueChain(idle, 1, 0, 0, 1);
        dueChain(idle, 5, 1, 0, 0);
        dueChain(idle, 0, 1, 0, 0);
        // where each hand costs 3 the straight way alone is the least
        dueChain(idle, 4, 2, 3, 4);
        dueChain(of("BF0wwwF0wwwG00"), 1, 0, 0, 1);
    }

    private static void chainOfEachOnce() {
        edge(14, "each being met by the next, each FENCER once at most");
        // by 0 and back to 1 it would cost 1 too, but 1 had it already: from 0 it costs 2 it 3
        dueChain(of("BF0lllF0lpfF0fffG10"), 2, 0, 1, 2);
        edge(14, "the least sum of COSTS");
        // straight it costs 6; the least way goes through the hands of all: 0, 3, 2, 4, 1, 5
        FoilBazaar all = of("BF1wplF0pflF3fpwF0pppF0lflF3wllG03");
        due("cost(5, 0)", all.cost(5, 0), 6);
        dueChain(all, 5, 0, 2, 3);
        dueChain(of("BF0lllF0pppF0fffG03"), 2, 0, 0, 1);
        dueChain(of("BF0fffF0pppF0lllG23"), 0, 0, 0, 1);
        dueChain(of("BF0pppF0lllF0fffG13"), 2, 0, 0, 0);
        // no hand costs less than 0, so that none makes up for another one
        dueChain(of("BF0wwwF0lllG02"), 1, 0, 0, 1);
        dueChain(of("BF0lllF0pppF0fffG02"), 2, 0, 0, 1);
        dueChain(of("BF0lllF0wwwF0lllG22"), 1, 0, 5, 1);
        // the dearest: three taken at the greatest price
        dueChain(of("BF0lllF0wwwG09"), 1, 0, 12, 1);
    }

    private static void chainAsNow() {
        edge(14, "(PURSES, FEET being as they are now)");
        FoilBazaar x = of("BF0lwwF0pwwF0wwwG05");
        dueChain(x, 1, 0, 2, 1);
        x.step(1);
        dueChain(x, 1, 0, 8, 1);
        x.step(0);
        dueChain(x, 1, 0, 2, 1);
        x.salute(1, 9);
        dueChain(x, 1, 0, 2, 1);
        // a purse that can not pay is no hindrance to what it would cost
        FoilBazaar poor = of("BF0wwwF0wwwG09G05");
        due("meet(1, 0) for all it has", poor.meet(1, 0), 1);
        due("its purse", poor.fencer(1, 2), 0);
        dueChain(poor, 1, 1, 5, 1);
        // the second hand is met with feet as they are now, not as a first meeting would leave them
        FoilBazaar hands = of("BF3lwwF0pwwF0fwwG03");
        due("0 to 1", hands.cost(1, 0), 0);
        dueChain(hands, 2, 0, 0, 1);
    }

    private static void chainRefused() {
        edge(14, "UNKNOWN: both; OUTSIDE.");
        FoilBazaar x = of("BF0lllF0wwwG00G11");
        for (int bad : new int[] {Integer.MIN_VALUE, -1, 2, 6, Integer.MAX_VALUE}) {
            for (int what = -1; what <= 2; what++) {
                due("chain(" + bad + ", 0, " + what + ")", x.chain(bad, 0, what), UNKNOWN);
                due("chain(0, " + bad + ", " + what + ")", x.chain(0, bad, what), UNKNOWN);
            }
        }
        for (int what : new int[] {Integer.MIN_VALUE, -1, 2, Integer.MAX_VALUE}) {
            due("chain(1, 0, " + what + ")", x.chain(1, 0, what), OUTSIDE);
            due("chain(0, 0, " + what + ") when it is its", x.chain(0, 0, what), OUTSIDE);
        }
    }

    private static void dueOrder(FoilBazaar x, int few, int order) {
        due("order(0)", x.order(0), few);
        due("order(1)", x.order(1), order);
    }

    private static void orderOfFew() {
        edge(15, "(0: nobody)");
        dueOrder(new FoilBazaar(), 0, 0);
        dueOrder(of("B"), 0, 0);
        edge(15, "(figures, 1 more each)");
        dueOrder(of("BF0lll"), 0, 1);
        dueOrder(of("BF0lllF0www"), 0, 12);
        dueOrder(of("BF0wwwF0lll"), 0, 21);
        // each of these beats all that are told ahead of it, but that 6 and 1 are like
        dueOrder(of("BF0wwwF0lwwF0llwF0lllF1lllF0ppp"), 0, 654321);
    }

    private static void orderOfLikeOnes() {
        edge(15, "of like ones the least");
        dueOrder(of("BF0wwwF0www"), 0, 12);
        dueOrder(of("BF0wwwF0wwwF0wwwF0wwwF0wwwF0www"), 0, 123456);
        dueOrder(of("BF0lllF0lllF0lllF0lllF0lllF0lll"), 0, 123456);
        dueOrder(of("BF0wwwF0wwwF0lll"), 0, 312);
        dueOrder(of("BF0wwwF0lllF0www"), 0, 213);
    }

    private static void orderAgainst() {
        edge(15, "fewest pairs are against it (one BEATS another that stands ahead of it)");
        dueOrder(of("BF0lllF0pppF0fff"), 1, 132);
        dueOrder(of("BF0fffF0pppF0lll"), 1, 123);
        dueOrder(of("BF0lllF0pppF0fffF0lllF0pppF0fff"), 4, 136254);
        FoilBazaar now = of("BF0lwwF0pww");
        dueOrder(now, 0, 21);
        now.step(1);
        dueOrder(now, 0, 12);
        now.step(0);
        dueOrder(now, 0, 21);
    }

    private static void orderRefused() {
        edge(15, "ORDER: how few (what = 0), the order (1). OUTSIDE.");
        FoilBazaar x = of("BF0lllF0www");
        FoilBazaar nobody = new FoilBazaar();
        for (int what : new int[] {Integer.MIN_VALUE, -1, 2, 3, Integer.MAX_VALUE}) {
            due("order(" + what + ")", x.order(what), OUTSIDE);
            due("order(" + what + ") of nobody", nobody.order(what), OUTSIDE);
        }
    }

    private static void dueJudge(FoilBazaar x, int n, long row, int want) {
        due("judge(" + n + ", " + row + ")", x.judge(n, row), want);
    }

    private static void judgeRefused() {
        FoilBazaar x = of(FOUR);
        edge(16, "n doings (1 to 4)");
        for (int n : new int[] {Integer.MIN_VALUE, -1, 0, 5, 6, Integer.MAX_VALUE}) {
            dueJudge(x, n, 0, OUTSIDE);
            dueJudge(x, n, 203, OUTSIDE);
            dueJudge(x, n, -1, OUTSIDE);
        }
        dueJudge(x, 1, 203, NONE);
        dueJudge(x, 4, 203203203203L, NONE);
        edge(16, "row (0 or more, 3 n figures at most)");
        long units = 1;
        for (int n = 1; n <= 4; n++) {
            units *= 1000;
            dueJudge(x, n, 0, 0);
            dueJudge(x, n, units - 1, 0);
            dueJudge(x, n, units, OUTSIDE);
            dueJudge(x, n, 10 * units, OUTSIDE);
            dueJudge(x, n, -1, OUTSIDE);
            dueJudge(x, n, Long.MIN_VALUE, OUTSIDE);
            dueJudge(x, n, Long.MAX_VALUE, OUTSIDE);
            // what 32 bits would cut off is looked at too
            dueJudge(x, n, (1L << 32) * 1000000 + 203, OUTSIDE);
        }
        dueJudge(x, 1, 1203, OUTSIDE);
        dueJudge(x, 2, 203203, NONE);
        dueJudge(x, 2, 1203203, OUTSIDE);
    }

    private static void judgedFigures() {
        edge(16, "told as three figures each");
        FoilBazaar x = of(FOUR);
        dueJudge(x, 2, 203, 0);
        dueJudge(x, 3, 203203, 0);
        dueJudge(x, 4, 203203203, 0);
        for (int kind = 0; kind <= 9; kind++) {
            dueJudge(x, 1, 100L * kind, kind == 2 || kind == 5 ? NONE : 0);
            if (kind == 0 || kind > 5) {
                for (int rest = 0; rest < 100; rest += 11) {
                    dueJudge(x, 1, 100L * kind + rest, 0);
                }
            }
        }
    }

    private static void judgedMeetings() {
        edge(16, "1, a FENCER, a GOOD: MET, and it is its then");
        FoilBazaar x = of(FOUR);
        dueJudge(x, 1, 110, NONE);
        dueJudge(x, 1, 100, 0);
        dueJudge(x, 1, 130, NONE);
        dueJudge(x, 1, 140, 0);
        dueJudge(x, 1, 190, 0);
        dueJudge(x, 1, 112, NONE);
        dueJudge(x, 1, 113, 0);
        dueJudge(x, 1, 119, 0);
        dueJudge(x, 2, 110110, 1);
        dueJudge(x, 2, 110100, NONE);
        FoilBazaar dear = of("BF0lllF0wwwG09");
        dueJudge(dear, 1, 110, 0);
        dueJudge(dear, 2, 312110, 1);
        dueJudge(dear, 2, 313110, NONE);
        // what was paid is in the other one's purse: 12 of 12, then 6 of 21 back
        dueJudge(dear, 4, 313110100510L, 3);
        dueJudge(dear, 4, 313110100500L, NONE);
        due("meet(1, 0) is not paid", dear.meet(1, 0), 0);
        // each meeting goes on from the feet that the one ahead of it left
        FoilBazaar feet = of("BF3lwwF0wpwG00G09");
        dueJudge(feet, 1, 111, 0);
        dueJudge(feet, 2, 110111, NONE);
        dueJudge(feet, 2, 201111, NONE);
        dueJudge(feet, 3, 201201111, 2);
        dueJudge(feet, 4, 201201201111L, 3);
    }

    private static void judgedSteps() {
        edge(16, "2, 0, a FENCER: STEPPED");
        FoilBazaar x = of(FOUR);
        for (int f = 0; f <= 9; f++) {
            dueJudge(x, 1, 200 + f, f < 4 ? NONE : 0);
        }
        for (int middle = 1; middle <= 9; middle++) {
            dueJudge(x, 1, 200 + 10 * middle, 0);
        }
        FoilBazaar feet = of("BF0lwwF0pww");
        dueJudge(feet, 1, 410, NONE);
        dueJudge(feet, 2, 201410, 1);
        dueJudge(feet, 2, 201401, NONE);
        dueJudge(feet, 4, 201201201410L, NONE);
        dueJudge(feet, 3, 201200410, NONE);
        dueJudge(of("BF0lwwF3pww"), 2, 201410, NONE);
        dueJudge(feet, 1, 410, NONE);
    }

    private static void judgedSalutes() {
        edge(16, "3, a FENCER, n: SALUTED");
        FoilBazaar x = of(FOUR);
        dueJudge(x, 1, 300, 0);
        for (int n = 1; n <= 9; n++) {
            dueJudge(x, 1, 300 + n, NONE);
        }
        for (int f = 0; f <= 9; f++) {
            dueJudge(x, 1, 301 + 10 * f, f < 4 ? NONE : 0);
        }
        FoilBazaar full = of("BF0lll");
        fillPurse(full, 0, 99);
        dueJudge(full, 1, 309, NONE);
        due("its purse", full.fencer(0, 2), 99);
    }

    private static void judgedBeatings() {
        edge(16, "4, two FENCERS: the one BEATS the other");
        FoilBazaar x = of(FOUR);
        int[] beats = {0b1100, 0b1101, 0, 0b100};
        for (int one = 0; one <= 9; one++) {
            for (int other = 0; other <= 9; other++) {
                boolean so = one < 4 && other < 4 && (beats[one] >> other & 1) == 1;
                dueJudge(x, 1, 400 + 10 * one + other, so ? NONE : 0);
            }
        }
        FoilBazaar like = of("BF0lllF0lllF0wwwF0www");
        dueJudge(like, 1, 401, 0);
        dueJudge(like, 1, 423, 0);
        dueJudge(like, 1, 402, NONE);
    }

    private static void judgedGoods() {
        edge(16, "5, a FENCER, a GOOD: it is its");
        FoilBazaar x = of(FOUR);
        for (int f = 0; f <= 9; f++) {
            for (int g = 0; g <= 9; g++) {
                dueJudge(x, 1, 500 + 10 * f + g, f == g && g < 3 ? NONE : 0);
            }
        }
        due("meet(1, 0)", x.meet(1, 0), 1);
        dueJudge(x, 1, 510, NONE);
        dueJudge(x, 1, 500, 0);
        dueJudge(x, 3, 100500510, 2);
    }

    private static void judgedPlaces() {
        edge(16, "the place of the first that can not be (or is not so); NONE: none.");
        FoilBazaar x = of(FOUR);
        long[] units = {1000000000L, 1000000L, 1000L, 1L};
        for (int place = 0; place < 4; place++) {
            dueJudge(x, 4, 203203203203L - 203 * units[place], place);
            dueJudge(x, 4, 203203203203L + 297 * units[place], NONE);
            dueJudge(x, 4, 203203203203L + 307 * units[place], place);
            for (int next = place + 1; next < 4; next++) {
                dueJudge(x, 4, 203203203203L - 203 * (units[place] + units[next]), place);
            }
        }
        edge(16, "In what follows nothing is changed.");
        dueJudge(x, 4, 110309201132L, NONE);
        due("DAY, FEET, GOODS, ACTS", x.count(3) + x.count(5) + x.count(6) + x.count(8), 0);
        due("PURSES", x.count(4), 36);
    }
}
