import java.util.Random;

/** Long runs of drawn calls, right and wrong ones, on the class and on the oracle side by side. */
public final class OracleTest {
    private static final int RUNS = 400, CALLS = 512;

    private final Random random;
    private final int run;
    private final FoilBazaar x = new FoilBazaar();
    private final Oracle o = new Oracle();
    private int calls;

    private OracleTest(int run) {
        this.run = run;
        this.random = new Random(run);
    }

    public static void main(String[] args) {
        for (int run = 1; run <= RUNS && Check.wrongs() < 20; run++) {
            new OracleTest(run).go();
        }
        Check.end("OracleTest");
    }

    private void go() {
        while (calls < CALLS) {
            if (calls == 0 || random.nextInt(100) == 0) {
                tell();
            } else {
                call();
            }
        }
    }

    private void due(String call, long got, long want) {
        calls++;
        Check.due("run " + run + ", call " + calls + ": " + call, got, want);
    }

    private int upTo(int most) {
        return random.nextInt(most + 1);
    }

    /** Mostly 0 to most, now and then just beside it or far off. */
    private int about(int most) {
        int die = random.nextInt(30);
        return die == 0 ? -1 : die == 1 ? most + 1 : die == 2 ? random.nextInt() : upTo(most);
    }

    private String drawnText() {
        StringBuilder text = new StringBuilder("B");
        int fencers = random.nextInt(4) == 0 ? upTo(7) : 3 + upTo(3);
        int goods = upTo(5) + (random.nextInt(20) == 0 ? 1 : 0);
        for (int f = 0, g = 0; f < fencers || g < goods; ) {
            if (f < fencers && (f == 0 || g >= goods || random.nextInt(3) > 0)) {
                text.append('F').append(upTo(3));
                for (int k = 0; k < 3; k++) {
                    text.append("lpfw".charAt(upTo(3)));
                }
                f++;
            } else {
                text.append('G').append(upTo(Math.max(0, f - 1))).append(upTo(random.nextBoolean() ? 2 : 9));
                g++;
            }
        }
        if (random.nextInt(6) == 0) {
            int at = random.nextInt(text.length());
            text.setCharAt(at, random.nextBoolean() ? "BFG0123456789lpfw".charAt(upTo(16)) : (char) upTo(255));
        }
        if (random.nextInt(8) == 0) {
            text.setLength(upTo(text.length()));
        }
        return text.toString();
    }

    private void tell() {
        if (random.nextInt(5) > 0) {
            due("wipe()", x.wipe(), o.wipe());
        }
        String text = drawnText();
        for (int k = 0; k < text.length(); k++) {
            int letter = text.charAt(k);
            due("write(" + letter + ")", x.write(letter), o.write(letter));
            if (random.nextInt(20) == 0) {
                due("fault()", x.fault(), o.fault());
            }
        }
        due("fault() of " + text, x.fault(), o.fault());
        due("bazaar() of " + text, x.bazaar(), o.bazaar());
    }

    private void call() {
        int a = about(5), b = about(5), g = about(4);
        boolean upper = random.nextBoolean();
        switch (random.nextInt(30)) {
            case 0:
                a = about(255);
                due("write(" + a + ")", x.write(a), o.write(a));
                break;
            case 1:
                due("fault()", x.fault(), o.fault());
                break;
            case 2:
                b = about(5);
                due("fencer(" + a + ", " + b + ")", x.fencer(a, b), o.fencer(a, b));
                break;
            case 3:
                b = about(2);
                due("good(" + g + ", " + b + ")", x.good(g, b), o.good(g, b));
                break;
            case 4:
            case 5:
                g = about(2);
                due("bout(" + a + ", " + b + ", " + g + ")", x.bout(a, b, g), o.bout(a, b, g));
                break;
            case 6:
                due("cost(" + a + ", " + g + ")", x.cost(a, g), o.cost(a, g));
                break;
            case 7:
            case 8:
            case 9:
                due("meet(" + a + ", " + g + ")", x.meet(a, g), o.meet(a, g));
                break;
            case 10:
                due("step(" + a + ")", x.step(a), o.step(a));
                break;
            case 11:
                b = about(10);
                due("salute(" + a + ", " + b + ")", x.salute(a, b), o.salute(a, b));
                break;
            case 12:
                due("undo()", x.undo(), o.undo());
                break;
            case 13:
            case 14:
                b = about(1);
                due("chain(" + a + ", " + g + ", " + b + ")", x.chain(a, g, b), o.chain(a, g, b));
                break;
            case 15:
                a = about(1);
                due("order(" + a + ")", x.order(a), o.order(a));
                break;
            case 16:
            case 17:
            case 18:
                judge();
                break;
            default:
                callOfTheRest(a, b, upper);
        }
    }

    private void judge() {
        int n = random.nextInt(15) == 0 ? upTo(6) - 1 : 1 + upTo(3);
        long row = 0;
        for (int k = 0; k < n; k++) {
            int kind = random.nextInt(12) == 0 ? upTo(9) : 1 + upTo(4);
            int second = kind == 2 && random.nextInt(6) > 0 ? 0 : upTo(5);
            row = row * 1000 + 100 * kind + 10 * second + upTo(kind == 3 ? 9 : 5);
        }
        if (random.nextInt(15) == 0) {
            row = random.nextBoolean() ? random.nextLong() : row * 10;
        }
        due("judge(" + n + ", " + row + ")", x.judge(n, row), o.judge(n, row));
    }

    private void callOfTheRest(int a, int b, boolean upper) {
        int c;
        switch (random.nextInt(11)) {
            case 0:
                c = random.nextInt(3) == 0 ? about(9) : upTo(3);
                due("see(" + a + ", " + c + ")", x.see(a, c), o.see(a, c));
                break;
            case 1:
                if (random.nextInt(3) == 0) {
                    due("unsee()", x.unsee(), o.unsee());
                }
                break;
            case 2:
                c = about(1);
                due("masks(" + c + ")", x.masks(c), o.masks(c));
                break;
            case 3:
                due("share(" + a + ", " + upper + ")", x.share(a, upper), o.share(a, upper));
                break;
            case 4:
                c = about(1);
                due("rests(" + a + ", " + b + ", " + c + ")", x.rests(a, b, c), o.rests(a, b, c));
                break;
            case 5:
                c = about(10);
                due("clouded(" + a + ", " + b + ", " + c + ", " + upper + ")",
                    x.clouded(a, b, c, upper), o.clouded(a, b, c, upper));
                break;
            case 6:
                long v = random.nextBoolean() ? random.nextLong() : upTo(100);
                due("seed(" + v + ")", x.seed(v), o.seed(v));
                break;
            case 7:
                c = about(30);
                due("feasts(" + c + ")", x.feasts(c), o.feasts(c));
                break;
            case 8:
                c = about(1);
                due("keep(" + c + ")", x.keep(c), o.keep(c));
                break;
            case 9:
                c = about(1);
                if (random.nextInt(3) == 0) {
                    due("again(" + c + ")", x.again(c), o.again(c));
                }
                break;
            default:
                c = about(9);
                due("count(" + c + ")", x.count(c), o.count(c));
        }
    }
}
