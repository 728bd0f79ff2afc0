/** The boundary cases of the text and what is told of it: promises 1 to 7. */
public final class EdgesOfTextTest extends Edges {
    private static final int[] FAR_OFF = {Integer.MIN_VALUE, -256, -1, 256, 256 + 'B', Integer.MAX_VALUE};

    public static void main(String[] args) {
        newObject();
        newObjectsShareNothing();
        lettersOfWrite();
        fullText();
        wipe();
        faultAtTheStart();
        faultInFencers();
        faultInGoods();
        faultOfMany();
        faultAtTheEnd();
        faultIsTheFirst();
        bazaarCounts();
        bazaarRefused();
        bazaarAnew();
        bazaarOfFewer();
        fencerRefused();
        fencerTold();
        fencerNow();
        goodRefused();
        goodTold();
        end("EdgesOfTextTest", 1, 7);
    }

    private static void newObject() {
        edge(1, "Nobody, nothing.");
        FoilBazaar x = new FoilBazaar();
        for (int what = 0; what <= 9; what++) {
            due("count(" + what + ")", x.count(what), 0);
        }
        due("fault()", x.fault(), 0);
        due("bazaar()", x.bazaar(), STATE);
        due("wipe()", x.wipe(), 0);
        due("unsee()", x.unsee(), 0);
        due("masks(0)", x.masks(0), 64);
        due("masks(1)", x.masks(1), 111);
        due("order(0)", x.order(0), 0);
        due("order(1)", x.order(1), 0);
        due("undo()", x.undo(), STATE);
        due("judge(1, 0)", x.judge(1, 0), 0);
        due("judge(1, 200)", x.judge(1, 200), 0);
        due("again(0)", x.again(0), STATE);
        due("again(1)", x.again(1), STATE);
        due("keep(0)", x.keep(0), 0);
        due("again(0) when nobody was kept", x.again(0), 0);
        due("feasts(30)", x.feasts(30), 0);
        edge(1, "At first there is nobody.");
        for (int f = 0; f < 6; f++) {
            due("fencer(" + f + ", 0)", x.fencer(f, 0), UNKNOWN);
            due("good(" + f + ", 0)", x.good(f, 0), UNKNOWN);
            due("step(" + f + ")", x.step(f), UNKNOWN);
            due("salute(" + f + ", 1)", x.salute(f, 1), UNKNOWN);
            due("see(" + f + ", 0)", x.see(f, 0), UNKNOWN);
            due("share(" + f + ", true)", x.share(f, true), UNKNOWN);
            due("meet(" + f + ", 0)", x.meet(f, 0), UNKNOWN);
            due("cost(" + f + ", 0)", x.cost(f, 0), UNKNOWN);
            due("chain(" + f + ", 0, 0)", x.chain(f, 0, 0), UNKNOWN);
        }
        due("bout(0, 1, 0)", x.bout(0, 1, 0), UNKNOWN);
        due("rests(0, 1, 0)", x.rests(0, 1, 0), UNKNOWN);
        due("clouded(0, 1, 0, true)", x.clouded(0, 1, 0, true), UNKNOWN);
        edge(1, "(THE SEED, a long; 0 at first)");
        due("seed(5)", new FoilBazaar().seed(5), 0);
        edge(1, "none at first");
        due("count(9)", new FoilBazaar().count(9), 0);
    }

    private static void newObjectsShareNothing() {
        edge(1, "Nobody, nothing.");
        FoilBazaar full = of(LARGEST);
        full.meet(0, 1);
        full.keep(0);
        full.see(0, 0);
        full.seed(77);
        FoilBazaar x = new FoilBazaar();
        for (int what = 0; what <= 9; what++) {
            due("count(" + what + ") beside another object", x.count(what), 0);
        }
        due("again(0) beside another object", x.again(0), STATE);
        due("seed(0) beside another object", x.seed(0), 0);
        due("the other one's letters", full.count(0), 46);
        due("the other one's seed", full.seed(0), 77);
    }

    private static void lettersOfWrite() {
        edge(2, "A letter (0 to 255)");
        FoilBazaar x = new FoilBazaar();
        due("write(0)", x.write(0), 1);
        due("write(255)", x.write(255), 2);
        due("write(128)", x.write(128), 3);
        for (int letter : FAR_OFF) {
            due("write(" + letter + ")", x.write(letter), OUTSIDE);
            due("count(0) after it", x.count(0), 3);
        }
        edge(2, "how long it is");
        for (int length = 4; length <= 52; length++) {
            due("write(" + length + ")", x.write(length), length);
            due("count(0)", x.count(0), length);
        }
        edge(2, "comes behind THE TEXT");
        FoilBazaar told = new FoilBazaar();
        for (int k = 0; k < "BF0lll".length(); k++) {
            told.write(256 + 'x');
            told.write("BF0lll".charAt(k));
            told.write(-1);
        }
        due("bazaar() of letters between refused ones", told.bazaar(), 10);
        due("their moves", told.fencer(0, 1), 111);
    }

    private static void fullText() {
        edge(2, "FULL: there are 52.");
        FoilBazaar x = textOf(LARGEST + "xxxxx");
        due("write a 52nd", x.write('x'), 52);
        for (int k = 0; k < 3; k++) {
            due("write a 53rd", x.write('x'), FULL);
            due("count(0)", x.count(0), 52);
        }
        due("write(0)", x.write(0), FULL);
        due("write(255)", x.write(255), FULL);
        edge(2, "of several the first that a call names");
        for (int letter : FAR_OFF) {
            due("write(" + letter + ") when there are 52", x.write(letter), OUTSIDE);
        }
        due("wipe()", x.wipe(), 52);
        due("write after wipe()", x.write('B'), 1);
    }

    private static void wipe() {
        edge(3, "THE TEXT is empty: how long it was.");
        FoilBazaar x = of(FOUR);
        due("wipe()", x.wipe(), 30);
        due("count(0)", x.count(0), 0);
        due("fault()", x.fault(), 0);
        due("bazaar()", x.bazaar(), STATE);
        due("wipe() of an empty one", x.wipe(), 0);
        due("FENCERS stay", x.count(1), 4);
        due("GOODS stay", x.count(2), 3);
        due("write a first one", x.write('B'), 1);
        due("no letter of the old one is left", x.fault(), NONE);
        due("wipe() of one letter", x.wipe(), 1);
        for (int k = 0; k < 60; k++) {
            x.write('B');
        }
        due("wipe() of a full one", x.wipe(), 52);
        due("wipe() again", x.wipe(), 0);
    }

    /** Each of the 256 letters behind a start: those that can stand there leave only the end open. */
    private static void dueBehind(String start, String can) {
        for (int letter = 0; letter <= 255; letter++) {
            FoilBazaar x = textOf(start);
            x.write(letter);
            boolean fits = can.indexOf((char) letter) >= 0;
            int fault = x.fault();
            due("fault() of " + start + " and letter " + letter, fault == start.length() ? 0 : 1, fits ? 1 : 0);
        }
    }

    private static void dueFault(String text, int want) {
        FoilBazaar x = textOf(text);
        due("fault() of " + text, x.fault(), want);
        due("fault() once more of " + text, x.fault(), want);
        due("bazaar() of " + text, x.bazaar() == STATE ? 1 : 0, want == NONE ? 0 : 1);
    }

    private static void faultAtTheStart() {
        edge(4, "A BAZAAR is a TEXT: B, then PARTS, none or more");
        dueFault("B", NONE);
        dueFault("BB", 1);
        dueFault("F0lll", 0);
        dueFault(" B", 0);
        dueBehind("", "B");
        // no GOOD can be told ahead of all FENCERS
        dueBehind("B", "F");
        dueBehind("BF0lll", "FG");
        dueBehind("BF0lllG00", "FG");
    }

    private static void faultInFencers() {
        edge(4, "a FENCER of KIND k: 0 PLAIN, 1 LIAR, 2 BLIND, 3 MASTER");
        dueBehind("BF", "0123");
        dueFault("BF3lll", NONE);
        dueFault("BF4lll", 2);
        edge(4, "each a letter: l LUNGE, p PARRY, f FEINT, w WAIT");
        dueBehind("BF0", "lpfw");
        dueBehind("BF1l", "lpfw");
        dueBehind("BF2lp", "lpfw");
        dueFault("BF0LLL", 3);
    }

    private static void faultInGoods() {
        edge(4, "a GOOD of FENCER o (told ahead of it), of PRICE p (0 to 9)");
        dueFault("BG", 1);
        dueFault("BG00F0lll", 1);
        for (int fencers = 1; fencers <= 6; fencers++) {
            String start = SIX_FENCERS.substring(0, 1 + 5 * fencers) + "G";
            dueBehind(start, "012345".substring(0, fencers));
        }
        dueFault("BF0lllG10F0lll", 7);
        dueFault("BF0lllF0lllG10", NONE);
        dueBehind("BF0lllG0", "0123456789");
        dueFault("BF0lllG0/", 8);
        dueFault("BF0lllG0:", 8);
        dueFault("BF0lllG00G09", NONE);
    }

    private static void faultOfMany() {
        edge(4, "FENCERS (6 at most)");
        dueFault(SIX_FENCERS, NONE);
        dueFault(SIX_FENCERS + "F", 31);
        dueFault(SIX_FENCERS + "F0lll", 31);
        dueFault(SIX_FENCERS + "G00F0lll", 34);
        dueBehind(SIX_FENCERS, "G");
        edge(4, "GOODS (5 at most)");
        dueFault("BF0lllG00G01G02G03G04", NONE);
        dueFault("BF0lllG00G01G02G03G04G", 21);
        dueFault("BF0lllG00G01G02G03G04G05", 21);
        dueFault("BF0lllG00G01G02G03G04F0lll", NONE);
        dueFault("BF0lllG00G01G02G03G04F0lllG", 26);
        dueBehind("BF0lllG00G01G02G03G04", "F");
        dueFault(LARGEST, NONE);
        dueBehind(LARGEST, "");
    }

    private static void faultAtTheEnd() {
        edge(4, "its length, if it is only not at its end; NONE: none.");
        dueFault("", 0);
        String text = "BF0lllF1pppG10F2fffG09G22F3wwwF0lpfG31F1wfpG57";
        String ends = " 1 6 11 14 19 22 25 30 35 38 43 46 ";
        for (int length = 0; length <= text.length(); length++) {
            boolean whole = ends.contains(" " + length + " ");
            dueFault(text.substring(0, length), whole ? NONE : length);
        }
    }

    private static void faultIsTheFirst() {
        edge(4, "the place of the first letter by which THE TEXT can be no BAZAAR");
        dueFault("BF4xxx", 2);
        dueFault("BF0lxx", 4);
        dueFault("BF0lllG1:", 7);
        dueFault("bF4", 0);
        edge(4, "whatever came behind it (its length set aside)");
        FoilBazaar x = textOf("BF0lx");
        for (int k = 5; k < 52; k++) {
            due("fault() of " + k + " letters", x.fault(), 4);
            x.write("llF0lll".charAt(k % 7));
        }
        due("fault() of 52 letters", x.fault(), 4);
        FoilBazaar full = textOf(LARGEST + "F0lllF0lll");
        due("count(0)", full.count(0), 52);
        due("fault() of 52 letters, 46 of them a BAZAAR", full.fault(), 46);
        // 52 letters whose last part is open at its end, but that has told too many ahead of that
        dueFault(SIX_FENCERS + "F0lllF0lllF0lllF0lllF0lll".substring(0, 21), 31);
    }

    private static void bazaarCounts() {
        edge(5, "10 times FENCERS, and GOODS");
        due("bazaar() of B", textOf("B").bazaar(), 0);
        due("bazaar() of one", textOf("BF0lll").bazaar(), 10);
        due("bazaar() of one with five", textOf("BF0lllG00G01G02G03G04").bazaar(), 15);
        due("bazaar() of six", textOf(SIX_FENCERS).bazaar(), 60);
        due("bazaar() of six with five", textOf(LARGEST).bazaar(), 65);
        FoilBazaar x = textOf(FOUR);
        due("bazaar()", x.bazaar(), 43);
        due("THE TEXT stays", x.count(0), 30);
        due("bazaar() again", x.bazaar(), 43);
        edge(5, "are numbered as they are told, each for itself");
        FoilBazaar mixed = of("BF0lllG07F1pppG12F2fffG05F3wwwG30G29");
        int[] owners = {0, 1, 0, 3, 2};
        int[] prices = {7, 2, 5, 0, 9};
        for (int g = 0; g < 5; g++) {
            due("whose good " + g, mixed.good(g, 0), owners[g]);
            due("its price", mixed.good(g, 1), prices[g]);
        }
        for (int f = 0; f < 4; f++) {
            due("kind of fencer " + f, mixed.fencer(f, 0), f);
            due("its moves", mixed.fencer(f, 1), 111 * (f + 1));
        }
    }

    private static void bazaarRefused() {
        edge(5, "STATE: a FAULT.");
        FoilBazaar x = of(FOUR);
        x.meet(1, 0);
        x.keep(1);
        x.step(0);
        String[] broken = {"", "x", "BF", "BG", "BF4", "BF0ll", "BF0lllG", "BF0lllG0", "BF0lllG1", "BF2wwwF2wwwG19G0"};
        for (String text : broken) {
            x.wipe();
            write(x, text);
            due("bazaar() of " + text, x.bazaar(), STATE);
            due("letters stay", x.count(0), text.length());
            due("FENCERS stay", x.count(1), 4);
            due("GOODS stay", x.count(2), 3);
            due("THE DAY stays", x.count(3), 1);
            due("ACTS stay", x.count(8), 2);
            due("MOVES stay", x.fencer(0, 1), 112);
            due("KIND stays", x.fencer(1, 0), 1);
            due("PRICE stays", x.good(0, 1), 3);
            due("whose it is stays", x.good(0, 0), 1);
            due("whose it was told stays", x.good(1, 2), 1);
        }
        due("what was kept stays", x.again(1), 1);
    }

    private static void bazaarAnew() {
        FoilBazaar x = of(FOUR);
        x.meet(1, 0);
        x.meet(3, 2);
        x.salute(0, 9);
        x.step(0);
        x.see(0, 2);
        x.see(3, 1);
        x.seed(-77);
        x.keep(0);
        x.keep(1);
        due("bazaar() of the same text", x.bazaar(), 43);
        edge(5, "GOODS are as told, each FENCER has 9 in its PURSE, its FEET are 0, THE DAY is 0");
        for (int g = 0; g < 3; g++) {
            due("whose good " + g, x.good(g, 0), g);
        }
        for (int f = 0; f < 4; f++) {
            due("purse of " + f, x.fencer(f, 2), 9);
            due("feet of " + f, x.fencer(f, 3), 0);
        }
        due("THE DAY", x.count(3), 0);
        edge(5, "THE ROW of ACTS is empty, what was kept is gone; SEEN, THE SEED stay");
        due("count(8)", x.count(8), 0);
        due("undo()", x.undo(), STATE);
        due("again(0)", x.again(0), STATE);
        due("again(1)", x.again(1), STATE);
        due("count(9)", x.count(9), 2);
        due("seed(0)", x.seed(0), -77);
        due("unsee()", x.unsee(), 2);
    }

    private static void bazaarOfFewer() {
        edge(5, "THE TEXT is THE BAZAAR");
        FoilBazaar x = of(LARGEST);
        steps(x, 5, 2);
        x.salute(5, 9);
        due("writing alone changes nothing", x.write('F'), 47);
        due("there are six", x.count(1), 6);
        anew(x, "BF0wwwG01");
        due("count(1)", x.count(1), 1);
        due("count(2)", x.count(2), 1);
        due("count(4)", x.count(4), 9);
        due("count(5)", x.count(5), 0);
        due("count(7)", x.count(7), 0);
        due("fencer(1, 0)", x.fencer(1, 0), UNKNOWN);
        due("good(1, 0)", x.good(1, 0), UNKNOWN);
        due("order(1)", x.order(1), 1);
        anew(x, "B");
        due("count(1) of nobody", x.count(1), 0);
        due("count(4) of nobody", x.count(4), 0);
        due("fencer(0, 0) of nobody", x.fencer(0, 0), UNKNOWN);
        due("good(0, 0) of nothing", x.good(0, 0), UNKNOWN);
        due("order(1) of nobody", x.order(1), 0);
        anew(x, LARGEST);
        due("six again", x.count(1), 6);
        due("the sixth one's purse", x.fencer(5, 2), 9);
        due("the sixth one's feet", x.fencer(5, 3), 0);
    }

    private static void fencerRefused() {
        edge(6, "UNKNOWN; OUTSIDE.");
        for (int fencers = 0; fencers <= 6; fencers++) {
            FoilBazaar x = of(SIX_FENCERS.substring(0, 1 + 5 * fencers));
            for (int bad : new int[] {Integer.MIN_VALUE, -1, fencers, 6, 7, Integer.MAX_VALUE}) {
                due("fencer(" + bad + ", 0) of " + fencers, x.fencer(bad, 0), UNKNOWN);
                due("fencer(" + bad + ", 6) of " + fencers, x.fencer(bad, 6), UNKNOWN);
            }
            if (fencers > 0) {
                due("the last one's kind", x.fencer(fencers - 1, 0), (fencers - 1) % 4);
                for (int bad : new int[] {Integer.MIN_VALUE, -1, 6, 7, Integer.MAX_VALUE}) {
                    due("fencer(0, " + bad + ")", x.fencer(0, bad), OUTSIDE);
                }
            }
        }
    }

    private static void fencerTold() {
        edge(6, "MOVES as told (1: three figures as in MASKS)");
        FoilBazaar x = of("BF0lllF1pppF2fffF3wwwF2lpfF3wfp");
        int[] moves = {111, 222, 333, 444, 123, 432};
        for (int f = 0; f < 6; f++) {
            due("kind of " + f, x.fencer(f, 0), f < 4 ? f : f - 2);
            due("moves of " + f, x.fencer(f, 1), moves[f]);
            x.step(f);
            due("moves of " + f + " after a step", x.fencer(f, 1), moves[f]);
        }
    }

    private static void fencerNow() {
        FoilBazaar x = of("BF0lllF0wwwF0wwwF0wwwF0wwwF0wwwG09G09G09G09G09");
        edge(6, "GOODS that are its (4: bits)");
        due("all are its", x.fencer(0, 4), 0b11111);
        due("none is its", x.fencer(1, 4), 0);
        edge(6, "whom it BEATS (5: bits)");
        due("it beats all others", x.fencer(0, 5), 0b111110);
        due("it beats nobody", x.fencer(1, 5), 0);
        edge(6, "BEATS: one who has more HITS than the other one");
        FoilBazaar like = of("BF0lllF0lllF0wwwF0www");
        due("3 to 3 is not more", like.fencer(0, 5), 0b1100);
        due("0 to 0 is not more", like.fencer(2, 5), 0);
        edge(6, "PURSE (2), FEET (3)");
        fillPurse(x, 1, 99);
        due("purse at most", x.fencer(1, 2), 99);
        steps(x, 1, 2);
        due("feet at most", x.fencer(1, 3), 2);
        FoilBazaar poor = of("BF0wwwF0wwwG09");
        due("meet(1, 0)", poor.meet(1, 0), 1);
        due("purse at least", poor.fencer(1, 2), 0);
    }

    private static void goodRefused() {
        edge(7, "UNKNOWN; OUTSIDE.");
        for (int goods = 0; goods <= 5; goods++) {
            FoilBazaar x = of(LARGEST.substring(0, 31 + 3 * goods));
            for (int bad : new int[] {Integer.MIN_VALUE, -1, goods, 5, 6, Integer.MAX_VALUE}) {
                due("good(" + bad + ", 0) of " + goods, x.good(bad, 0), UNKNOWN);
                due("good(" + bad + ", 3) of " + goods, x.good(bad, 3), UNKNOWN);
            }
            if (goods > 0) {
                due("the last one's price", x.good(goods - 1, 1), new int[] {0, 9, 5, 3, 7}[goods - 1]);
                for (int bad : new int[] {Integer.MIN_VALUE, -1, 3, 4, Integer.MAX_VALUE}) {
                    due("good(0, " + bad + ")", x.good(0, bad), OUTSIDE);
                }
            }
        }
    }

    private static void goodTold() {
        edge(7, "its PRICE (1), whose it was told (2)");
        FoilBazaar x = of("BF0wwwF0wwwF0wwwF0wwwF0wwwF0wwwG00G59");
        due("the least price", x.good(0, 1), 0);
        due("the greatest price", x.good(1, 1), 9);
        due("the first FENCER's", x.good(0, 2), 0);
        due("the last FENCER's", x.good(1, 2), 5);
        due("meet(5, 0)", x.meet(5, 0), 5);
        due("whose it is", x.good(0, 0), 5);
        due("whose it was told", x.good(0, 2), 0);
        due("its price as ever", x.good(0, 1), 0);
        due("meet(0, 0)", x.meet(0, 0), 0);
        due("his again", x.good(0, 0), 0);
    }
}
