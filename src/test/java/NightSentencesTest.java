/** Terms II and III and promises 6 to 17, sentence by sentence: what thieves want and take, a night, what it costs. */
public final class NightSentencesTest {
    private static final Sentences doc = new Sentences();
    private static final long WHOLE = 1_000_000_000_000L;
    /** Numbers that no BIKE, THIEF, PLACE or what ever has. */
    private static final int[] FAR = {-1, -2, 31, 32, Integer.MAX_VALUE, Integer.MIN_VALUE};
    /** 100 LIGHT at PLACE 0: there TROUBLE is seconds times fears. */
    private static final String BRIGHT = "rail places 20 nights 1;lamp at 0 bright 99;";
    /** BIKES 0, 1, .. are taken one behind the other, each THIEF comes by 1 in the hundred. */
    private static final String SIX = "rail places 20 nights 1;" + bikes(10) + "thief tool 0 comes 1 fears 0 any;".repeat(6);
    private static final String ONLY_RAIL = "rail places 1 nights 1;";
    /** A RAIL with one THIEF and no BIKE, and one with a BIKE and no THIEF. */
    private static final String ONLY_THIEF = "rail places 1 nights 1;thief tool 0 comes 100 fears 0 any;";
    private static final String ONLY_BIKE = "rail places 1 nights 1;bike worth 7 seems 9 at 0;";

    public static void main(String[] args) {
        light();
        trouble();
        gain();
        wantsAndTakes();
        night();
        thousandths();
        lightAndBikeCalls();
        thiefCalls();
        partCalls();
        costCalls();
        doc.close();
    }

    private static String bikes(int n) {
        StringBuilder s = new StringBuilder();
        for (int i = 0; i < n; i++) s.append("bike worth 1 seems 1 at ").append(i).append(';');
        return s.toString();
    }

    /** How many choices of some out of all there are. */
    private static long choose(int all, int some) {
        long n = 1;
        for (int i = 0; i < some; i++) n = n * (all - i) / (i + 1);
        return n;
    }

    private static long power(long base, int times) {
        long n = 1;
        for (int i = 0; i < times; i++) n *= base;
        return n;
    }

    private static void light() {
        doc.of("II");
        doc.says("LIGHT: of each LAMP its brightness less how far it is, 0 at least, together,");
        LockRail x = Due.rail("rail places 20 nights 1;lamp at 0 bright 99;lamp at 19 bright 1;lamp at 10 bright 0;lamp at 10 bright 5;"
            + "watch wage 0 adds 99;");
        for (int p = 0; p < 20; p++) {
            int five = p > 5 && p < 15 ? 5 - Math.abs(p - 10) : 0;
            doc.is("light(" + p + ")", 99 - p + five + (p == 19 ? 1 : 0), x.light(p));
        }
        doc.is("without lamps", 0, Due.rail(ONLY_RAIL).light(0));

        doc.says("and what the watchman adds, if he stands there.");
        doc.is("not there", 99, x.light(0));
        x.watch(true);
        doc.is("there", 198, x.light(0));
        doc.is("there, at every place", 81 + 99, x.light(19));
        x.watch(false);
        doc.is("not there any more", 99, x.light(0));
    }

    private static void trouble() {
        doc.says("TROUBLE: seconds that the LOCK takes by the THIEF's TOOL (0 without), times fears, times (1 and LIGHT of its PLACE), by 100, cut.");
        LockRail x = Due.rail("rail places 2 nights 1;" + "lamp at 0 bright 99;".repeat(4) + "lock price 0 cuts 999 1 100;"
            + "bike worth 1 seems 1 at 0 lock 0;bike worth 1 seems 1 at 1;thief tool 0 comes 1 fears 99 any;thief tool 1 comes 1 fears 1 any;"
            + "thief tool 2 comes 1 fears 0 any;watch wage 0 adds 99;");
        doc.is("999 times 99 times 397 by 100", 392_636, x.trouble(0, 0));
        doc.is("397 by 100", 3, x.trouble(1, 0));
        doc.is("who fears nothing", 0, x.trouble(2, 0));
        doc.is("without a lock", 0, x.trouble(0, 1));
        x.watch(true);
        doc.is("999 times 99 times 496 by 100, the most there is", 490_548, x.trouble(0, 0));
        doc.is("496 by 100", 4, x.trouble(1, 0));
        LockRail y = Due.rail("rail places 3 nights 1;lamp at 1 bright 1;lock price 0 cuts 1 1 2;bike worth 1 seems 1 at 0 lock 0;"
            + "bike worth 1 seems 1 at 1 lock 0;thief tool 0 comes 1 fears 99 any;thief tool 0 comes 1 fears 50 any;"
            + "thief tool 0 comes 1 fears 49 any;thief tool 2 comes 1 fears 50 any;");
        int[][] due = {{0, 1}, {0, 1}, {0, 0}, {1, 2}};
        for (int t = 0; t < 4; t++) for (int b = 0; b < 2; b++) doc.is("trouble(" + t + ", " + b + ")", due[t][b], y.trouble(t, b));
        y.move(1, 2);
        doc.is("where it is dark", 0, y.trouble(0, 1));
        y.move(0, 1);
        doc.is("where it is not", 1, y.trouble(0, 0));
    }

    private static void gain() {
        doc.says("GAIN: seems;");
        LockRail plain = Due.rail("rail places 2 nights 1;bike worth 1 seems 9999 at 0;bike worth 1 seems 0 at 1;mark price 1 known 100;");
        doc.is("9999", 9999, plain.gain(0));
        doc.is("0", 0, plain.gain(1));

        doc.says("times (100 less known) by 100, cut, if it is marked;");
        int[] known = {0, 1, 50, 99, 100};
        int[] of9999 = {9999, 9899, 4999, 99, 0};
        int[] of1 = {1, 0, 0, 0, 0};
        for (int i = 0; i < known.length; i++) {
            LockRail x = Due.rail("rail places 3 nights 1;bike worth 1 seems 9999 at 0 marked;bike worth 1 seems 1 at 1 marked;"
                + "bike worth 1 seems 9999 at 2;mark price 1 known " + known[i] + ";");
            doc.is("of 9999, known " + known[i], of9999[i], x.gain(0));
            doc.is("of 1, known " + known[i], of1[i], x.gain(1));
            doc.is("not marked", 9999, x.gain(2));
        }

        doc.says("with hidden marks each BIKE's: seems times (100 times BIKES there are less known times those marked) by (100 times BIKES there are), cut.");
        LockRail x = Due.rail("rail places 3 nights 1;bike worth 1 seems 9999 at 0;bike worth 1 seems 100 at 1;bike worth 1 seems 1 at 2;"
            + "mark price 1 known 37 hidden;");
        int[][] due = {{9999, 100, 1}, {8765, 87, 0}, {7532, 75, 0}, {6299, 63, 0}};
        for (int marked = 0; marked <= 3; marked++) {
            if (marked > 0) x.option(marked - 1, 1);
            for (int b = 0; b < 3; b++) doc.is("of " + b + ", " + marked + " marked", due[marked][b], x.gain(b));
        }
        LockRail ten = Due.rail("rail places 20 nights 1;" + bikes(10).replace("seems 1 ", "seems 9999 ") + "mark price 1 known 100 hidden;");
        for (int marked = 0; marked <= 10; marked++) {
            if (marked > 0) ten.option(10 - marked, 1);
            doc.is("of ten " + marked + " marked, known 100", 9999 * (10 - marked) / 10, ten.gain(marked % 10));
        }
        LockRail one = Due.rail("rail places 1 nights 1;bike worth 1 seems 9 at 0 marked;mark price 1 known 50 hidden;");
        doc.is("one alone", 4, one.gain(0));
    }

    private static void wantsAndTakes() {
        doc.says("NET: GAIN less TROUBLE; a THIEF wants those whose NET is above 0.");
        String edge = BRIGHT + "lock price 1 cuts 50 1 1;bike worth 1 seems 50 at 0 lock 0;bike worth 1 seems 0 at 10;thief tool 0 comes 100 fears 1 best;";
        LockRail even = Due.rail(edge);
        doc.is("NET 0 and 0: wants", 0, even.wants(0));
        doc.is("NET 0 and 0: takes", -1, even.takes(0, 0));
        doc.is("NET 0 and 0: risk", 0, even.risk(0) + even.risk(1));
        LockRail above = Due.rail(edge.replace("seems 50", "seems 51"));
        doc.is("NET 1: wants", 1, above.wants(0));
        doc.is("NET 1: takes", 0, above.takes(0, 0));
        LockRail below = Due.rail(edge.replace("seems 50", "seems 49"));
        doc.is("NET -1: wants", 0, below.wants(0));
        doc.is("NET -1: takes", -1, below.takes(0, 0));

        // At PLACE 0 TROUBLE is the LOCK's seconds, where it is dark a hundredth: 0. So NET is 40, 45, 45, 30, and TROUBLE 60, 5, 0, 0.
        String four = BRIGHT.replace("places 20", "places 4").replace("bright 99;", "bright 1;")
            + "lock price 1 cuts 60 60 60;lock price 1 cuts 10 10 10;"
            + "bike worth 1 seems 100 at 0 lock 0;bike worth 1 seems 50 at 1 lock 1;bike worth 1 seems 45 at 2;bike worth 1 seems 30 at 3;";
        String kinds = "thief tool 0 comes 1 fears 50 best;thief tool 0 comes 1 fears 50 any;thief tool 0 comes 1 fears 50 just 3;";
        LockRail x = Due.rail(four + kinds);
        int[] net = {40, 45, 45, 30};
        for (int b = 0; b < 4; b++) doc.is("the NET of " + b, net[b], x.gain(b) - x.trouble(0, b));

        doc.says("Of those that are there and wanted he takes: best: that of the greatest NET;");
        doc.is("not the one that seems most", 1, x.takes(0, 0));
        doc.is("1 gone", 2, x.takes(0, 2));
        doc.is("1 and 2 gone", 0, x.takes(0, 6));
        doc.is("only 3 there", 3, x.takes(0, 7));
        doc.is("all gone", -1, x.takes(0, 15));

        doc.says("any: of the least TROUBLE;");
        doc.is("the first without a lock", 2, x.takes(1, 0));
        doc.is("2 gone", 3, x.takes(1, 4));
        doc.is("2 and 3 gone, not the greater NET's trouble", 1, x.takes(1, 12));
        doc.is("only 0 there", 0, x.takes(1, 14));
        LockRail unwanted = Due.rail(BRIGHT + "lock price 1 cuts 5 5 5;bike worth 1 seems 0 at 1;bike worth 1 seems 9 at 0 lock 0;thief tool 0 comes 1 fears 1 any;");
        doc.is("of those wanted only", 1, unwanted.takes(0, 0));

        doc.says("the first of several;");
        doc.is("best, of 1 and 2", 1, x.takes(0, 1));
        doc.is("any, of 2 and 3", 2, x.takes(1, 3));
        LockRail alike = Due.rail(SIX);
        for (int gone = 0; gone < 10; gone++) doc.is("the first that is there", gone, alike.takes(5, (1 << gone) - 1));
        doc.is("any: the first, though another's NET is greater", 0, Due.rail("rail places 2 nights 1;bike worth 1 seems 1 at 0;bike worth 1 seems 9 at 1;"
            + "thief tool 0 comes 1 fears 0 any;").takes(0, 0));
        doc.is("best: the first, though another's TROUBLE is less", 0, Due.rail("rail places 2 nights 1;lock price 1 cuts 100 1 1;bike worth 1 seems 9 at 0 lock 0;"
            + "bike worth 1 seems 8 at 1;thief tool 0 comes 1 fears 1 best;").takes(0, 0));

        doc.says("just: that very one.");
        doc.is("though others are better", 3, x.takes(2, 0));
        doc.is("though all others are gone", 3, x.takes(2, 7));
        doc.is("it is gone", -1, x.takes(2, 8));
        LockRail just = Due.rail(edge.replace("best;", "just 0;") + "bike worth 1 seems 9 at 2;");
        doc.is("it is not wanted", -1, just.takes(0, 0));
        doc.is("it is not wanted, so none is gone", WHOLE, just.part(0));
    }

    private static void night() {
        doc.of("III");
        doc.says("NIGHT: of PARTS (10 to the 12) by SETS of BIKES that are gone (bits), THIEF by THIEF:");
        LockRail three = Due.rail("rail places 3 nights 1;bike worth 1 seems 1 at 0;bike worth 1 seems 1 at 1;bike worth 1 seems 1 at 2;"
            + "thief tool 0 comes 50 fears 0 just 2;thief tool 0 comes 20 fears 0 just 1;thief tool 0 comes 10 fears 0 just 0;");
        long[] parts = {36, 4, 9, 1, 36, 4, 9, 1};
        long sum = 0;
        for (int set = 0; set < 8; set++) {
            doc.is("part(" + set + ")", parts[set] * WHOLE / 100, three.part(set));
            sum += three.part(set);
        }
        doc.is("together", WHOLE, sum);
        // The first takes 1, so that nothing is left for the second, who takes just that; the other way round it is not so.
        String order = "rail places 2 nights 1;bike worth 1 seems 1 at 0;bike worth 1 seems 2 at 1;";
        String best = "thief tool 0 comes 100 fears 0 best;";
        String just = "thief tool 0 comes 100 fears 0 just 1;";
        doc.is("the one that chooses first", WHOLE, Due.rail(order + best + just).part(2));
        doc.is("the one that chooses last", WHOLE, Due.rail(order + just + best).part(3));

        // Behind a NIGHT of many SETS the next one has none of them left over.
        for (int thieves = 0; thieves <= 6; thieves++) {
            LockRail fewer = Due.rail("rail places 3 nights 1;" + bikes(3) + "thief tool 0 comes 50 fears 0 just 2;thief tool 0 comes 50 fears 0 just 1;"
                + "thief tool 0 comes 50 fears 0 just 0;");
            fewer.part(0);
            Due.feed(fewer, "rail places 3 nights 1;" + bikes(3) + "thief tool 0 comes 50 fears 0 just 0;".repeat(thieves));
            fewer.rail();
            long parts0 = 0;
            long many0 = 0;
            for (int set = 0; set < 8; set++) parts0 += fewer.part(set);
            for (int n = 0; n < 4; n++) many0 += fewer.many(n);
            doc.is("together, part, " + thieves + " thieves", WHOLE, parts0);
            doc.is("together, many, " + thieves + " thieves", WHOLE, many0);
            for (int set = 2; set < 8; set++) doc.is("part(" + set + "), " + thieves + " thieves", 0, fewer.part(set));
        }

        doc.says("of each SET the PARTS times comes by 100, cut, with him come (the BIKE he takes goes to the SET, if there is one),");
        LockRail six = Due.rail(SIX);
        for (int k = 0; k <= 6; k++) doc.is("the first " + k, choose(6, k) * power(99, 6 - k), six.part((1 << k) - 1));
        doc.is("all six", 1, six.part(63));
        doc.is("more than there are thieves", 0, six.part(127));
        doc.is("others than the first", 0, six.part(2));
        doc.is("one who takes none", WHOLE, Due.rail("rail places 2 nights 1;bike worth 1 seems 0 at 0;" + best).part(0));
        doc.is("none to take", WHOLE, Due.rail(ONLY_THIEF).part(0));
        doc.is("who never comes", WHOLE, Due.rail(order + best.replace("100", "0")).part(0));
        doc.is("who always comes", 0, Due.rail(order + best).part(0));

        doc.says("what is left over without;");
        doc.is("1 in the hundred comes", 99 * WHOLE / 100, Due.rail(order + best.replace("100", "1")).part(0));
        doc.is("99 in the hundred come", WHOLE / 100, Due.rail(order + best.replace("100", "99")).part(0));

        doc.says("those of one SET together, then the next THIEF.");
        LockRail both = Due.rail("rail places 1 nights 1;bike worth 1 seems 1 at 0;thief tool 0 comes 33 fears 0 just 0;thief tool 0 comes 33 fears 0 any;");
        doc.is("by the one or the other", 551_100_000_000L, both.part(1));
        doc.is("by none", 448_900_000_000L, both.part(0));

        doc.says("RISK: PARTS of all SETS with a BIKE.");
        for (int b = 0; b < 10; b++) {
            long due = 0;
            for (int k = b + 1; k <= 6; k++) due += choose(6, k) * power(99, 6 - k);
            doc.is("risk(" + b + ") of ten", due, six.risk(b));
        }
        long[] risks = {10, 20, 50};
        for (int b = 0; b < 3; b++) doc.is("risk(" + b + ") of three", risks[b] * WHOLE / 100, three.risk(b));

        doc.says("Each NIGHT all are there again.");
        LockRail sixty = Due.rail(SIX.replace("nights 1;", "nights 60;"));
        doc.is("part(0) is of one night", power(99, 6), sixty.part(0));
        doc.is("risk(0) is of one night", WHOLE - power(99, 6), sixty.risk(0));
        LockRail always = Due.rail("rail places 1 nights 60;bike worth 1 seems 1 at 0;thief tool 0 comes 100 fears 0 any;");
        doc.is("lost each night", 60_000, always.cost(0, 1));
        doc.is("taken each night", 60, always.run(1));
    }

    private static void thousandths() {
        doc.says("Thousandths: PAID: 1,000 times its LOCK's price and, if it is marked, the mark's;");
        LockRail x = Due.rail("rail places 1 nights 60;lock price 999 cuts 1 1 1;lock price 1 cuts 1 1 1;bike worth 9999 seems 9999 at 0;"
            + "mark price 998 known 0;watch wage 999 adds 0;thief tool 0 comes 100 fears 0 any;");
        int[] paid = {0, 998, 999, 1997, 1, 999};
        for (int o = 0; o < 6; o++) {
            x.option(0, o);
            doc.is("with option " + o, 1000 * paid[o], x.cost(0, 0));
        }

        doc.says("LOSS: NIGHTS times worth times RISK by 10 to the 9, cut;");
        doc.is("the most there is", 599_940_000, x.cost(0, 1));
        doc.is("58,519,850,599 by 10 to the 9", 58, Due.rail(SIX).cost(0, 1));
        doc.is("1 by 10 to the 9", 0, Due.rail(SIX).cost(5, 1));
        doc.is("599,940 times that", 35_108_399, Due.rail(SIX.replace("nights 1;", "nights 60;").replace("worth 1 ", "worth 9999 ")).cost(0, 1));
        String just = "rail places 1 nights 60;bike worth 9999 seems 1 at 0;";
        String thief = "thief tool 0 comes 99 fears 0 just 0;";
        doc.is("599,939,999.94", 599_939_999, Due.rail(just + thief.repeat(5)).cost(0, 1));
        doc.is("599,939,999.9994", 599_939_999, Due.rail(just + thief.repeat(6)).cost(0, 1));
        doc.is("of no worth", 0, Due.rail(just.replace("9999", "0") + thief.repeat(6)).cost(0, 1));

        doc.says("COST: both, and, if a watchman stands there, 1,000 times wage times NIGHTS by BIKES there are, cut.");
        doc.is("both", 999_000 + 599_940_000, x.cost(0, 2));
        x.watch(true);
        doc.is("and the wage of sixty nights", 999_000 + 599_940_000 + 59_940_000, x.cost(0, 2));
        doc.is("not of LOSS", 599_940_000, x.cost(0, 1));
        doc.is("not of PAID", 999_000, x.cost(0, 0));
        x.watch(false);
        doc.is("he went", 999_000 + 599_940_000, x.cost(0, 2));
        LockRail seven = Due.rail("rail places 20 nights 60;" + bikes(7) + "watch wage 999 adds 0;");
        seven.watch(true);
        doc.is("by seven, cut", 8_562_857, seven.cost(6, 2));
        doc.is("all seven", 7 * 8_562_857, seven.all(2));
        LockRail cheap = Due.rail("rail places 20 nights 1;" + bikes(10) + "watch wage 1 adds 0;");
        cheap.watch(true);
        doc.is("by ten", 100, cheap.cost(0, 2));
        LockRail none = Due.rail("rail places 1 nights 60;watch wage 999 adds 9;");
        none.watch(true);
        doc.is("by no bikes", 0, none.all(2));
    }

    /** A RAIL of all kinds: four PLACES, a LOCK, two BIKES, two THIEVES, a mark, a watchman. */
    private static LockRail some() {
        return Due.rail("rail places 4 nights 3;lamp at 1 bright 2;lock price 8 cuts 10 20 30;bike worth 5 seems 6 at 3;bike worth 7 seems 9 at 0 lock 0 marked;"
            + "thief tool 0 comes 50 fears 10 best;thief tool 1 comes 20 fears 99 any;mark price 2 known 50;watch wage 4 adds 5;");
    }

    private static void lightAndBikeCalls() {
        doc.of("6");
        doc.says("LIGHT of a PLACE (II).");
        LockRail x = some();
        int[] light = {1, 2, 1, 0};
        for (int p = 0; p < 4; p++) doc.is("light(" + p + ")", light[p], x.light(p));

        doc.says("-2: there is no such one.");
        doc.is("one behind the last", -2, x.light(4));
        for (int p : FAR) doc.is("light(" + p + ")", -2, x.light(p));
        doc.is("no RAIL", -2, new LockRail().light(0));
        doc.is("twenty", -2, Due.rail("rail places 20 nights 1;").light(20));

        doc.of("7");
        int[][] bikes = {{5, 6, 3, -1, 0}, {7, 9, 0, 0, 1}};
        String[] whats = {"Of a BIKE, what 0: worth,", "1: seems,", "2: its PLACE,", "3: its LOCK (NONE),", "4: 1 if it is marked."};
        for (int what = 0; what < 5; what++) {
            doc.says(whats[what]);
            for (int b = 0; b < 2; b++) doc.is("bike(" + b + ", " + what + ")", bikes[b][what], x.bike(b, what));
        }
        doc.says("-2: there are none such.");
        doc.is("one behind the last", -2, x.bike(2, 0));
        doc.is("one what behind the last", -2, x.bike(0, 5));
        for (int far : FAR) {
            doc.is("bike(" + far + ", 0)", -2, x.bike(far, 0));
            doc.is("bike(0, " + far + ")", -2, x.bike(0, far));
        }
        doc.is("no BIKE", -2, Due.rail(ONLY_RAIL).bike(0, 0));
        doc.is("no RAIL", -2, new LockRail().bike(0, 0));
    }

    private static void thiefCalls() {
        LockRail x = some();
        doc.of("8");
        doc.says("TROUBLE of a BIKE for a THIEF (II).");
        int[][] trouble = {{0, 2}, {0, 39}};
        for (int t = 0; t < 2; t++) for (int b = 0; b < 2; b++) doc.is("trouble(" + t + ", " + b + ")", trouble[t][b], x.trouble(t, b));
        doc.says("-2 likewise.");
        doc.is("thief behind the last", -2, x.trouble(2, 0));
        doc.is("bike behind the last", -2, x.trouble(0, 2));
        for (int far : FAR) {
            doc.is("thief " + far, -2, x.trouble(far, 0));
            doc.is("bike " + far, -2, x.trouble(0, far));
        }
        doc.is("no BIKE", -2, Due.rail(ONLY_THIEF).trouble(0, 0));
        doc.is("no THIEF", -2, Due.rail(ONLY_BIKE).trouble(0, 0));
        doc.is("no RAIL", -2, new LockRail().trouble(0, 0));

        doc.of("9");
        doc.says("GAIN of it (II).");
        doc.is("gain(0)", 6, x.gain(0));
        doc.is("gain(1)", 4, x.gain(1));
        doc.says("-2 likewise.");
        doc.is("behind the last", -2, x.gain(2));
        for (int far : FAR) doc.is("gain(" + far + ")", -2, x.gain(far));
        doc.is("no BIKE", -2, Due.rail(ONLY_THIEF).gain(0));
        doc.is("no BIKE, hidden marks", -2, Due.rail(ONLY_RAIL + "mark price 1 known 1 hidden;").gain(0));
        doc.is("no RAIL", -2, new LockRail().gain(0));

        doc.of("10");
        doc.says("The BIKE a THIEF takes, if some (bits) are gone already;");
        int[][] takes = {{0, 1, 0, -1}, {0, -1, 0, -1}};
        for (int t = 0; t < 2; t++) for (int g = 0; g < 4; g++) doc.is("takes(" + t + ", " + g + ")", takes[t][g], x.takes(t, g));
        doc.says("NONE: none.");
        doc.is("all gone", -1, x.takes(0, 3));
        doc.is("the other unwanted", -1, x.takes(1, 1));
        doc.is("all ten gone", -1, Due.rail(SIX).takes(0, 1023));
        doc.is("the tenth there", 9, Due.rail(SIX).takes(0, 511));
        doc.is("none there ever", -1, Due.rail(ONLY_THIEF).takes(0, 0));
        doc.says("-2: there are none such.");
        doc.is("a bit too many", -2, x.takes(0, 4));
        doc.is("a bit too many with others", -2, x.takes(0, 7));
        doc.is("a bit too many of ten", -2, Due.rail(SIX).takes(0, 1024));
        doc.is("thief behind the last", -2, x.takes(2, 0));
        for (int far : FAR) {
            doc.is("thief " + far, -2, x.takes(far, 0));
            doc.is("gone " + far, -2, x.takes(0, far));
        }
        doc.is("a bit of no BIKE", -2, Due.rail(ONLY_THIEF).takes(0, 1));
        doc.is("no THIEF", -2, Due.rail(ONLY_BIKE).takes(0, 0));
        doc.is("no RAIL", -2, new LockRail().takes(0, 0));

        doc.of("11");
        doc.says("How many BIKES a THIEF wants (II), all being there.");
        doc.is("wants(0)", 2, x.wants(0));
        doc.is("wants(1)", 1, x.wants(1));
        doc.is("ten", 10, Due.rail(SIX).wants(5));
        doc.is("who takes just one of two", 2, Due.rail("rail places 2 nights 1;" + bikes(2) + "thief tool 0 comes 0 fears 0 just 1;").wants(0));
        doc.is("none there", 0, Due.rail(ONLY_THIEF).wants(0));
        x.option(1, 3);
        x.option(0, 2);
        doc.is("as it is now, the one", 2, x.wants(0));
        doc.is("as it is now, the other", 0, x.wants(1));
        doc.says("-2: there is no such one.");
        doc.is("behind the last", -2, x.wants(2));
        for (int far : FAR) doc.is("wants(" + far + ")", -2, x.wants(far));
        doc.is("no THIEF", -2, Due.rail(ONLY_BIKE).wants(0));
        doc.is("no RAIL", -2, new LockRail().wants(0));
    }

    private static void partCalls() {
        LockRail x = some();
        // THIEF 0 takes 0 by the half; THIEF 1 wants 0 alone.
        doc.of("12");
        doc.says("PARTS of a SET of BIKES that is gone in a NIGHT (III).");
        long[] parts = {400, 600, 0, 0};
        for (int set = 0; set < 4; set++) doc.is("part(" + set + ")", parts[set] * WHOLE / 1000, x.part(set));
        doc.is("none gone, none there", WHOLE, Due.rail(ONLY_RAIL).part(0));
        doc.is("none gone, no THIEF", WHOLE, Due.rail(ONLY_BIKE).part(0));
        doc.is("all ten", 0, Due.rail(SIX).part(1023));
        doc.says("-2: there is no such SET, no RAIL.");
        doc.is("one behind the last", -2, x.part(4));
        doc.is("one behind the last of ten", -2, Due.rail(SIX).part(1024));
        for (int far : FAR) doc.is("part(" + far + ")", -2, x.part(far));
        doc.is("of none", -2, Due.rail(ONLY_RAIL).part(1));
        doc.is("no RAIL", -2, new LockRail().part(0));

        doc.of("13");
        doc.says("PARTS by which just so many are gone.");
        long[] many = {400, 600, 0};
        for (int n = 0; n < 3; n++) doc.is("many(" + n + ")", many[n] * WHOLE / 1000, x.many(n));
        LockRail three = Due.rail("rail places 3 nights 1;" + bikes(3) + "thief tool 0 comes 50 fears 0 just 2;thief tool 0 comes 20 fears 0 just 1;"
            + "thief tool 0 comes 10 fears 0 just 0;");
        long[] ofThree = {36, 49, 14, 1};
        for (int n = 0; n < 4; n++) doc.is("of several sets, many(" + n + ")", ofThree[n] * WHOLE / 100, three.many(n));
        for (int n = 0; n <= 10; n++) doc.is("of ten, many(" + n + ")", n > 6 ? 0 : choose(6, n) * power(99, 6 - n), Due.rail(SIX).many(n));
        doc.is("of none", WHOLE, Due.rail(ONLY_RAIL).many(0));
        doc.says("-2: there is no such number (0 to all), no RAIL.");
        doc.is("above all", -2, x.many(3));
        doc.is("above all ten", -2, Due.rail(SIX).many(11));
        doc.is("above none", -2, Due.rail(ONLY_RAIL).many(1));
        for (int far : FAR) doc.is("many(" + far + ")", -2, x.many(far));
        doc.is("no RAIL", -2, new LockRail().many(0));

        doc.of("14");
        doc.says("RISK of a BIKE (III).");
        doc.is("risk(0)", 6 * WHOLE / 10, x.risk(0));
        doc.is("risk(1)", 0, x.risk(1));
        doc.is("no THIEF", 0, Due.rail(ONLY_BIKE).risk(0));
        doc.says("-2: there is no such one.");
        doc.is("behind the last", -2, x.risk(2));
        doc.is("behind the last of ten", -2, Due.rail(SIX).risk(10));
        for (int far : FAR) doc.is("risk(" + far + ")", -2, x.risk(far));
        doc.is("no BIKE", -2, Due.rail(ONLY_THIEF).risk(0));
        doc.is("no RAIL", -2, new LockRail().risk(0));

        doc.of("15");
        doc.says("PARTS by which a THIEF has a BIKE in a NIGHT.");
        long[][] has = {{5, 0}, {1, 0}};
        for (int t = 0; t < 2; t++) for (int b = 0; b < 2; b++) doc.is("has(" + t + ", " + b + ")", has[t][b] * WHOLE / 10, x.has(t, b));
        LockRail six = Due.rail(SIX);
        for (int t = 0; t < 6; t++) {
            for (int b = 0; b < 7; b++) {
                long due = b > t ? 0 : choose(t, b) * power(99, t - b) * power(100, 5 - t);
                doc.is("of six, has(" + t + ", " + b + ")", due, six.has(t, b));
            }
        }
        doc.says("-2: there are none such.");
        doc.is("thief behind the last", -2, x.has(2, 0));
        doc.is("bike behind the last", -2, x.has(0, 2));
        doc.is("thief behind six", -2, six.has(6, 0));
        doc.is("bike behind ten", -2, six.has(0, 10));
        for (int far : FAR) {
            doc.is("thief " + far, -2, x.has(far, 0));
            doc.is("bike " + far, -2, x.has(0, far));
        }
        doc.is("no BIKE", -2, Due.rail(ONLY_THIEF).has(0, 0));
        doc.is("no THIEF", -2, Due.rail(ONLY_BIKE).has(0, 0));
        doc.is("no RAIL", -2, new LockRail().has(0, 0));
        asTheyAreNow();
    }

    /** The calls on a NIGHT see what was changed behind the latest rail(), each as the first call there is. */
    private static void asTheyAreNow() {
        doc.is("first of all, wants", 1, changed().wants(1));
        doc.is("first of all, takes", 1, changed().takes(0, 0));
        doc.is("first of all, part", 4 * WHOLE / 10, changed().part(0));
        doc.is("first of all, many", 6 * WHOLE / 10, changed().many(1));
        doc.is("first of all, risk", 6 * WHOLE / 10, changed().risk(1));
        doc.is("first of all, has", WHOLE / 10, changed().has(1, 1));
    }

    /** As some(), but it is BIKE 1 that has no LOCK and no mark, and BIKE 0 has both. */
    private static LockRail changed() {
        LockRail x = some();
        x.risk(0);
        x.takes(0, 0);
        x.option(0, 3);
        x.option(1, 0);
        return x;
    }

    private static void costCalls() {
        LockRail x = some();
        doc.of("16");
        doc.says("PAID, LOSS, COST (what 0, 1, 2) of a BIKE in all NIGHTS (III), in thousandths.");
        long[][] costs = {{0, 9_000, 9_000}, {10_000, 0, 10_000}};
        for (int b = 0; b < 2; b++) for (int what = 0; what < 3; what++) doc.is("cost(" + b + ", " + what + ")", costs[b][what], x.cost(b, what));
        LockRail y = changed();
        doc.is("as it is now", 12_600, y.cost(1, 2));
        doc.is("as it is now", 10_000, y.cost(0, 2));
        doc.says("-2: there are none such.");
        doc.is("bike behind the last", -2, x.cost(2, 0));
        doc.is("what behind the last", -2, x.cost(0, 3));
        for (int far : FAR) {
            doc.is("bike " + far, -2, x.cost(far, 0));
            doc.is("what " + far, -2, x.cost(0, far));
        }
        doc.is("no BIKE", -2, Due.rail(ONLY_THIEF).cost(0, 0));
        doc.is("no RAIL", -2, new LockRail().cost(0, 0));

        doc.of("17");
        doc.says("The same of all BIKES together.");
        long[] all = {10_000, 9_000, 19_000};
        for (int what = 0; what < 3; what++) doc.is("all(" + what + ")", all[what], x.all(what));
        for (int what = 0; what < 3; what++) doc.is("of none, all(" + what + ")", 0, Due.rail(ONLY_RAIL).all(what));
        doc.is("as it is now", 22_600, changed().all(2));
        x.watch(true);
        doc.is("with wages", 19_000 + 12_000, x.all(2));
        doc.is("LOSS of all six, each cut", 58 + 1, Due.rail(SIX).all(1));
        doc.says("-2: there is no such what, no RAIL.");
        doc.is("what behind the last", -2, x.all(3));
        for (int far : FAR) doc.is("all(" + far + ")", -2, x.all(far));
        for (int what = 0; what < 3; what++) doc.is("no RAIL", -2, new LockRail().all(what));
    }
}
