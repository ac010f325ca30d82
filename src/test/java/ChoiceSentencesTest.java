/** Term IV and promises 18 to 31, sentence by sentence: options, settling, bettering, and what is done to those beside. */
public final class ChoiceSentencesTest {
    private static final Sentences doc = new Sentences();
    private static final long WHOLE = 1_000_000_000_000L;
    private static final long NOTHING = -1_000_000_000_000L;
    private static final int[] FAR = {-1, -2, 31, 32, Integer.MAX_VALUE, Integer.MIN_VALUE};
    private static final String ONLY_RAIL = "rail places 1 nights 1;";
    /** Two alike; LOSS is 500,000 of the one that is taken; a LOCK of 10 lessens NET from 60 to 10. */
    private static final String TWINS = "rail places 2 nights 10;lock price 10 cuts 100 100 100;bike worth 100 seems 60 at 0;"
        + "bike worth 100 seems 60 at 1;thief tool 0 comes 50 fears 50 best;";
    /** The same, but a LOCK takes NET below 0. */
    private static final String STRONG = TWINS.replace("cuts 100 100 100", "cuts 200 200 200");
    /** A BIKE for each of three THIEVES; each LOSS is worth times 10; a LOCK (10 or 20) keeps the THIEF away. */
    private static final String APART = "rail places 3 nights 10;lock price 10 cuts 999 999 999;lock price 20 cuts 999 999 999;"
        + "bike worth 100 seems 60 at 0;bike worth 300 seems 60 at 1;bike worth 200 seems 60 at 2;"
        + "thief tool 0 comes 100 fears 50 just 0;thief tool 0 comes 100 fears 50 just 1;thief tool 0 comes 100 fears 50 just 2;mark price 1 known 0;";
    /** Only the fifth LOCK and a mark together keep the THIEF away: OPTION 11. */
    private static final String ELEVEN = "rail places 2 nights 1;" + "lock price 0 cuts 1 1 1;".repeat(4) + "lock price 0 cuts 999 999 999;"
        + "bike worth 100 seems 100 at 0;bike worth 100 seems 100 at 1;thief tool 0 comes 100 fears 6 any;thief tool 0 comes 100 fears 6 any;"
        + "mark price 0 known 50;";
    /** Taken in this order: 1, 0, 2, by one who always comes and one who comes by the half. */
    private static final String THREE = "rail places 3 nights 1;lock price 1 cuts 999 999 999;bike worth 1 seems 80 at 0;bike worth 1 seems 90 at 1;"
        + "bike worth 1 seems 70 at 2;thief tool 0 comes 100 fears 50 best;thief tool 0 comes 50 fears 50 best;";
    /** A RAIL on which 75 changes better all, one behind the other; found by trying, reckoned by PlainModel too. */
    private static final String LONG = "rail places 10 nights 46;lock price 9 cuts 91 41 59;lock price 154 cuts 70 10 275;lock price 12 cuts 47 87 18;"
        + "lock price 18 cuts 289 219 38;lock price 7 cuts 9 17 34;bike worth 270 seems 63 at 0;"
        + "bike worth 274 seems 52 at 1;bike worth 27 seems 67 at 2;bike worth 26 seems 28 at 3;"
        + "bike worth 237 seems 86 at 4;bike worth 126 seems 34 at 5;bike worth 91 seems 108 at 6;"
        + "bike worth 269 seems 52 at 7;bike worth 170 seems 87 at 8;bike worth 156 seems 49 at 9;"
        + "thief tool 1 comes 38 fears 36 best;thief tool 0 comes 91 fears 97 best;thief tool 1 comes 8 fears 57 best;"
        + "thief tool 0 comes 77 fears 19 best;thief tool 0 comes 58 fears 29 best;thief tool 2 comes 19 fears 87 best;"
        + "mark price 8 known 46;";

    public static void main(String[] args) {
        optionTerm();
        settlingTerm();
        betteringTerm();
        optionCalls();
        restless();
        settleCalls();
        betterCalls();
        pair();
        wasted();
        besideCalls();
        doc.close();
    }

    /**
     * Eight BIKES, each a little better than the one ahead of it, and five LOCKS, each of which puts a BIKE behind all that
     * have the one ahead of it. The best BIKE takes the next LOCK, and the one ahead of it is the best then, in the next
     * round; so a LOCK goes from the last BIKE to the first in eight rounds, and when the first has it, the last one goes on
     * in that round. Four LOCKS are through in 29 rounds, and in the 30th nothing changes. With 3 more the two last BIKES
     * need the fifth one: the last in round 29, the other in round 30.
     */
    private static String ladder(int seems) {
        StringBuilder s = new StringBuilder("rail places 8 nights 60;");
        for (int i = 1; i <= 5; i++) s.append(String.format("lock price %d cuts %d %d %d;", i, 32 * i, 32 * i, 32 * i));
        for (int i = 0; i < 8; i++) s.append(String.format("bike worth 100 seems %d at %d;", seems + 2 * i, i));
        return s.append("thief tool 0 comes 50 fears 50 best;").toString();
    }

    private static String options(LockRail x) {
        StringBuilder s = new StringBuilder();
        for (int b = 0; b < x.count(4); b++) s.append(2 * (x.bike(b, 3) + 1) + x.bike(b, 4)).append(' ');
        return s.toString();
    }

    private static void optionTerm() {
        doc.of("IV");
        doc.says("OPTION: 2 times (LOCK and 1; 0 without one), and 1 if it is marked.");
        for (int locks = 0; locks <= 5; locks++) {
            LockRail x = Due.rail("rail places 1 nights 1;" + "lock price 1 cuts 1 1 1;".repeat(locks) + "bike worth 1 seems 1 at 0;");
            doc.is("options with " + locks + " locks", 2 * locks + 2, x.count(10));
            for (int o = 0; o < 2 * locks + 2; o++) {
                doc.is("the option before " + o, Math.max(0, o - 1), x.option(0, o));
                doc.is("the lock of option " + o, o / 2 - 1, x.bike(0, 3));
                doc.is("the mark of option " + o, o % 2, x.bike(0, 4));
            }
            doc.is("one option too many", -2, x.option(0, 2 * locks + 2));
        }
    }

    private static void settlingTerm() {
        doc.says("SETTLING: in a round BIKE by BIKE each gets its best OPTION, if COST is less by it than now;");
        LockRail apart = Due.rail(APART);
        apart.settle(1);
        doc.same("the best one", "2 2 2 ", options(apart));
        LockRail twins = Due.rail(TWINS);
        twins.settle(1);
        doc.same("the second sees what the first did", "2 2 ", options(twins));
        LockRail alike = Due.rail(TWINS.replace("comes 50", "comes 0"));
        alike.option(0, 1);
        alike.option(1, 3);
        alike.settle(1);
        doc.same("just as dear is not less; dearer goes", "1 0 ", options(alike));
        LockRail eleven = Due.rail(ELEVEN);
        eleven.settle(1);
        doc.same("the last option of twelve", "11 11 ", options(eleven));

        doc.says("round by round till one changes nothing.");
        LockRail x = Due.rail(ladder(50));
        String[] due = {"0 0 0 0 0 0 0 2 ", "0 0 0 0 0 0 2 2 ", "0 0 0 0 0 2 2 2 ", "0 0 0 0 2 2 2 2 ", "0 0 0 2 2 2 2 2 ", "0 0 2 2 2 2 2 2 ",
            "0 2 2 2 2 2 2 2 ", "2 2 2 2 2 2 2 4 ", "2 2 2 2 2 2 4 4 "};
        for (int round = 1; round <= due.length; round++) {
            doc.is("one more round", 1, x.settle(1));
            doc.same("behind round " + round, due[round - 1], options(x));
        }
        doc.is("the others", 30 - due.length, x.settle(30));
        doc.same("behind all", "8 8 8 8 8 8 8 8 ", options(x));
        doc.is("one that changes nothing", 1, x.settle(30));
        LockRail ever = Due.rail(TWINS);
        for (int i = 0; i < 4; i++) {
            doc.is("never settled", 15, ever.settle(15));
            doc.same("there and back", i % 2 == 0 ? "2 2 " : "0 0 ", options(ever));
        }
    }

    private static void betteringTerm() {
        doc.says("BETTERING: of all changes of one BIKE to another OPTION that by which COST of all is least, if that is less than now");
        LockRail x = Due.rail(APART);
        String[] due = {"0 2 0 ", "0 2 2 ", "2 2 2 "};
        for (int i = 0; i < 3; i++) {
            doc.is("one change", 1, x.better(1));
            doc.same("the most first: " + i, due[i], options(x));
        }
        doc.is("none is less", 0, x.better(60));
        doc.is("no change of one is less: TWINS", 0, Due.rail(TWINS).better(60));
        doc.is("no change of one is less: STRONG", 0, Due.rail(STRONG).better(60));
        LockRail without = Due.rail(TWINS.replace("comes 50", "comes 0"));
        without.option(0, 2);
        without.option(1, 3);
        doc.is("a LOCK less is a change too", 2, without.better(60));
        doc.same("without both", "0 0 ", options(without));
        // A LOCK that costs just what is lost, and one that costs 1 less.
        String one = "rail places 1 nights 1;lock price 10 cuts 999 999 999;bike worth %d seems 60 at 0;thief tool 0 comes 100 fears 50 any;";
        doc.is("as much", 0, Due.rail(String.format(one, 10)).better(60));
        doc.is("less by 1,000", 1, Due.rail(String.format(one, 11)).better(60));
        // COST of all goes from 500,000 to 60,000, though the BIKE beside loses then what it did not.
        LockRail beside = Due.rail(STRONG.replace("bike worth 100 seems 60 at 1", "bike worth 10 seems 60 at 1"));
        doc.is("though another loses by it", 1, beside.better(1));
        doc.same("the first", "2 0 ", options(beside));

        doc.says("(of several the first BIKE, then the least OPTION).");
        String several = "rail places 2 nights 1;lock price 10 cuts 999 1 1;lock price 10 cuts 1 999 1;lock price 10 cuts 999 999 999;%s"
            + "bike worth 100 seems 60 at 0;bike worth 100 seems 60 at 1;thief tool %d comes 100 fears 90 just 0;thief tool %d comes 100 fears 90 just 1;";
        LockRail a = Due.rail(String.format(several, "", 1, 0));
        a.better(1);
        doc.same("the first BIKE, though by a greater OPTION", "4 0 ", options(a));
        a.better(1);
        doc.same("then the other, by the least", "4 2 ", options(a));
        LockRail b = Due.rail(String.format(several, "", 0, 1));
        b.better(1);
        doc.same("the least OPTION of the first", "2 0 ", options(b));
        LockRail c = Due.rail(String.format(several, "mark price 0 known 0;", 1, 0));
        c.option(0, 1);
        c.better(1);
        doc.same("without a mark that costs nothing", "4 0 ", options(c));
    }

    private static void optionCalls() {
        doc.of("18");
        doc.says("A BIKE has an OPTION from now on (IV): which it had.");
        LockRail x = Due.rail(APART);
        doc.is("option(1, 5)", 0, x.option(1, 5));
        doc.is("option(1, 5) again", 5, x.option(1, 5));
        doc.same("only that one's", "0 5 0 ", options(x));
        doc.is("its cost", 21_000, x.cost(1, 2));
        doc.is("its place stays", 1, x.bike(1, 2));
        doc.is("option(1, 2)", 5, x.option(1, 2));
        doc.is("its cost then", 10_000, x.cost(1, 2));
        doc.is("option(1, 0)", 2, x.option(1, 0));
        doc.is("its cost without", 3_000_000, x.cost(1, 2));
        doc.says("-2: there are none such.");
        doc.refused("an OPTION too many", -2, x, y -> y.option(0, 6));
        doc.refused("a BIKE too many", -2, x, y -> y.option(3, 0));
        for (int far : FAR) {
            doc.refused("bike " + far, -2, x, y -> y.option(far, 0));
            doc.refused("option " + far, -2, x, y -> y.option(0, far));
        }
        doc.is("no BIKE", -2, Due.rail(ONLY_RAIL).option(0, 0));
        doc.is("no RAIL", -2, new LockRail().option(0, 0));

        doc.of("19");
        doc.says("COST of a BIKE, if it had an OPTION (all stays).");
        long[] would = {1_000_000, 1_001_000, 10_000, 11_000, 20_000, 21_000};
        for (int o = 0; o < 6; o++) doc.is("would(0, " + o + ")", would[o], x.would(0, o));
        doc.is("as if it were so", Due.rail(TWINS).would(1, 0), Due.rail(TWINS).cost(1, 2));
        for (int o = 0; o < 6; o++) {
            int option = o;
            for (int bike = 0; bike < 3; bike++) {
                int one = bike;
                doc.asks("would(" + bike + ", " + o + ")", y -> y.would(one, option));
                LockRail had = Sentences.asTold();
                had.option(bike, o);
                doc.is("as if it had it", had.cost(bike, 2), Sentences.asTold().would(bike, o));
            }
        }
        doc.says("-2 likewise.");
        doc.is("an OPTION too many", -2, x.would(0, 6));
        doc.is("a BIKE too many", -2, x.would(3, 0));
        for (int far : FAR) {
            doc.is("bike " + far, -2, x.would(far, 0));
            doc.is("option " + far, -2, x.would(0, far));
        }
        doc.is("no BIKE", -2, Due.rail(ONLY_RAIL).would(0, 0));
        doc.is("no RAIL", -2, new LockRail().would(0, 0));

        doc.of("20");
        doc.says("The OPTION of a BIKE by which its COST is least, the first of several.");
        doc.is("of six", 2, Due.rail(APART).best(2));
        doc.is("the last of twelve", 11, Due.rail(ELEVEN).best(0));
        LockRail alike = Due.rail(TWINS.replace("comes 50", "comes 0"));
        alike.option(1, 1);
        doc.is("the first of several, not the one it has", 0, alike.best(1));
        alike.option(1, 3);
        doc.is("the first of several, the one it has being dearer", 0, alike.best(1));
        doc.is("of two locks just as good the first", 2, Due.rail(APART.replace("price 20", "price 10")).best(0));
        doc.is("without a lock", 0, Due.rail("rail places 1 nights 1;bike worth 1 seems 1 at 0;").best(0));
        for (int bike = 0; bike < 3; bike++) {
            int one = bike;
            doc.asks("best(" + bike + ")", y -> y.best(one));
        }
        doc.says("-2: there is no such BIKE.");
        doc.is("behind the last", -2, x.best(3));
        for (int far : FAR) doc.is("bike " + far, -2, x.best(far));
        doc.is("no BIKE", -2, Due.rail(ONLY_RAIL).best(0));
        doc.is("no RAIL", -2, new LockRail().best(0));
    }

    private static void restless() {
        doc.of("21");
        doc.says("How many BIKES would cost less by another OPTION.");
        LockRail x = Due.rail(APART);
        doc.is("all three", 3, x.restless());
        x.option(1, 2);
        doc.is("two", 2, x.restless());
        x.option(0, 4);
        doc.is("dearer than needed", 2, x.restless());
        x.option(0, 2);
        doc.is("one", 1, x.restless());
        x.option(2, 2);
        doc.is("none", 0, x.restless());
        doc.is("only the one that is taken", 1, Due.rail(TWINS).restless());
        LockRail alike = Due.rail(TWINS.replace("comes 50", "comes 0"));
        alike.option(1, 1);
        doc.is("just as dear by another", 0, alike.restless());
        doc.is("no BIKES", 0, Due.rail(ONLY_RAIL).restless());
        doc.asks("restless()", LockRail::restless);
        doc.says("-2: no RAIL.");
        doc.is("restless()", -2, new LockRail().restless());
    }

    private static void settleCalls() {
        doc.of("22");
        doc.says("SETTLING (IV), n rounds at most (0 .. 30): how many there were, the last one that changes nothing too.");
        LockRail x = Due.rail(ladder(50));
        doc.refused("settle(0)", 0, x, y -> y.settle(0));
        doc.is("settle(29)", 29, x.settle(29));
        doc.is("the 30th, which changes nothing", 1, x.settle(30));
        doc.is("settle(30)", 30, Due.rail(ladder(50)).settle(30));
        LockRail longer = Due.rail(ladder(53));
        doc.is("all thirty change something", 30, longer.settle(30));
        doc.same("the fifth lock", "8 8 8 8 8 8 10 10 ", options(longer));
        doc.is("the 31st does not", 1, longer.settle(30));
        LockRail at29 = Due.rail(ladder(53));
        at29.settle(29);
        doc.same("not yet the last but one", "8 8 8 8 8 8 8 10 ", options(at29));
        LockRail strong = Due.rail(STRONG);
        doc.is("settle(1)", 1, strong.settle(1));
        doc.is("settle(1), which changes nothing", 1, strong.settle(1));
        doc.is("settle(0)", 0, strong.settle(0));
        doc.is("settle(2)", 2, Due.rail(STRONG).settle(2));
        doc.is("settle(30), settled in two", 2, Due.rail(STRONG).settle(30));
        doc.is("no BIKES", 1, Due.rail(ONLY_RAIL).settle(30));
        doc.is("no BIKES, no rounds", 0, Due.rail(ONLY_RAIL).settle(0));
        doc.answersByWhatIsThere("settle(1)", y -> y.settle(1) + 100 * y.all(2));
        doc.says("-2: there is no such number, no RAIL.");
        LockRail wrong = Due.rail(TWINS);
        doc.refused("settle(31)", -2, wrong, y -> y.settle(31));
        for (int far : FAR) doc.refused("settle(" + far + ")", -2, wrong, y -> y.settle(far));
        doc.is("no RAIL", -2, new LockRail().settle(0));
        doc.is("no RAIL", -2, new LockRail().settle(1));

        doc.of("23");
        doc.says("In how many rounds they would SETTLE (all stays);");
        doc.is("in 30", 30, Due.rail(ladder(50)).settles());
        doc.is("in 2", 2, Due.rail(STRONG).settles());
        doc.is("in 1", 1, strong.settles());
        doc.is("no BIKES", 1, Due.rail(ONLY_RAIL).settles());
        doc.asks("settles()", LockRail::settles);
        LockRail stays = Due.rail(ladder(50));
        stays.settles();
        doc.same("all stays", "0 0 0 0 0 0 0 0 ", options(stays));
        doc.says("NONE: not in 30.");
        doc.is("in 31", -1, Due.rail(ladder(53)).settles());
        LockRail oneOn = Due.rail(ladder(53));
        oneOn.settle(1);
        doc.is("in 31, less one", 30, oneOn.settles());
        doc.is("never", -1, Due.rail(TWINS).settles());
        doc.says("-2: no RAIL.");
        doc.is("settles()", -2, new LockRail().settles());

        doc.of("24");
        doc.says("COST of all BIKES behind them, in thousandths;");
        doc.is("eight locks of 4", 32_000, Due.rail(ladder(50)).settled());
        doc.is("two locks of 10", 20_000, Due.rail(STRONG).settled());
        doc.is("no BIKES", 0, Due.rail(ONLY_RAIL).settled());
        doc.is("in 31, less one", 34_000, oneOn.settled());
        doc.asks("settled()", LockRail::settled);
        doc.says("NONE, -2 likewise.");
        doc.is("not in 30", -1, Due.rail(ladder(53)).settled());
        doc.is("never", -1, Due.rail(TWINS).settled());
        doc.is("no RAIL", -2, new LockRail().settled());
    }

    private static void betterCalls() {
        doc.of("25");
        doc.says("BETTERING (IV), n changes at most (0 .. 60): how many there were.");
        LockRail x = Due.rail(APART);
        doc.refused("better(0)", 0, x, y -> y.better(0));
        doc.is("better(1)", 1, x.better(1));
        doc.same("one", "0 2 0 ", options(x));
        doc.is("better(2)", 2, x.better(2));
        doc.same("two more", "2 2 2 ", options(x));
        doc.is("better(60)", 0, x.better(60));
        doc.is("better(60) of all", 3, Due.rail(APART).better(60));
        doc.is("better(2) of all", 2, Due.rail(APART).better(2));
        doc.is("no BIKES", 0, Due.rail(ONLY_RAIL).better(60));
        LockRail longer = Due.rail(LONG);
        doc.is("sixty of 75", 60, longer.better(60));
        doc.is("behind sixty", 5_869_956, longer.all(2));
        doc.is("the other 15", 15, longer.better(60));
        doc.is("behind all", 2_308_954, longer.all(2));
        LockRail oneLess = Due.rail(LONG);
        doc.is("59 of 75", 59, oneLess.better(59));
        doc.is("the other 16", 16, oneLess.better(60));
        doc.answersByWhatIsThere("better(1)", y -> y.better(1) + 100 * y.all(2));
        doc.answersByWhatIsThere("better(60)", y -> y.better(60) + 100 * y.all(2));
        doc.says("-2: there is no such number, no RAIL.");
        LockRail wrong = Due.rail(APART);
        doc.refused("better(61)", -2, wrong, y -> y.better(61));
        for (int far : new int[] {-1, -2, 62, Integer.MAX_VALUE, Integer.MIN_VALUE}) doc.refused("better(" + far + ")", -2, wrong, y -> y.better(far));
        doc.is("no RAIL", -2, new LockRail().better(0));
        doc.is("no RAIL", -2, new LockRail().better(60));

        doc.of("26");
        doc.says("COST of all behind 60 of these at most (all stays).");
        doc.is("three locks", 30_000, Due.rail(APART).good());
        doc.is("none betters", 500_000, Due.rail(TWINS).good());
        doc.is("behind sixty of 75", 5_869_956, Due.rail(LONG).good());
        LockRail on = Due.rail(LONG);
        on.better(15);
        doc.is("behind the sixty that are left", 2_308_954, on.good());
        doc.is("no BIKES", 0, Due.rail(ONLY_RAIL).good());
        doc.asks("good()", LockRail::good);
        doc.says("-2: no RAIL.");
        doc.is("good()", -2, new LockRail().good());
    }

    private static void pair() {
        doc.of("27");
        doc.says("OPTIONS of two BIKES by which COSTS of both together are least: 100 times the one's and the other's, the least such number of several.");
        doc.is("both locked", 202, Due.rail(STRONG).pair(0, 1));
        doc.is("none, as one is taken anyway", 0, Due.rail(TWINS).pair(0, 1));
        doc.is("the last options", 1111, Due.rail(ELEVEN).pair(0, 1));
        LockRail worthless = Due.rail(STRONG.replace("bike worth 100 seems 60 at 1", "bike worth 0 seems 60 at 1"));
        doc.is("the one's a hundred times", 200, worthless.pair(0, 1));
        doc.is("the other's once", 2, worthless.pair(1, 0));
        // Hidden marks: one of them is enough for both, which have a LOCK that costs nothing.
        LockRail hidden = Due.rail("rail places 2 nights 1;lock price 0 cuts 14 14 14;bike worth 100 seems 10 at 0;bike worth 100 seems 10 at 1;"
            + "thief tool 0 comes 100 fears 50 any;thief tool 0 comes 100 fears 50 any;mark price 1 known 60 hidden;");
        doc.is("203 and 302", 203, hidden.pair(0, 1));
        doc.is("203 and 302, turned round", 203, hidden.pair(1, 0));
        LockRail alike = Due.rail(TWINS.replace("comes 50", "comes 0"));
        alike.option(0, 3);
        alike.option(1, 1);
        doc.is("as dear with a mark", 0, alike.pair(0, 1));
        LockRail three = Due.rail(APART);
        doc.is("two of three", 202, three.pair(2, 0));
        doc.asks("pair(0, 1)", y -> y.pair(0, 1));
        doc.asks("pair(2, 0)", y -> y.pair(2, 0));
        doc.says("-2: there are none such, one twice.");
        for (int b = 0; b < 3; b++) doc.is("one twice", -2, three.pair(b, b));
        doc.is("one behind the last", -2, three.pair(3, 0));
        doc.is("the other behind the last", -2, three.pair(0, 3));
        for (int far : FAR) {
            doc.is("one " + far, -2, three.pair(far, 0));
            doc.is("other " + far, -2, three.pair(0, far));
            doc.is("both " + far, -2, three.pair(far, far));
        }
        doc.is("one alone", -2, Due.rail("rail places 1 nights 1;bike worth 1 seems 1 at 0;").pair(0, 1));
        doc.is("no RAIL", -2, new LockRail().pair(0, 1));
    }

    private static void wasted() {
        doc.of("28");
        doc.says("WASTED: COST of all less what it would be with OPTION 0 of all.");
        LockRail x = Due.rail(TWINS);
        doc.is("nothing", 0, x.wasted());
        x.option(0, 2);
        doc.is("one lock that only turns him to the other", 10_000, x.wasted());
        x.option(1, 2);
        doc.is("two", 20_000, x.wasted());
        LockRail strong = Due.rail(STRONG);
        strong.option(0, 2);
        strong.option(1, 2);
        doc.is("what is won", 20_000 - 500_000, strong.wasted());
        // A mark that all have is wasted where none is known.
        LockRail marked = Due.rail(APART);
        for (int b = 0; b < 3; b++) marked.option(b, 1);
        doc.is("three marks", 3_000, marked.wasted());
        doc.is("no BIKES", 0, Due.rail(ONLY_RAIL).wasted());
        LockRail guarded = Due.rail(TWINS + "watch wage 9 adds 0;");
        guarded.watch(true);
        doc.is("wages are in both", 0, guarded.wasted());
        doc.asks("wasted()", LockRail::wasted);
        doc.says("NOTHING (-1,000,000,000,000): no RAIL.");
        doc.is("wasted()", NOTHING, new LockRail().wasted());
    }

    private static void besideCalls() {
        LockRail x = Due.rail(THREE);
        // RISKS are 50, 100, 0 in the hundred; with BIKE 1 locked 100, 0, 50.
        doc.of("29");
        doc.says("BESIDE: by how much RISK of another BIKE is more, if one had an OPTION.");
        doc.is("of 0, if 1 is locked", WHOLE / 2, x.beside(1, 2, 0));
        doc.is("of 2, if 1 is locked", WHOLE / 2, x.beside(1, 2, 2));
        doc.is("of 1, if 0 is locked", 0, x.beside(0, 2, 1));
        doc.is("of 2, if 0 is locked", WHOLE / 2, x.beside(0, 2, 2));
        doc.is("by the OPTION it has", 0, x.beside(1, 0, 0));
        doc.is("by a mark that is not known", 0, x.beside(1, 1, 0));
        x.option(1, 2);
        doc.is("less", -WHOLE / 2, x.beside(1, 0, 0));
        LockRail alone = Due.rail(TWINS.replace("comes 50", "comes 100"));
        doc.is("all of it", WHOLE, alone.beside(0, 2, 1));
        alone.option(0, 2);
        doc.is("all of it less", -WHOLE, alone.beside(0, 0, 1));
        doc.asks("beside(0, 0, 1)", y -> y.beside(0, 0, 1));
        doc.asks("beside(1, 5, 0)", y -> y.beside(1, 5, 0));
        doc.asks("beside(2, 0, 0)", y -> y.beside(2, 0, 0));
        doc.says("NOTHING: there are none such, one twice.");
        for (int b = 0; b < 3; b++) doc.is("one twice", NOTHING, x.beside(b, 0, b));
        doc.is("one behind the last", NOTHING, x.beside(3, 0, 0));
        doc.is("the other behind the last", NOTHING, x.beside(0, 0, 3));
        doc.is("an OPTION too many", NOTHING, x.beside(0, 4, 1));
        for (int far : FAR) {
            doc.is("one " + far, NOTHING, x.beside(far, 0, 0));
            doc.is("other " + far, NOTHING, x.beside(0, 0, far));
            doc.is("option " + far, NOTHING, x.beside(0, far, 1));
        }
        doc.is("no RAIL", NOTHING, new LockRail().beside(0, 0, 1));

        // Seven, of which six are taken, each by 1 in the hundred: by 1 PART the seventh is gone, if one ahead of it is not.
        StringBuilder seven = new StringBuilder("rail places 7 nights 1;lock price 1 cuts 999 999 999;");
        for (int i = 0; i < 7; i++) seven.append("bike worth 1 seems 1 at ").append(i).append(';');
        seven.append("thief tool 0 comes 1 fears 99 any;".repeat(6));
        LockRail one = Due.rail(seven.toString());
        doc.of("30");
        doc.says("How many others have more RISK then.");
        doc.is("by 1 PART", 1, one.worse(5, 2));
        doc.is("all six", 6, one.worse(0, 2));
        doc.is("none", 0, one.worse(6, 2));
        LockRail y = Due.rail(THREE);
        doc.is("those on both sides", 2, y.worse(1, 2));
        doc.is("just one", 1, y.worse(0, 2));
        doc.is("none by what it has", 0, y.worse(1, 0));
        y.option(1, 2);
        doc.is("less is not more; its own does not count", 0, y.worse(1, 0));
        doc.asks("worse(0, 0)", z -> z.worse(0, 0));
        doc.asks("worse(1, 5)", z -> z.worse(1, 5));
        doc.asks("worse(2, 1)", z -> z.worse(2, 1));
        doc.says("-2: there are none such.");
        doc.is("behind the last", -2, y.worse(3, 0));
        doc.is("an OPTION too many", -2, y.worse(0, 4));
        for (int far : FAR) {
            doc.is("bike " + far, -2, y.worse(far, 0));
            doc.is("option " + far, -2, y.worse(0, far));
        }
        doc.is("no BIKE", -2, Due.rail(ONLY_RAIL).worse(0, 0));
        doc.is("no RAIL", -2, new LockRail().worse(0, 0));

        doc.of("31");
        doc.says("NEXT: the other BIKE of which RISK grows most then, the first of several;");
        LockRail n = Due.rail(THREE);
        doc.is("of 0 and 2, by as much", 0, n.next(1, 2));
        doc.is("of 2 alone", 2, n.next(0, 2));
        doc.is("by 1 PART", 6, one.next(5, 2));
        doc.is("the most of six", 1, one.next(0, 2));
        // The one behind them gets more than the one that stands ahead of both.
        LockRail last = Due.rail("rail places 3 nights 1;lock price 1 cuts 999 999 999;bike worth 1 seems 70 at 0;bike worth 1 seems 90 at 1;"
            + "bike worth 1 seems 80 at 2;thief tool 0 comes 90 fears 50 best;thief tool 0 comes 10 fears 50 best;");
        doc.is("the last of them", 2, last.next(1, 2));
        doc.asks("next(0, 0)", z -> z.next(0, 0));
        doc.asks("next(1, 5)", z -> z.next(1, 5));
        doc.asks("next(2, 1)", z -> z.next(2, 1));
        doc.says("NONE: none's.");
        doc.is("by what it has", -1, n.next(0, 0));
        doc.is("by one that is never taken", -1, one.next(6, 2));
        n.option(1, 2);
        doc.is("where all have less", -1, n.next(1, 0));
        doc.is("one alone", -1, Due.rail("rail places 1 nights 1;bike worth 1 seems 1 at 0;thief tool 0 comes 9 fears 0 any;").next(0, 1));
        doc.says("-2 likewise.");
        doc.is("behind the last", -2, n.next(3, 0));
        doc.is("an OPTION too many", -2, n.next(0, 4));
        for (int far : FAR) {
            doc.is("bike " + far, -2, n.next(far, 0));
            doc.is("option " + far, -2, n.next(0, far));
        }
        doc.is("no BIKE", -2, Due.rail(ONLY_RAIL).next(0, 0));
        doc.is("no RAIL", -2, new LockRail().next(0, 0));
    }
}
