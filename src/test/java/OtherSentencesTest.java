/** Terms VI and VII and promises 45 to 60, sentence by sentence: covers, laws, another rail, years, counts, images, slots. */
public final class OtherSentencesTest {
    private static final Sentences doc = new Sentences();
    private static final int[] FAR = {-1, -2, 31, 32, Integer.MAX_VALUE, Integer.MIN_VALUE};
    private static final String ONLY_RAIL = "rail places 1 nights 1;";
    /** LOSS is 500,000 without the LOCK of 10, and 0 with it. */
    private static final String ONE = "rail places 2 nights 10;lock price 10 cuts 200 200 200;bike worth 100 seems 60 at 0;bike worth 100 seems 60 at 1;"
        + "thief tool 0 comes 50 fears 50 best;watch wage 9 adds 0;mark price 3 known 0;";
    /** Four BIKES: one without a LOCK, one each with LOCKS 0, 1, 2; no THIEF, so that COST is what is PAID. */
    private static final String LAWS = "rail places 4 nights 1;lock price 1 cuts 1 1 1;lock price 10 cuts 1 1 1;lock price 100 cuts 1 1 1;bike worth 1 seems 1 at 0 marked;"
        + "bike worth 1 seems 1 at 1 lock 0;bike worth 1 seems 1 at 2 lock 1;bike worth 1 seems 1 at 3 lock 2;mark price 500 known 0;";
    /** Six THIEVES, each of whom takes just his own. */
    private static final String SIX = six(60);
    private static final int[] SEEDS = {0, 1, 2, 7, 12_345, 65_535, 65_536, 1_000_000_007, 1_999_999_999, 2_000_000_000};

    public static void main(String[] args) {
        coverTerm();
        ratherTerm();
        draws();
        covers();
        laws();
        rather();
        run();
        told();
        takenAndTook();
        years();
        count();
        images();
        row();
        write();
        paste();
        doc.close();
    }

    private static String six(int nights) {
        StringBuilder s = new StringBuilder("rail places 20 nights " + nights + ";");
        for (int i = 0; i < 6; i++) s.append("bike worth ").append(1 << i).append(" seems 1 at ").append(i).append(';');
        for (int i = 0; i < 6; i++) s.append("thief tool 0 comes ").append(10 * i + 5).append(" fears 0 just ").append(i).append(';');
        return s.toString();
    }

    /** BIKES 0 and 1, and a THIEF for each, who come by so many in the hundred. */
    private static String two(int nights, int one, int other) {
        return "rail places 2 nights " + nights + ";bike worth 3 seems 1 at 0;bike worth 5 seems 1 at 1;thief tool 0 comes " + one
            + " fears 0 just 0;thief tool 0 comes " + other + " fears 0 just 1;";
    }

    private static String alone(int nights, int comes) {
        return "rail places 1 nights " + nights + ";bike worth 3 seems 1 at 0;thief tool 0 comes " + comes + " fears 0 any;";
    }

    private static void coverTerm() {
        doc.of("VI");
        doc.says("COVERED: 1,000 times premium, PAID, and (100 less pays) times LOSS by 100, cut (no wage).");
        LockRail x = Due.rail(ONE);
        doc.is("premium alone, all being paid", 7_000, x.cover(0, 7, 100));
        doc.is("premium and PAID", 17_000, x.cover(0, 7, 0));
        doc.is("premium and 1 in the hundred of LOSS", 12_000, x.cover(0, 7, 99));
        x.watch(true);
        doc.is("no wage", 17_000, x.cover(0, 7, 0));
        doc.is("no wage, not even without a premium", 0, x.cover(1, 0, 100));
        StringBuilder six = new StringBuilder("rail places 6 nights 1;");
        for (int i = 0; i < 6; i++) six.append("bike worth 1 seems 1 at ").append(i).append(';');
        LockRail cut = Due.rail(six + "thief tool 0 comes 1 fears 0 any;".repeat(6));
        int[] pays = {0, 1, 49, 50, 51, 98, 99, 100};
        int[] of58 = {58, 57, 29, 29, 28, 1, 0, 0};
        for (int i = 0; i < pays.length; i++) doc.is("58, of which " + pays[i] + " in the hundred are paid", of58[i], cut.cover(0, 0, pays[i]));
        LockRail most = Due.rail("rail places 1 nights 60;bike worth 9999 seems 1 at 0;thief tool 0 comes 100 fears 0 any;mark price 999 known 0;");
        doc.is("the most there is", 9_999_000 + 599_940_000, most.cover(0, 9999, 0));

        doc.says("LAW for a LOCK: each BIKE that has none, or one that is told ahead of it, has that one.");
        LockRail laws = Due.rail(LAWS);
        doc.is("none", 611_000, laws.law(-1));
        doc.is("for LOCK 0", 612_000, laws.law(0));
        doc.is("for LOCK 1", 630_000, laws.law(1));
        doc.is("for LOCK 2", 900_000, laws.law(2));
        LockRail dear = Due.rail(LAWS.replace("lock price 1 cuts", "lock price 900 cuts"));
        doc.is("for LOCK 0, the dearest", 900_000 + 900_000 + 110_000 + 500_000, dear.law(0));
        doc.is("for LOCK 1: told ahead of it goes, however dear", 630_000, dear.law(1));
    }

    private static String bike(int seems, String lock, String thief) {
        return "rail places 1 nights 1;lock price 1 cuts 100 50 1;bike worth 1 seems " + seems + " at 0" + lock + ";thief tool " + thief + ";";
    }

    /** What a THIEF on the one RAIL says of the other, which is kept. */
    private static int ratherThere(String here, String there) {
        LockRail x = Due.rail(there);
        x.keep(1);
        Due.feed(x, here);
        x.rail();
        return x.rather(0, 1);
    }

    private static void ratherTerm() {
        doc.says("RATHER: what he takes here and there, all being there (NONE: NET 0): there, if NET is greater there.");
        String thief = "0 comes 0 fears 50 best";
        doc.is("1 more there", 1, ratherThere(bike(60, "", thief), bike(61, "", thief)));
        doc.is("as much", 0, ratherThere(bike(60, "", thief), bike(60, "", thief)));
        doc.is("1 more here", 0, ratherThere(bike(60, "", thief), bike(59, "", thief)));
        doc.is("nothing here", 1, ratherThere(bike(0, "", thief), bike(1, "", thief)));
        doc.is("nothing there", 0, ratherThere(bike(1, "", thief), bike(0, "", thief)));
        doc.is("NET counts, not GAIN", 0, ratherThere(bike(60, "", thief), bike(110, " lock 0", thief)));
        doc.is("NET counts, 1 more", 1, ratherThere(bike(60, "", thief), bike(111, " lock 0", thief)));
        doc.is("NET below 0 there is none", 0, ratherThere(bike(1, "", thief), bike(49, " lock 0", thief)));
        doc.is("NET below 0 here is none", 1, ratherThere(bike(49, " lock 0", thief), bike(1, "", thief)));
        // What he takes is not what he would have most of.
        String dear = "rail places 2 nights 1;lock price 1 cuts 2 1 1;bike worth 1 seems 9 at 0;bike worth 1 seems 90 at 1 lock 0;thief tool 0 comes 1 fears 50 any;";
        doc.is("of the least trouble, 9", 0, ratherThere(bike(9, "", "0 comes 1 fears 50 any"), dear));
        doc.is("of the least trouble, more than 8", 1, ratherThere(bike(8, "", "0 comes 1 fears 50 any"), dear));
        doc.is("the light there", 0, ratherThere(bike(60, " lock 0", thief), bike(60, " lock 0", thief) + "lamp at 0 bright 1;"));
        doc.is("the light here", 1, ratherThere(bike(60, " lock 0", thief) + "lamp at 0 bright 1;", bike(60, " lock 0", thief)));
        doc.is("the marks there", 0, ratherThere(bike(60, "", thief), bike(119, " marked", thief) + "mark price 1 known 50;"));
        doc.is("the marks there, 1 more", 1, ratherThere(bike(60, "", thief), bike(122, " marked", thief) + "mark price 1 known 50;"));
        LockRail gone = Due.rail(bike(60, "", thief));
        gone.keep(0);
        gone.option(0, 2);
        doc.is("as the image has it", 1, gone.rather(0, 0));
        gone.keep(1);
        gone.option(0, 0);
        doc.is("as it is here", 0, gone.rather(0, 1));
        gone.back(1);
        doc.is("as it is gone back to", 1, gone.rather(0, 0));
    }

    private static void draws() {
        doc.of("VII");
        doc.says("DRAWS: x becomes (1103515245 x + 12345) modulo 2,147,483,648 (at first it is the seed);");
        int[] of37 = {20, 22, 24, 23, 20, 23, 31, 24, 24, 21};
        int[] of50 = {25, 30, 34, 27, 25, 29, 36, 32, 37, 27};
        for (int i = 0; i < SEEDS.length; i++) {
            doc.is("of sixty draws from " + SEEDS[i] + " below 37", of37[i], Due.rail(alone(60, 37)).run(SEEDS[i]));
            doc.is("of sixty draws from " + SEEDS[i] + " below 50", of50[i], Due.rail(alone(60, 50)).run(SEEDS[i]));
        }

        doc.says("a draw: x / 65536, cut, modulo 100.");
        int[] first = {0, 38, 8, 64, 68, 38, 77, 32, 33, 4};
        for (int i = 0; i < SEEDS.length; i++) {
            doc.is("the first draw from " + SEEDS[i] + " is not below itself", 0, Due.rail(alone(1, first[i])).run(SEEDS[i]));
            doc.is("the first draw from " + SEEDS[i] + " is below one more", 1, Due.rail(alone(1, first[i] + 1)).run(SEEDS[i]));
        }

        doc.says("NIGHT by NIGHT, THIEF by THIEF a draw: he comes, if it is below comes.");
        int[] one = {15, 16, 21, 15, 14, 21, 21, 19, 13, 22};
        int[] other = {41, 48, 43, 43, 37, 36, 38, 39, 46, 36};
        for (int i = 0; i < SEEDS.length; i++) {
            LockRail x = Due.rail(two(60, 30, 70));
            doc.is("both, seed " + SEEDS[i], one[i] + other[i], x.run(SEEDS[i]));
            doc.is("every second draw from the first on", one[i], x.took(0));
            doc.is("every second draw from the second on", other[i], x.took(1));
            LockRail idle = Due.rail(two(60, 30, 70).replace("seems 1 at 0", "seems 0 at 0"));
            doc.is("a draw for one who takes nothing too", other[i], idle.run(SEEDS[i]));
            doc.is("a comes of 0", 0, Due.rail(alone(60, 0)).run(SEEDS[i]));
            doc.is("a comes of 100", 60, Due.rail(alone(60, 100)).run(SEEDS[i]));
        }
        // The second finds nothing where the first came.
        LockRail same = Due.rail(two(60, 100, 100).replace("just 1", "just 0"));
        doc.is("once a night", 60, same.run(5));
        doc.is("by the first", 60, same.took(0));
        doc.is("not by the second", 0, same.took(1));
    }

    private static void covers() {
        LockRail x = Due.rail(ONE);
        doc.of("45");
        doc.says("COST of a BIKE that is COVERED (VI) at its best OPTION, in thousandths.");
        doc.is("with its LOCK", 10_000, x.cover(0, 0, 0));
        doc.is("without", 5_000, x.cover(0, 0, 99));
        doc.is("as dear", 10_000, x.cover(0, 0, 98));
        doc.is("the other", 9_999_000, x.cover(1, 9999, 0));
        x.option(0, 3);
        doc.is("whichever it has now", 10_000, x.cover(0, 0, 0));
        doc.asks("cover(0, 5, 50)", y -> y.cover(0, 5, 50));
        doc.asks("cover(1, 0, 0)", y -> y.cover(1, 0, 0));
        doc.asks("cover(2, 9999, 100)", y -> y.cover(2, 9999, 100));
        doc.says("-2: there are none such (premium 0 .. 9,999, pays 0 .. 100).");
        doc.is("a BIKE too many", -2, x.cover(2, 0, 0));
        doc.is("premium 10,000", -2, x.cover(0, 10_000, 0));
        doc.is("pays 101", -2, x.cover(0, 0, 101));
        for (int far : FAR) doc.is("bike " + far, -2, x.cover(far, 0, 0));
        for (int far : new int[] {-1, -2, 10_001, Integer.MAX_VALUE, Integer.MIN_VALUE}) {
            doc.is("premium " + far, -2, x.cover(0, far, 0));
            doc.is("pays " + far, -2, x.cover(0, 0, far));
        }
        doc.is("no BIKE", -2, Due.rail(ONLY_RAIL).cover(0, 0, 0));
        doc.is("no RAIL", -2, new LockRail().cover(0, 0, 0));

        doc.of("46");
        doc.says("That OPTION, the first of several.");
        LockRail y = Due.rail(ONE);
        doc.is("careful", 2, y.careless(0, 0, 0));
        doc.is("careful, half being paid", 2, y.careless(0, 9999, 50));
        doc.is("careful, 97 being paid", 2, y.careless(0, 5, 97));
        doc.is("as dear: the first", 0, y.careless(0, 5, 98));
        doc.is("careless", 0, y.careless(0, 5, 100));
        y.option(1, 3);
        doc.is("never taken", 0, y.careless(1, 0, 0));
        // Only the last OPTION of twelve keeps the THIEF away.
        LockRail eleven = Due.rail("rail places 1 nights 1;" + "lock price 0 cuts 1 1 1;".repeat(4) + "lock price 0 cuts 999 999 999;"
            + "bike worth 100 seems 100 at 0;thief tool 0 comes 100 fears 6 any;mark price 0 known 50;");
        doc.is("the last of twelve", 11, eleven.careless(0, 0, 0));
        doc.is("its cost", 0, eleven.cover(0, 0, 0));
        doc.asks("careless(0, 5, 50)", z -> z.careless(0, 5, 50));
        doc.asks("careless(1, 0, 0)", z -> z.careless(1, 0, 0));
        doc.asks("careless(2, 9999, 100)", z -> z.careless(2, 9999, 100));
        doc.says("-2 likewise.");
        doc.is("a BIKE too many", -2, y.careless(2, 0, 0));
        doc.is("premium 10,000", -2, y.careless(0, 10_000, 0));
        doc.is("premium 9,999", 0, y.careless(0, 9_999, 100));
        doc.is("pays 101", -2, y.careless(0, 0, 101));
        for (int far : FAR) doc.is("bike " + far, -2, y.careless(far, 0, 0));
        for (int far : new int[] {-1, -2, 10_001, Integer.MAX_VALUE, Integer.MIN_VALUE}) {
            doc.is("premium " + far, -2, y.careless(0, far, 0));
            doc.is("pays " + far, -2, y.careless(0, 0, far));
        }
        doc.is("no RAIL", -2, new LockRail().careless(0, 0, 0));
    }

    private static void laws() {
        LockRail x = Due.rail(LAWS);
        doc.of("47");
        doc.says("COST of all by a LAW (VI) for a LOCK (NONE: none).");
        doc.is("NONE: as it is", x.all(2), x.law(LockRail.NONE));
        LockRail one = Due.rail(ONE);
        doc.is("with what is lost", 500_000, one.law(-1));
        doc.is("with what is not lost any more", 20_000, one.law(0));
        one.watch(true);
        doc.is("with wages", 20_000 + 90_000, one.law(0));
        doc.is("no BIKES", 0, Due.rail(ONLY_RAIL + "lock price 9 cuts 1 1 1;").law(0));
        doc.is("no LOCKS", 0, Due.rail(ONLY_RAIL).law(-1));
        for (int lock = -1; lock < 2; lock++) {
            int one1 = lock;
            doc.asks("law(" + lock + ")", y -> y.law(one1));
        }
        doc.says("-2: there is no such one, no RAIL.");
        doc.is("one behind the last", -2, x.law(3));
        for (int far : new int[] {-2, 31, Integer.MAX_VALUE, Integer.MIN_VALUE}) doc.is("law(" + far + ")", -2, x.law(far));
        doc.is("no LOCKS", -2, Due.rail(ONLY_RAIL).law(0));
        doc.is("no RAIL", -2, new LockRail().law(-1));
        doc.is("no RAIL", -2, new LockRail().law(0));

        doc.of("48");
        doc.says("The LAW (NONE, or a LOCK) by which that is least, the first of several (NONE ahead).");
        doc.is("none", -1, x.laws());
        doc.is("the only one", 0, Due.rail(ONE).laws());
        String three = "rail places 1 nights 1;lock price %d cuts 999 999 999;lock price %d cuts 999 999 999;lock price %d cuts 999 999 999;"
            + "bike worth 100 seems 60 at 0;thief tool 0 comes 100 fears 50 any;";
        doc.is("the first of three", 0, Due.rail(String.format(three, 1, 2, 3)).laws());
        doc.is("the second of three", 1, Due.rail(String.format(three, 2, 1, 3)).laws());
        doc.is("the last of three", 2, Due.rail(String.format(three, 3, 2, 1)).laws());
        doc.is("the first of several", 0, Due.rail(String.format(three, 1, 1, 1)).laws());
        doc.is("the first of several behind", 1, Due.rail(String.format(three, 2, 1, 1)).laws());
        doc.is("NONE ahead, being as dear", -1, Due.rail(String.format(three, 100, 100, 100)).laws());
        doc.is("a LOCK, being 1,000 less", 2, Due.rail(String.format(three, 100, 100, 99)).laws());
        doc.is("no LOCKS", -1, Due.rail(ONLY_RAIL).laws());
        doc.is("no BIKES", -1, Due.rail(ONLY_RAIL + "lock price 0 cuts 1 1 1;").laws());
        doc.asks("laws()", LockRail::laws);
        doc.says("-2: no RAIL.");
        doc.is("laws()", -2, new LockRail().laws());
    }

    private static void rather() {
        String thief = "0 comes 1 fears 50 best";
        doc.of("49");
        doc.says("Whether a THIEF would rather go to the RAIL of an IMAGE (VI): 1 or 0;");
        LockRail x = Due.rail(bike(60, "", thief) + "thief tool 1 comes 1 fears 99 any;");
        for (int k = 0; k < 3; k++) {
            x.option(0, 0);
            if (k == 1) x.option(0, 2);
            x.keep(k);
        }
        x.option(0, 2);
        doc.is("to the first", 1, x.rather(0, 0));
        doc.is("to the second, which is as this one", 0, x.rather(0, 1));
        doc.is("to the third", 1, x.rather(0, 2));
        doc.is("the other THIEF", 1, x.rather(1, 2));
        doc.refused("all stays", 1, x, y -> y.rather(1, 2));
        doc.is("the image stays", 0, x.back(0));
        doc.is("the image stays", -1, x.bike(0, 3));
        doc.is("with his own tool", 1, ratherThere(bike(9, "", "1 comes 1 fears 50 any"), bike(35, " lock 0", "0 comes 1 fears 50 any")));
        doc.is("with his own tool, 50 seconds by half", 0, ratherThere(bike(10, "", "1 comes 1 fears 50 any"), bike(35, " lock 0", "0 comes 1 fears 50 any")));
        doc.is("with his own fears", 1, ratherThere(bike(9, "", "0 comes 1 fears 90 any"), bike(100, " lock 0", "0 comes 1 fears 50 any")));
        doc.is("with his own fears, 100 seconds by 90", 0, ratherThere(bike(10, "", "0 comes 1 fears 90 any"), bike(100, " lock 0", "0 comes 1 fears 50 any")));
        doc.is("where there is no THIEF", 1, ratherThere(bike(1, "", thief), "rail places 1 nights 1;bike worth 1 seems 2 at 0;"));
        doc.says("NONE: to neither.");
        doc.is("nothing here nor there", -1, ratherThere(bike(0, "", thief), bike(0, "", thief)));
        doc.is("unwanted here and there", -1, ratherThere(bike(50, " lock 0", thief), bike(1, " lock 0", thief)));
        doc.is("no BIKES there", -1, ratherThere(bike(0, "", thief), ONLY_RAIL));
        doc.is("no BIKES here", -1, ratherThere(ONLY_RAIL + "thief tool 0 comes 1 fears 0 best;", bike(0, "", thief)));
        doc.says("-2: there are none such, it is not kept.");
        LockRail none = Due.rail(bike(60, "", thief));
        for (int k = 0; k < 3; k++) doc.is("it is not kept", -2, none.rather(0, k));
        none.keep(1);
        doc.is("another is kept", -2, none.rather(0, 0));
        doc.is("another is kept", -2, none.rather(0, 2));
        doc.is("an IMAGE too many", -2, none.rather(0, 3));
        doc.is("a THIEF too many", -2, none.rather(1, 1));
        for (int far : FAR) {
            doc.is("image " + far, -2, none.rather(0, far));
            doc.is("thief " + far, -2, none.rather(far, 1));
        }
        none.rail();
        doc.is("no RAIL, and so no THIEF", -2, none.rather(0, 1));
        none.keep(2);
        none.back(1);
        doc.is("gone back to", 0, none.rather(0, 1));
        doc.refused("no RAIL there to go to", -2, none, y -> y.rather(0, 2));
        doc.is("nor for one who takes nothing here", -2, ratherThere(bike(0, "", thief), ""));
        doc.is("nor for one who has no BIKES here", -2, ratherThere(ONLY_RAIL + "thief tool 0 comes 1 fears 0 best;", ""));
        none.keep(2);
        doc.is("a RAIL there in its place", 0, none.rather(0, 2));
        doc.is("no RAIL", -2, new LockRail().rather(0, 0));
    }

    private static void run() {
        doc.of("50");
        doc.says("A YEAR drawn from a seed (0 .. 2,000,000,000) (VII): how many BIKES were taken.");
        LockRail x = Due.rail(two(60, 30, 70));
        doc.is("seed 0", 15 + 41, x.run(0));
        doc.is("a YEAR", 1, x.count(11));
        doc.is("the last seed", 22 + 36, x.run(2_000_000_000));
        doc.is("in place of the other: taken(0)", 22, x.taken(0));
        doc.is("in place of the other: took(1)", 36, x.took(1));
        doc.is("no THIEF", 0, Due.rail(ONLY_RAIL).run(7));
        doc.is("none stands there to take", 0, Due.rail("rail places 1 nights 60;thief tool 0 comes 100 fears 0 any;").run(7));
        doc.answersByWhatIsThere("run(9)", y -> y.run(9) + 1000L * y.taken(0) + 1_000_000L * y.taken(1) + 1_000_000_000L * y.took(0));
        doc.says("-2: there is no such seed, no RAIL.");
        doc.refused("one behind the last", -2, x, y -> y.run(2_000_000_001));
        for (int far : new int[] {-1, -2, Integer.MAX_VALUE, Integer.MIN_VALUE}) doc.refused("seed " + far, -2, x, y -> y.run(far));
        doc.refused("no YEAR yet", -2, Due.rail(SIX), y -> y.run(-1));
        doc.refused("no RAIL", -2, new LockRail(), y -> y.run(0));
    }

    private static void told() {
        doc.of("51");
        doc.says("A YEAR told by a SLOT's row: its number for NIGHT 0, 1, .. as bits of the THIEVES that came (none behind its end): how many BIKES were taken.");
        LockRail x = Due.rail(SIX);
        for (int slot = 0; slot < 4; slot++) {
            x.row(slot, slot, 60);
            doc.is("none came", 0, x.told(slot));
            for (int i = 0; i < 6; i++) x.write(slot, 59 - i, 1 << i);
            x.write(slot, 0, 63);
            doc.is("six and one by one", 12, x.told(slot));
            for (int t = 0; t < 6; t++) doc.is("took(" + t + ")", 2, x.took(t));
            x.write(slot, 1, 1 << slot);
            doc.is("one more", 13, x.told(slot));
            for (int t = 0; t < 6; t++) doc.is("taken(" + t + ")", t == slot ? 3 : 2, x.taken(t));
        }
        x.row(0, 0, 1);
        x.write(0, 0, 32);
        doc.is("none behind its end", 1, x.told(0));
        doc.is("the others are of the other YEAR", 0, x.taken(0));
        x.row(0, 0, 0);
        doc.is("a row of none", 0, x.told(0));
        doc.is("a YEAR all the same", 1, x.count(11));
        doc.is("in which none took any", 0, x.took(5));
        // By bits in the order of the THIEVES: the first takes the best, and the second what is left.
        LockRail best = Due.rail("rail places 2 nights 2;bike worth 1 seems 1 at 0;bike worth 1 seems 2 at 1;" + "thief tool 0 comes 0 fears 0 best;".repeat(2));
        best.row(0, 0, 2);
        best.write(0, 0, 3);
        best.write(0, 1, 2);
        doc.is("each NIGHT all are there again", 3, best.told(0));
        doc.is("the best twice", 2, best.taken(1));
        doc.is("the other once", 1, best.taken(0));
        doc.is("by the second", 2, best.took(1));
        doc.is("no THIEF, none came", 0, zeros(ONLY_RAIL, 1).told(0));
        doc.answersByWhatIsThere("told(0)", y -> {
            y.row(0, 0, 3);
            y.write(0, 0, 7);
            y.write(0, 2, 2);
            return y.told(0) + 1000L * y.taken(0) + 1_000_000L * y.taken(1) + 1_000_000_000L * y.took(0);
        });

        doc.says("-2: there is no such SLOT, no RAIL, the row is longer than there are NIGHTS, a number has others;");
        doc.refused("a SLOT too many", -2, x, y -> y.told(4));
        for (int far : FAR) doc.refused("slot " + far, -2, x, y -> y.told(far));
        LockRail no = new LockRail();
        no.row(0, 0, 1);
        doc.refused("no RAIL", -2, no, y -> y.told(0));
        doc.refused("no RAIL, no row", -2, no, y -> y.told(1));
        LockRail shortYear = Due.rail(six(3));
        shortYear.run(1);
        shortYear.row(0, 0, 3);
        shortYear.row(1, 0, 4);
        doc.refused("longer by one, all 0", -2, shortYear, y -> y.told(1));
        doc.is("as long", 0, shortYear.told(0));
        doc.refused("sixty by three", -2, zeros(six(3), 60), y -> y.told(0));
        LockRail wide = Due.rail(SIX);
        wide.run(1);
        for (int bit = 6; bit < 64; bit++) {
            wide.row(0, 3, 2);
            wide.write(0, 1, 1L << bit | 1);
            doc.is("bit " + bit, -2, wide.told(0));
        }
        doc.refused("bit 63", -2, wide, y -> y.told(0));
        for (int width = 0; width < 4; width++) {
            wide.row(0, width, 2);
            wide.write(0, 1, -1);
            doc.is("all bits of width " + width, -2, wide.told(0));
        }
        LockRail one = Due.rail(alone(1, 1));
        one.row(0, 0, 1);
        one.write(0, 0, 2);
        doc.is("a second THIEF where there is one", -2, one.told(0));
        one.write(0, 0, 1);
        doc.is("the one", 1, one.told(0));
        LockRail nobody = zeros(ONLY_RAIL, 1);
        nobody.write(0, 0, 1);
        doc.is("a THIEF where there is none", -2, nobody.told(0));

        doc.says("-6: it has nothing (ahead of the row).");
        LockRail empty = Due.rail(SIX);
        empty.run(3);
        for (int slot = 0; slot < 4; slot++) {
            int none = slot;
            doc.refused("told(" + slot + ")", -6, empty, y -> y.told(none));
        }
    }

    private static LockRail zeros(String text, int n) {
        LockRail x = Due.rail(text);
        x.row(0, 0, n);
        return x;
    }

    private static void takenAndTook() {
        LockRail x = Due.rail(two(60, 30, 70));
        doc.of("52");
        doc.says("Of the YEAR how often a BIKE was taken.");
        x.run(1);
        doc.is("taken(0)", 16, x.taken(0));
        doc.is("taken(1)", 48, x.taken(1));
        x.option(0, 1);
        x.move(0, 0);
        doc.is("changes are not of the YEAR", 16, x.taken(0));
        doc.is("always", 60, always().taken(0));
        doc.says("NONE: there is no YEAR.");
        LockRail none = Due.rail(two(60, 30, 70));
        doc.is("none yet", -1, none.taken(0));
        none.years(0, 5, 0);
        doc.is("none of years", -1, none.taken(1));
        doc.says("-2: there is no such BIKE.");
        for (LockRail y : new LockRail[] {x, none}) {
            doc.is("behind the last", -2, y.taken(2));
            for (int far : FAR) doc.is("taken(" + far + ")", -2, y.taken(far));
        }
        doc.is("no RAIL", -2, new LockRail().taken(0));

        doc.of("53");
        doc.says("How many a THIEF took.");
        doc.is("took(0)", 16, x.took(0));
        doc.is("took(1)", 48, x.took(1));
        doc.is("always", 60, always().took(0));
        LockRail six = Due.rail(SIX);
        int sum = 0;
        int taken = six.run(77);
        for (int t = 0; t < 6; t++) {
            doc.is("just his own", six.taken(t), six.took(t));
            sum += six.took(t);
        }
        doc.is("together", taken, sum);
        doc.says("NONE, -2 likewise.");
        doc.is("no YEAR", -1, none.took(0));
        for (LockRail y : new LockRail[] {x, none}) {
            doc.is("behind the last", -2, y.took(2));
            for (int far : FAR) doc.is("took(" + far + ")", -2, y.took(far));
        }
        doc.is("no RAIL", -2, new LockRail().took(0));
    }

    private static LockRail always() {
        LockRail x = Due.rail(alone(60, 100));
        x.run(0);
        return x;
    }

    private static void years() {
        LockRail x = Due.rail(alone(60, 37));
        doc.of("54");
        doc.says("Of n YEARS (1 .. 100) drawn from seeds, the seed and 1, ..,");
        int[][] sums = {{0, 1, 20}, {0, 2, 42}, {0, 50, 1108}, {0, 100, 2237}, {5, 1, 19}, {5, 2, 45}, {5, 50, 1118}, {5, 100, 2252},
            {2_000_000_000, 1, 21}};
        for (int[] s : sums) doc.is("years(" + s[0] + ", " + s[1] + ", 0)", s[2], x.years(s[0], s[1], 0));
        doc.is("seeds go on above the last", 2206, x.years(2_000_000_000, 100, 0));

        doc.says("what 0: BIKES taken together,");
        doc.is("as each by itself", x.run(7) + x.run(8) + x.run(9), x.years(7, 3, 0));
        doc.is("all that there can be", 100 * 60 * 6, Due.rail(SIX.replaceAll("comes \\d+", "comes 100")).years(1, 100, 0));

        doc.says("1: the most in one,");
        int[][] most = {{0, 1, 20}, {0, 2, 22}, {0, 50, 30}, {0, 100, 30}, {5, 50, 30}, {2_000_000_000, 1, 21}};
        for (int[] m : most) doc.is("years(" + m[0] + ", " + m[1] + ", 1)", m[2], x.years(m[0], m[1], 1));
        doc.is("none ever", 0, Due.rail(alone(60, 0)).years(0, 100, 1));
        doc.is("all that there can be", 60 * 6, Due.rail(SIX.replaceAll("comes \\d+", "comes 100")).years(1, 100, 1));

        doc.says("2: worth of these together.");
        doc.is("3 each", 3 * 2237, x.years(0, 100, 2));
        doc.is("3 and 5 each", 3 * 15 + 5 * 41, Due.rail(two(60, 30, 70)).years(0, 1, 2));
        doc.is("all that there can be", 100 * 60 * 63, Due.rail(SIX.replaceAll("comes \\d+", "comes 100")).years(1, 100, 2));
        LockRail dear = Due.rail(SIX.replaceAll("comes \\d+", "comes 100").replaceAll("worth \\d+", "worth 9999"));
        doc.is("the most there is", 100L * 60 * 6 * 9999, dear.years(1, 100, 2));
        for (int w = 0; w < 3; w++) {
            int what = w;
            doc.asks("years(3, 4, " + w + ")", y -> y.years(3, 4, what));
        }
        LockRail none = Due.rail(SIX);
        none.years(1, 2, 0);
        doc.is("they are no YEAR", 0, none.count(11));

        doc.says("-2: there are none such, no RAIL.");
        doc.is("n of 0", -2, x.years(0, 0, 0));
        doc.is("n of 101", -2, x.years(0, 101, 0));
        doc.is("what 3", -2, x.years(0, 1, 3));
        doc.is("seed 2,000,000,001", -2, x.years(2_000_000_001, 1, 0));
        for (int far : new int[] {-1, -2, Integer.MAX_VALUE, Integer.MIN_VALUE}) {
            doc.is("seed " + far, -2, x.years(far, 1, 0));
            doc.is("n " + far, -2, x.years(0, far, 0));
            doc.is("what " + far, -2, x.years(0, 1, far));
        }
        doc.is("no RAIL", -2, new LockRail().years(0, 1, 0));
    }

    private static void count() {
        String full = "rail places 20 nights 60;" + "lamp at 0 bright 1;".repeat(4) + "lock price 1 cuts 1 1 1;".repeat(5);
        StringBuilder s = new StringBuilder(full);
        for (int i = 0; i < 10; i++) s.append("bike worth 1 seems 1 at ").append(i).append(i < 7 ? " marked;" : ";");
        s.append("thief tool 0 comes 50 fears 0 any;".repeat(6)).append("watch wage 1 adds 1;");
        LockRail most = Due.rail(s.toString());
        most.watch(true);
        most.run(1);
        for (int slot = 0; slot < 4; slot++) most.row(slot, 0, 0);
        for (int i = 0; i < 80; i++) most.feed(0, 0, 0, 0, 0);
        LockRail least = Due.rail(ONLY_RAIL);
        LockRail none = new LockRail();
        String[] says = {"0 PLACES,", "1 NIGHTS,", "2 LAMPS,", "3 LOCKS,", "4 BIKES,", "5 THIEVES,", "6 LINES,", "7 bytes of the TAPE,", "8 those marked,",
            "9 1 if a watchman stands there,", "10 OPTIONS (0 without a RAIL),", "11 1 if there is a YEAR,", "12 SLOTS that have a row."};
        int[] ofMost = {20, 60, 4, 5, 10, 6, 27, 1600, 7, 1, 12, 1, 4};
        int[] ofLeast = {1, 1, 0, 0, 0, 0, 1, 0, 0, 0, 2, 0, 0};
        doc.of("55");
        for (int what = 0; what <= 12; what++) {
            doc.says(says[what]);
            doc.is("the most", ofMost[what], most.count(what));
            doc.is("the least", ofLeast[what], least.count(what));
            doc.is("no RAIL", 0, none.count(what));
        }
        doc.says("NONE for others.");
        for (LockRail x : new LockRail[] {most, least, none}) {
            doc.is("count(13)", -1, x.count(13));
            for (int far : FAR) doc.is("count(" + far + ")", -1, x.count(far));
        }
    }

    private static void images() {
        doc.of("56");
        doc.says("IMAGE k (0 .. 2) keeps RAIL (with all OPTIONS and PLACES), watchman and YEAR: 0.");
        LockRail[] xs = {Sentences.asChanged(), Sentences.asTold(), Due.rail(SIX), new LockRail(), Due.rail(ONLY_RAIL)};
        xs[0].run(5);
        xs[2].run(6);
        for (LockRail x : xs) {
            for (int k = 0; k < 3; k++) {
                String before = Sentences.look(x);
                doc.is("keep(" + k + ")", 0, x.keep(k));
                doc.same("which changes nothing", before, Sentences.look(x));
                long cost = x.all(2) + 3 * x.law(0) + 7 * x.penny() + 11 * x.gain(0) + 13 * x.bait(2, 90, 30);
                Due.feed(x, "rail places 6 nights 7;lamp at 1 bright 5;lock price 2 cuts 7 8 9;bike worth 3 seems 4 at 5;bike worth 8 seems 9 at 0 lock 0 marked;"
                    + "thief tool 1 comes 40 fears 4 just 1;mark price 7 known 20 hidden;watch wage 3 adds 4;");
                x.rail();
                x.watch(true);
                x.run(1);
                doc.is("back(" + k + ")", 0, x.back(k));
                doc.same("as it was", before, Sentences.look(x));
                doc.is("as it was, reckoned", cost, x.all(2) + 3 * x.law(0) + 7 * x.penny() + 11 * x.gain(0) + 13 * x.bait(2, 90, 30));
            }
        }
        LockRail three = Due.rail(two(60, 30, 70));
        for (int k = 0; k < 3; k++) {
            three.option(0, k % 2);
            three.run(k);
            three.keep(k);
        }
        int[] taken = {15, 16, 21};
        for (int k = 2; k >= 0; k--) {
            three.back(k);
            doc.is("each its own", taken[k], three.taken(0));
            doc.is("each its own", taken[k], three.took(0));
            doc.is("each its own", k % 2, three.bike(0, 4));
        }
        three.keep(2);
        three.back(1);
        three.back(2);
        doc.is("in place of what it had", 15, three.taken(0));
        three.option(0, 1);
        three.run(1);
        three.back(2);
        doc.is("what is changed later is not kept", 0, three.bike(0, 4));
        doc.is("what is drawn later is not kept", 15, three.took(0));
        doc.says("-2: no such k.");
        doc.refused("keep(3)", -2, three, y -> y.keep(3));
        for (int far : FAR) doc.refused("keep(" + far + ")", -2, three, y -> y.keep(far));
        LockRail fresh = Due.rail(SIX);
        fresh.keep(3);
        fresh.keep(-1);
        for (int k = 0; k < 3; k++) doc.is("none was kept", -6, fresh.back(k));

        doc.of("57");
        doc.says("These are as IMAGE k has them: 0.");
        LockRail x = Sentences.asChanged();
        x.keep(0);
        x.watch(false);
        x.option(1, 5);
        x.move(1, 4);
        x.run(1);
        Due.feed(x, "rail places 0");
        x.rail();
        Due.feed(x, "abc");
        x.row(2, 1, 5);
        x.write(2, 0, 1);
        doc.is("back(0)", 0, x.back(0));
        doc.is("the watchman", 1, x.count(9));
        doc.is("the option", -1, x.bike(1, 3));
        doc.is("the place", 1, x.bike(1, 2));
        doc.is("no YEAR", 0, x.count(11));
        doc.is("no YEAR", -1, x.taken(0));
        doc.is("the TAPE stays", 3, x.count(7));
        doc.is("the FAULT stays", 2, x.fault(0));
        doc.is("the SLOTS stay", 1, x.told(2));
        x.option(1, 5);
        doc.is("back(0) again", 0, x.back(0));
        doc.is("the IMAGE stays", -1, x.bike(1, 3));
        LockRail empty = new LockRail();
        empty.keep(0);
        Due.feed(empty, SIX);
        empty.rail();
        empty.run(1);
        doc.is("back to no RAIL", 0, empty.back(0));
        doc.is("no RAIL", -2, empty.part(0));
        doc.is("no RAIL", 0, empty.count(10));
        doc.is("no YEAR", 0, empty.count(11));
        doc.says("-2: no such k;");
        doc.refused("back(3)", -2, x, y -> y.back(3));
        for (int far : FAR) doc.refused("back(" + far + ")", -2, x, y -> y.back(far));
        doc.says("-6: it has nothing.");
        doc.refused("back(1)", -6, x, y -> y.back(1));
        doc.refused("back(2)", -6, x, y -> y.back(2));
        for (int k = 0; k < 3; k++) doc.is("of a new object", -6, new LockRail().back(k));
    }

    /** A number of a SLOT's row, seen by telling a YEAR of it alone; -2 if it has other bits than those of six THIEVES. */
    private static int number(LockRail x, int slot, int width, int i) {
        int by = 3 - slot;
        x.row(by, width, 1);
        x.paste(slot, i, by, 0, 1);
        if (x.told(by) < 0) return -2;
        int bits = 0;
        for (int t = 0; t < 6; t++) bits |= x.took(t) << t;
        return bits;
    }

    private static void row() {
        doc.of("58");
        doc.says("A SLOT (0 .. 3) has a row of n numbers of a WIDTH, all 0 (in place of another one): 0.");
        LockRail x = Due.rail(SIX);
        for (int slot = 0; slot < 4; slot++) {
            for (int width = 0; width < 4; width++) {
                for (int n : new int[] {0, 1, 60}) {
                    doc.is("row(" + slot + ", " + width + ", " + n + ")", 0, x.row(slot, width, n));
                    doc.is("no number behind the last", -7, x.write(slot, n, 1));
                    doc.is("none came", 0, x.told(slot));
                    if (n > 0) doc.is("the last one", 0, x.write(slot, n - 1, 1));
                }
            }
            doc.is("a row of all 1", 0, x.row(slot, 0, 2));
            x.write(slot, 0, 1);
            x.write(slot, 1, 1);
            doc.is("told", 2, x.told(slot));
            doc.is("in place of it", 0, x.row(slot, 0, 2));
            doc.is("all 0", 0, x.told(slot));
            x.write(slot, 0, 1);
            x.write(slot, 1, 1);
            x.row(slot, 0, 1);
            x.row(slot, 0, 2);
            doc.is("all 0, shorter and longer again", 0, x.told(slot));
            doc.is("count(12)", slot + 1, x.count(12));
        }
        doc.says("-2: there is no such SLOT or WIDTH (0 .. 3), or n is above 60;");
        LockRail y = Due.rail(SIX);
        y.row(0, 0, 2);
        y.write(0, 1, 5);
        doc.is("slot 4", -2, y.row(4, 0, 1));
        doc.is("width 4", -2, y.row(0, 4, 1));
        doc.is("n of 61", -2, y.row(0, 0, 61));
        doc.is("n of 2,147,483,647", -2, y.row(0, 0, Integer.MAX_VALUE));
        for (int far : FAR) {
            doc.is("slot " + far, -2, y.row(far, 0, 1));
            doc.is("slot " + far + ", n below 0", -2, y.row(far, 0, -1));
            doc.is("width " + far, -2, y.row(0, far, 1));
            doc.is("width " + far + ", n below 0", -2, y.row(0, far, -1));
        }
        doc.is("the row stays", 2, y.told(0));
        doc.is("no other row", 1, y.count(12));
        doc.says("-3, and the SLOT stays: n is below 0.");
        doc.is("n of -1", -3, y.row(0, 3, -1));
        doc.is("n of -2,147,483,648", -3, y.row(0, 3, Integer.MIN_VALUE));
        doc.is("the row stays", 2, y.told(0));
        doc.is("its width stays", -8, withRow(y, 1, 3, 2).paste(0, 0, 1, 0, 1));
        doc.is("n of -1, with nothing there", -3, y.row(2, 0, -1));
        doc.is("nothing there still", -6, y.write(2, 0, 1));
    }

    private static LockRail withRow(LockRail x, int slot, int width, int n) {
        x.row(slot, width, n);
        return x;
    }

    private static void write() {
        doc.of("59");
        doc.says("Number i of the SLOT's row is v, cut to its WIDTH: 0.");
        long[] above = {1L << 8, 1L << 16, 1L << 32, 0};
        for (int slot = 0; slot < 4; slot++) {
            for (int width = 0; width < 4; width++) {
                LockRail x = withRow(Due.rail(SIX), slot, width, 3);
                doc.is("write(" + slot + ", 0)", 0, x.write(slot, 0, 63));
                doc.is("write(" + slot + ", 2)", 0, x.write(slot, 2, above[width] + 5));
                doc.is("the first", 63, number(x, slot, width, 0));
                doc.is("the second is still 0", 0, number(x, slot, width, 1));
                doc.is("the last, cut", 5, number(x, slot, width, 2));
                x.write(slot, 2, 5 - above[width]);
                doc.is("cut from below 0", 5, number(x, slot, width, 2));
                x.write(slot, 2, Long.MIN_VALUE);
                doc.is("the least there is", width == 3 ? -2 : 0, number(x, slot, width, 2));
                x.write(slot, 2, 1L << (8 << width) - 1);
                doc.is("its highest bit is not cut", -2, number(x, slot, width, 2));
                x.write(slot, 2, 9);
                doc.is("in place of what it was", 9, number(x, slot, width, 2));
            }
        }
        doc.says("-2: there is no such SLOT;");
        LockRail x = withRow(Due.rail(SIX), 1, 1, 2);
        doc.is("slot 4", -2, x.write(4, 0, 1));
        for (int far : FAR) {
            doc.is("slot " + far, -2, x.write(far, 0, 1));
            doc.is("slot " + far + ", number -1", -2, x.write(far, -1, 1));
        }
        doc.says("-6: it has nothing;");
        for (int slot : new int[] {0, 2, 3}) {
            doc.is("slot " + slot, -6, x.write(slot, 0, 1));
            doc.is("slot " + slot + ", number -1", -6, x.write(slot, -1, 1));
        }
        doc.says("-7: there is no such number.");
        doc.is("behind the last", -7, x.write(1, 2, 1));
        for (int far : FAR) doc.is("number " + far, -7, x.write(1, far, 1));
        doc.is("of none", -7, withRow(x, 0, 0, 0).write(0, 0, 1));
        doc.is("behind sixty", -7, withRow(x, 3, 0, 60).write(3, 60, 1));
        doc.is("nothing was written", 0, x.told(1) + x.told(3));
    }

    private static LockRail counted(int slot, int width, int n) {
        LockRail x = withRow(Due.rail(SIX), slot, width, n);
        for (int i = 0; i < n; i++) x.write(slot, i, i + 1);
        return x;
    }

    private static void numbers(LockRail x, int slot, int width, int... due) {
        for (int i = 0; i < due.length; i++) doc.is("number " + i + " of slot " + slot, due[i], number(x, slot, width, i));
    }

    private static void paste() {
        doc.of("60");
        doc.says("So many numbers of a SLOT's row, from one on, are put to another one's (or its own), from one on, as they were: 0.");
        for (int width = 0; width < 4; width++) {
            LockRail x = withRow(counted(0, width, 6), 1, width, 4);
            doc.is("to another's", 0, x.paste(0, 3, 1, 0, 3));
            numbers(x, 1, width, 4, 5, 6, 0);
            doc.is("its end to its end", 0, x.paste(0, 5, 1, 3, 1));
            numbers(x, 1, width, 4, 5, 6, 6);
            numbers(x, 0, width, 1, 2, 3, 4, 5, 6);
            doc.is("all of it", 0, x.paste(1, 0, 0, 2, 4));
            numbers(x, 0, width, 1, 2, 4, 5, 6, 6);
            LockRail up = counted(0, width, 6);
            doc.is("to its own, onwards", 0, up.paste(0, 0, 0, 1, 5));
            numbers(up, 0, width, 1, 1, 2, 3, 4, 5);
            LockRail down = counted(0, width, 6);
            doc.is("to its own, backwards", 0, down.paste(0, 1, 0, 0, 5));
            numbers(down, 0, width, 2, 3, 4, 5, 6, 6);
            LockRail same = counted(0, width, 6);
            doc.is("to where they are", 0, same.paste(0, 0, 0, 0, 6));
            numbers(same, 0, width, 1, 2, 3, 4, 5, 6);
            doc.is("none of them", 0, same.paste(0, 0, 0, 3, 0));
            doc.is("none of them, from its end to its end", 0, same.paste(0, 6, 0, 6, 0));
            numbers(same, 0, width, 1, 2, 3, 4, 5, 6);
        }
        LockRail sixty = withRow(counted(0, 0, 60), 1, 0, 60);
        doc.is("sixty", 0, sixty.paste(0, 0, 1, 0, 60));
        doc.is("the last of sixty", 60, number(sixty, 1, 0, 59));
        LockRail empty = withRow(withRow(new LockRail(), 0, 2, 0), 1, 2, 0);
        doc.is("none of none", 0, empty.paste(0, 0, 1, 0, 0));

        LockRail x = withRow(withRow(counted(0, 1, 6), 1, 1, 4), 2, 2, 4);
        doc.says("-2: there is no such SLOT;");
        doc.is("from 4", -2, x.paste(4, 0, 0, 0, 1));
        doc.is("to 4", -2, x.paste(0, 0, 4, 0, 1));
        for (int far : FAR) {
            doc.is("from " + far, -2, x.paste(far, 0, 0, 0, 1));
            doc.is("to " + far, -2, x.paste(0, 0, far, 0, 1));
            doc.is("from one that has nothing to " + far, -2, x.paste(3, 0, far, 0, 1));
            doc.is("to one that has nothing from " + far, -2, x.paste(far, -1, 3, -1, -1));
        }
        doc.says("-6: one has nothing;");
        doc.is("the one", -6, x.paste(3, 0, 0, 0, 1));
        doc.is("the other", -6, x.paste(0, 0, 3, 0, 1));
        doc.is("both", -6, x.paste(3, 0, 3, 0, 1));
        doc.is("the other, of none and below 0", -6, x.paste(0, -1, 3, -1, -1));
        doc.says("-8: they are not of one WIDTH;");
        doc.is("from 2 bytes to 4", -8, x.paste(0, 0, 2, 0, 1));
        doc.is("from 4 bytes to 2", -8, x.paste(2, 0, 0, 0, 1));
        doc.is("none of them", -8, x.paste(0, 0, 2, 0, 0));
        doc.is("beyond their rows and below 0", -8, x.paste(0, -1, 2, 99, -1));
        doc.says("-7, and nothing happens: some are beyond their rows, or a place or n is below 0.");
        doc.is("beyond the one", -7, x.paste(0, 4, 1, 0, 3));
        doc.is("beyond the other", -7, x.paste(0, 0, 1, 2, 3));
        doc.is("beyond its own", -7, x.paste(0, 0, 0, 1, 6));
        doc.is("from behind the end", -7, x.paste(0, 6, 1, 0, 1));
        doc.is("to behind the end", -7, x.paste(0, 0, 1, 4, 1));
        doc.is("from below 0", -7, x.paste(0, -1, 1, 0, 1));
        doc.is("to below 0", -7, x.paste(0, 0, 1, -1, 1));
        doc.is("n below 0", -7, x.paste(0, 1, 1, 1, -1));
        for (int far : new int[] {61, Integer.MAX_VALUE, Integer.MIN_VALUE}) {
            doc.is("from " + far, -7, x.paste(0, far, 1, 0, 1));
            doc.is("to " + far, -7, x.paste(0, 0, 1, far, 1));
            doc.is("n " + far, -7, x.paste(0, 0, 1, 0, far));
            doc.is("n " + far + " from 1 on, which would wrap round", -7, x.paste(0, 1, 1, 1, far));
            doc.is("from " + far + " so many", -7, x.paste(0, far, 1, 0, far));
        }
        numbers(x, 1, 1, 0, 0, 0, 0);
        numbers(x, 0, 1, 1, 2, 3, 4, 5, 6);
    }
}
