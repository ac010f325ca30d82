/** Term V and promises 32 to 44, sentence by sentence: places, lamps, a watchman, marks, baits. */
public final class PlaceSentencesTest {
    private static final Sentences doc = new Sentences();
    private static final long WHOLE = 1_000_000_000_000L;
    private static final long NOTHING = -1_000_000_000_000L;
    private static final int[] FAR = {-1, -2, 31, 32, Integer.MAX_VALUE, Integer.MIN_VALUE};
    private static final String ONLY_RAIL = "rail places 1 nights 1;";
    /** One who takes the best, a BIKE of NET 60 at PLACE 0, and room for a BAIT at 1 and 2. */
    private static final String BAITED = "rail places 3 nights 2;bike worth 100 seems 60 at 0;thief tool 0 comes 100 fears 0 best;";
    /** At PLACE 4 the LOCK's TROUBLE is 100, elsewhere 50, and the BIKE seems 60. */
    private static final String CORNER = "rail places 5 nights 10;lamp at 4 bright 1;lock price 0 cuts 100 100 100;"
        + "bike worth 100 seems 60 at 2 lock 0;%sthief tool 0 comes 50 fears 50 any;";

    public static void main(String[] args) {
        baitTerm();
        baitParts();
        move();
        swap();
        where();
        lamps();
        watch();
        penny();
        enough();
        marks();
        hides();
        bait();
        caught();
        lures();
        doc.close();
    }

    private static void baitTerm() {
        doc.of("V");
        doc.says("BAIT: beside all BIKES it stands on a PLACE, never locked, never marked, a BIKE behind all others to those who choose");
        LockRail best = Due.rail(BAITED);
        doc.is("best: of more NET", 0, best.bait(1, 61, 0));
        doc.is("best: of as much, the BIKE is ahead", 200_000, best.bait(1, 60, 0));
        doc.is("best: of nothing", 200_000, best.bait(1, 0, 0));
        doc.is("at another place", 0, best.bait(2, 61, 0));
        String any = "rail places 3 nights 2;lamp at 2 bright 99;lock price 1 cuts 1 1 1;bike worth 100 seems 60 at 0%s;thief tool 0 comes 100 fears 99 any;";
        doc.is("any: as little TROUBLE, the BIKE is ahead", 200_000, Due.rail(String.format(any, "")).bait(2, 9999, 0));
        LockRail locked = Due.rail(String.format(any, " lock 0").replace("at 2 bright 99", "at 0 bright 1"));
        doc.is("any: the BIKE's TROUBLE", 1, locked.trouble(0, 0));
        doc.is("any: less TROUBLE, however little it seems", 0, locked.bait(1, 1, 0));
        doc.is("any: seems nothing, so it is not wanted", 200_000, locked.bait(1, 0, 0));
        String just = BAITED.replace("best", "just 0");
        doc.is("just does not choose", 200_000, Due.rail(just).bait(1, 9999, 100));
        doc.is("just, with his own unwanted", 0, Due.rail(just.replace("seems 60", "seems 0")).caught(0, 1, 9999, 100));
        LockRail marked = Due.rail(BAITED + "mark price 1 known 99;");
        marked.option(0, 1);
        doc.is("never marked: the BIKE's GAIN is cut to 0, its 1 is not", 0, marked.bait(1, 1, 0));
        // The second takes the BIKE, as the BAIT is gone.
        doc.is("beside all BIKES", 200_000, Due.rail(BAITED + "thief tool 0 comes 100 fears 0 best;").bait(1, 61, 0));

        doc.says("(hidden marks do not count it, nor lessen it),");
        String hidden = "rail places 2 nights 1;mark price 1 known 50 hidden;bike worth 5 seems 10 at 0 marked;thief tool 0 comes 100 fears 0 best;";
        LockRail h = Due.rail(hidden);
        doc.is("the BIKE's GAIN is 5, not 7 as of two: 6 is more", 0, h.bait(1, 6, 0));
        doc.is("6 is more", WHOLE, h.caught(0, 1, 6, 100));
        doc.is("5 is as much, and behind", 5_000, h.bait(1, 5, 0));
        doc.is("5 is as much, and behind", 0, h.caught(0, 1, 5, 100));
        LockRail all = Due.rail(hidden.replace("known 50", "known 100"));
        doc.is("all is known of all BIKES, and 1 is 1", WHOLE, all.caught(0, 1, 1, 100));

        doc.says("of no worth.");
        doc.is("whatever it seems", 0, best.bait(1, 9999, 0));
        doc.is("without BIKES", 0, Due.rail("rail places 1 nights 60;thief tool 0 comes 100 fears 0 best;").bait(0, 9999, 0));
    }

    private static void baitParts() {
        doc.says("Who takes it is caught by caught in the hundred (cut; it is gone that NIGHT all the same), and comes no more in any later NIGHT.");
        LockRail one = Due.rail(BAITED.replace("nights 2", "nights 7"));
        doc.is("99 in the hundred seven times, what is caught cut", 67_934_652_093L, one.caught(0, 1, 61, 1));
        doc.is("half, a quarter, ..", WHOLE - WHOLE / 128, one.caught(0, 1, 61, 50));
        LockRail rare = Due.rail(BAITED.replace("nights 2", "nights 4").replace("comes 100", "comes 1"));
        doc.is("1 in the hundred of 1 in the hundred, both cut", 399_940_003L, rare.caught(0, 1, 61, 1));
        // First NIGHT: one takes the BAIT, the other the BIKE. Second: the other takes the BAIT. Then none comes.
        for (int nights = 1; nights <= 4; nights++) {
            LockRail two = Due.rail(BAITED.replace("nights 2", "nights " + nights) + "thief tool 0 comes 100 fears 0 best;");
            doc.is("all caught, " + nights + " nights", 100_000, two.bait(1, 61, 100));
            doc.is("none caught, " + nights + " nights", 100_000 * nights, two.bait(1, 61, 0));
            doc.is("the first", WHOLE, two.caught(0, 1, 61, 100));
            doc.is("the second", nights == 1 ? 0 : WHOLE, two.caught(1, 1, 61, 100));
        }

        doc.says("It stands there again each NIGHT.");
        LockRail sixty = Due.rail(BAITED.replace("nights 2", "nights 60"));
        doc.is("sixty nights, none caught", 0, sixty.bait(1, 61, 0));
        LockRail second = Due.rail("rail places 2 nights 2;bike worth 100 seems 60 at 0;" + "thief tool 0 comes 50 fears 0 best;");
        doc.is("caught in the one or the other", 750_000_000_000L, second.caught(0, 1, 61, 100));

        doc.says("(PARTS by SETS that are gone and THIEVES that are caught; those alike together behind each THIEF, and behind each NIGHT.)");
        String three = "rail places 3 nights 4;bike worth 1 seems 60 at 0;thief tool 0 comes 33 fears 0 best;thief tool 0 comes 47 fears 0 best;"
            + "thief tool 0 comes 13 fears 0 best;";
        LockRail x = Due.rail(three);
        doc.is("the first never takes it", 0, x.caught(0, 1, 59, 29));
        doc.is("the second", 168_137_234_312L, x.caught(1, 1, 59, 29));
        doc.is("the third; ..250 if those alike were not together behind each THIEF", 70_315_672_252L, x.caught(2, 1, 59, 29));
        LockRail five = Due.rail(three.replace("nights 4", "nights 5"));
        doc.is("five nights, the second", 205_553_589_648L, five.caught(1, 1, 59, 29));
        doc.is("five nights, the third; ..028 if not together", 86_516_902_031L, five.caught(2, 1, 59, 29));
        LockRail alone = Due.rail("rail places 3 nights 8;bike worth 1 seems 60 at 0;thief tool 0 comes 33 fears 0 best;");
        doc.is("alone; ..542 if those alike were not together behind each NIGHT", 602_431_882_545L, alone.caught(0, 1, 61, 33));

        doc.says("LOSS: of all NIGHTS PARTS times worth of what is gone, all together, by 10 to the 9, cut.");
        doc.is("2,687,283,401,158 PARTS", 2_687, x.bait(1, 59, 29));
        doc.is("3,328,716,871,037 PARTS", 3_328, five.bait(1, 59, 29));
        StringBuilder six = new StringBuilder("rail places 20 nights 1;");
        for (int i = 0; i < 10; i++) six.append("bike worth 1 seems 1 at ").append(i).append(';');
        LockRail s = Due.rail(six + "thief tool 0 comes 1 fears 0 any;".repeat(6));
        doc.is("each cut", 59, s.all(1));
        doc.is("all together", 60, s.bait(10, 0, 100));
        LockRail most = Due.rail(six.toString().replace("nights 1;", "nights 60;").replace("worth 1 ", "worth 9999 ") + "thief tool 0 comes 100 fears 0 any;".repeat(6));
        doc.is("the most there is", 3_599_640_000L, most.bait(19, 9999, 100));
        doc.is("999,999,999,999 PARTS", 999, Due.rail("rail places 2 nights 1;bike worth 1 seems 1 at 0;" + "thief tool 0 comes 99 fears 0 just 0;".repeat(6))
            .bait(1, 0, 100));
    }

    private static void move() {
        doc.of("32");
        doc.says("A BIKE is put on a PLACE where none stands (or its own): where it was.");
        LockRail x = Due.rail("rail places 20 nights 1;lamp at 19 bright 9;lock price 1 cuts 100 100 100;bike worth 1 seems 1 at 0 lock 0 marked;"
            + "bike worth 1 seems 1 at 5;thief tool 0 comes 1 fears 1 any;");
        doc.is("move(0, 19)", 0, x.move(0, 19));
        doc.is("there", 19, x.bike(0, 2));
        doc.is("its trouble there", 10, x.trouble(0, 0));
        doc.is("its own", 19, x.move(0, 19));
        doc.is("still there", 19, x.bike(0, 2));
        doc.is("its lock stays", 0, x.bike(0, 3));
        doc.is("its mark stays", 1, x.bike(0, 4));
        doc.is("where one stood", 5, x.move(1, 0));
        doc.is("and another then", 19, x.move(0, 5));
        doc.is("the other stays", 0, x.bike(1, 2));
        doc.says("-2: there are none such;");
        doc.refused("a PLACE too many", -2, x, y -> y.move(0, 20));
        doc.refused("a BIKE too many", -2, x, y -> y.move(2, 1));
        doc.refused("a BIKE too many, where one stands", -2, x, y -> y.move(2, 0));
        for (int far : FAR) {
            doc.refused("bike " + far, -2, x, y -> y.move(far, 1));
            doc.refused("place " + far, -2, x, y -> y.move(0, far));
        }
        doc.is("no BIKE", -2, Due.rail(ONLY_RAIL).move(0, 0));
        doc.is("no RAIL", -2, new LockRail().move(0, 0));
        doc.says("-5: another one stands there.");
        doc.refused("the other's", -5, x, y -> y.move(0, 0));
        doc.refused("the one's", -5, x, y -> y.move(1, 5));
    }

    private static void swap() {
        doc.of("33");
        doc.says("Two BIKES change their PLACES: 1 if LOSS of all is less then, else 0.");
        // The BIKE at PLACE 4 is not taken: 500,000 is lost of the one, or 50,000 of the other.
        LockRail x = Due.rail(String.format(CORNER, "bike worth 10 seems 60 at 4 lock 0;"));
        doc.is("all(1)", 500_000, x.all(1));
        doc.is("less", 1, x.swap(0, 1));
        doc.is("all(1) then", 50_000, x.all(1));
        doc.is("the one", 4, x.bike(0, 2));
        doc.is("the other", 2, x.bike(1, 2));
        doc.is("more", 0, x.swap(0, 1));
        doc.is("less, turned round", 1, x.swap(1, 0));
        doc.is("the one", 4, x.bike(0, 2));
        LockRail alike = Due.rail(String.format(CORNER, "bike worth 100 seems 60 at 4 lock 0;"));
        doc.is("as much", 0, alike.swap(0, 1));
        doc.is("changed all the same", 4, alike.bike(0, 2));
        doc.is("changed all the same", 2, alike.bike(1, 2));
        doc.answersByWhatIsThere("swap(0, 1)", y -> y.swap(0, 1) + 10 * y.all(2));
        doc.answersByWhatIsThere("swap(2, 1)", y -> y.swap(2, 1) + 10 * y.all(2));
        doc.says("-2: there are none such, one twice.");
        for (int b = 0; b < 2; b++) {
            int one = b;
            doc.refused("one twice", -2, x, y -> y.swap(one, one));
            doc.refused("one behind the last", -2, x, y -> y.swap(2, one));
            doc.refused("other behind the last", -2, x, y -> y.swap(one, 2));
        }
        for (int far : FAR) {
            doc.refused("one " + far, -2, x, y -> y.swap(far, 0));
            doc.refused("other " + far, -2, x, y -> y.swap(0, far));
        }
        doc.is("no RAIL", -2, new LockRail().swap(0, 1));
    }

    private static void where() {
        doc.of("34");
        doc.says("The PLACE (its own, or one where none stands) by which COST of a BIKE is least, the first of several.");
        doc.is("the last", 4, Due.rail(String.format(CORNER, "")).where(0));
        LockRail full = Due.rail(String.format(CORNER, "bike worth 10 seems 0 at 4;"));
        doc.is("where another stands it can't", 0, full.where(0));
        LockRail first = Due.rail(String.format(CORNER, "bike worth 10 seems 0 at 4;bike worth 10 seems 0 at 0;"));
        doc.is("the first where none stands", 1, first.where(0));
        LockRail own = Due.rail(String.format(CORNER, "bike worth 10 seems 0 at 4;bike worth 10 seems 0 at 0;bike worth 10 seems 0 at 1;"));
        doc.is("its own, ahead of another just as good", 2, own.where(0));
        LockRail stands = Due.rail(String.format(CORNER.replace("at 2 lock", "at 4 lock"), ""));
        doc.is("its own, the best", 4, stands.where(0));
        LockRail none = Due.rail("rail places 1 nights 1;bike worth 1 seems 1 at 0;");
        doc.is("the only one", 0, none.where(0));
        // Behind the last PLACE it would be brighter than on those that are free.
        LockRail beyond = Due.rail("rail places 4 nights 1;lamp at 3 bright 3;lock price 0 cuts 100 100 100;bike worth 9 seems 120 at 0 lock 0;"
            + "bike worth 9 seems 0 at 2;bike worth 9 seems 0 at 3;thief tool 0 comes 100 fears 50 any;");
        doc.is("none behind the last", 0, beyond.where(0));
        LockRail unlocked = Due.rail(String.format(CORNER, ""));
        unlocked.option(0, 0);
        doc.is("as it is now, without a LOCK", 0, unlocked.where(0));
        LockRail moved = Due.rail(String.format(CORNER, "bike worth 10 seems 0 at 4;"));
        moved.move(1, 0);
        doc.is("as the other stands now", 4, moved.where(0));
        for (int bike = 0; bike < 3; bike++) {
            int one = bike;
            doc.asks("where(" + bike + ")", y -> y.where(one));
        }
        doc.says("-2: there is no such BIKE.");
        doc.is("behind the last", -2, none.where(1));
        for (int far : FAR) doc.is("where(" + far + ")", -2, none.where(far));
        doc.is("no BIKE", -2, Due.rail(ONLY_RAIL).where(0));
        doc.is("no RAIL", -2, new LockRail().where(0));
    }

    private static void lamps() {
        // Each of two THIEVES takes his own; 1 more LIGHT keeps him away from it. LOSS is 100,000 and 300,000.
        String two = "rail places 4 nights 1;lock price 1 cuts 100 1 1;bike worth 100 seems 60 at 0 lock 0;bike worth 300 seems 60 at 3 lock 0;"
            + "thief tool 0 comes 100 fears 50 just 0;thief tool 0 comes 100 fears 50 just 1;";
        LockRail x = Due.rail(two);
        doc.of("35");
        doc.says("The PLACE at which one more LAMP of a brightness (0 .. 99) makes LOSS of all least, the first of several.");
        doc.is("lamp(0) does nothing anywhere", 0, x.lamp(0));
        doc.is("lamp(1), at the dearer one", 3, x.lamp(1));
        doc.is("lamp(2), near the dearer one", 2, x.lamp(2));
        doc.is("lamp(3), between both", 1, x.lamp(3));
        doc.is("lamp(4), anywhere", 0, x.lamp(4));
        doc.is("lamp(99), anywhere", 0, x.lamp(99));
        doc.is("beside four", 3, Due.rail(two + "lamp at 0 bright 0;".repeat(4)).lamp(1));
        doc.is("beside one that does it already", 3, Due.rail(two + "lamp at 0 bright 1;").lamp(1));
        doc.is("beside one that does it already at the other", 0, Due.rail(two + "lamp at 3 bright 1;").lamp(1));
        doc.is("no BIKES", 0, Due.rail("rail places 20 nights 1;").lamp(5));
        // Any LIGHT on BIKE 0 turns the THIEF to the dear one; behind the last PLACE a LAMP would throw none on it.
        doc.is("none behind the last", 0, Due.rail("rail places 2 nights 1;lock price 1 cuts 100 1 1;lock price 1 cuts 20 1 1;bike worth 1 seems 90 at 0 lock 0;"
            + "bike worth 9 seems 35 at 1 lock 1;thief tool 0 comes 100 fears 50 best;").lamp(2));
        for (int bright : new int[] {0, 1, 3, 50, 99}) doc.asks("lamp(" + bright + ")", y -> y.lamp(bright));
        doc.says("-2: there is no such number, no RAIL.");
        doc.is("lamp(100)", -2, x.lamp(100));
        for (int far : new int[] {-1, -2, 101, Integer.MAX_VALUE, Integer.MIN_VALUE}) doc.is("lamp(" + far + ")", -2, x.lamp(far));
        doc.is("no RAIL", -2, new LockRail().lamp(0));

        doc.of("36");
        doc.says("LOSS of all, if such a LAMP stood on a PLACE.");
        long[][] lit = {{400, 400, 400, 400}, {300, 400, 400, 100}, {300, 300, 100, 100}, {300, 0, 0, 100}, {0, 0, 0, 0}};
        for (int bright = 0; bright < 5; bright++) {
            for (int p = 0; p < 4; p++) doc.is("lit(" + p + ", " + bright + ")", 1000 * lit[bright][p], x.lit(p, bright));
        }
        doc.is("lit(3, 99)", 0, x.lit(3, 99));
        doc.is("beside four", 100_000, Due.rail(two + "lamp at 0 bright 0;".repeat(4)).lit(3, 1));
        doc.is("no BIKES", 0, Due.rail(ONLY_RAIL).lit(0, 0));
        for (int p = 0; p < 5; p++) {
            int place = p;
            for (int bright : new int[] {0, 3, 99}) doc.asks("lit(" + p + ", " + bright + ")", y -> y.lit(place, bright));
        }
        doc.says("-2: there are none such.");
        doc.is("a PLACE too many", -2, x.lit(4, 1));
        doc.is("lit(0, 100)", -2, x.lit(0, 100));
        for (int far : FAR) doc.is("place " + far, -2, x.lit(far, 1));
        for (int far : new int[] {-1, -2, 101, Integer.MAX_VALUE, Integer.MIN_VALUE}) doc.is("bright " + far, -2, x.lit(0, far));
        doc.is("no RAIL", -2, new LockRail().lit(0, 0));
    }

    private static void watch() {
        doc.of("37");
        doc.says("A watchman stands there from now on, or not: 1 if one did, else 0.");
        LockRail x = Due.rail("rail places 2 nights 3;watch wage 4 adds 5;bike worth 1 seems 1 at 0;");
        doc.is("none did", 0, x.watch(false));
        doc.is("none did", 0, x.watch(true));
        doc.is("light(1)", 5, x.light(1));
        doc.is("cost(0, 2)", 12_000, x.cost(0, 2));
        doc.is("count(9)", 1, x.count(9));
        doc.is("one did", 1, x.watch(true));
        doc.is("count(9) still", 1, x.count(9));
        doc.is("one did", 1, x.watch(false));
        doc.is("none does now", 0, x.count(9));
        doc.is("light(1)", 0, x.light(1));
        doc.is("none did", 0, x.watch(false));
        doc.says("-2: no watch was told.");
        LockRail without = Due.rail("rail places 2 nights 3;bike worth 1 seems 1 at 0;");
        doc.refused("watch(true)", -2, without, y -> y.watch(true));
        doc.refused("watch(false)", -2, without, y -> y.watch(false));
        doc.is("no RAIL", -2, new LockRail().watch(true));
        Due.feed(x, ONLY_RAIL);
        x.rail();
        doc.is("it was told by another text", -2, x.watch(true));
    }

    /** The watchman's LIGHT keeps each of three THIEVES from his own: 100,000, 300,000 and 200,000 less. */
    private static String kept(int wage) {
        return "rail places 3 nights 2;lock price 1 cuts 100 1 1;bike worth 50 seems 60 at 0 lock 0;bike worth 150 seems 60 at 1 lock 0;"
            + "bike worth 100 seems 60 at 2 lock 0;thief tool 0 comes 100 fears 50 just 0;thief tool 0 comes 100 fears 50 just 1;"
            + "thief tool 0 comes 100 fears 50 just 2;watch wage " + wage + " adds 1;";
    }

    /** The watchman's LIGHT turns the THIEF from BIKE 0, which has a LOCK, to the other: 500,000 less of the one, 500,000 more of the other. */
    private static String turned(int wage) {
        return "rail places 2 nights 10;lock price 1 cuts 100 1 1;bike worth 100 seems 60 at 0 lock 0;bike worth 100 seems 9 at 1;"
            + "thief tool 0 comes 50 fears 50 best;watch wage " + wage + " adds 1;";
    }

    private static void penny() {
        doc.of("38");
        doc.says("PENNY: how much less LOSS of all is with a watchman than without, less his wages.");
        doc.is("for nothing", 600_000, Due.rail(kept(0)).penny());
        doc.is("for some", 200_000, Due.rail(kept(200)).penny());
        doc.is("for just as much", 0, Due.rail(kept(300)).penny());
        doc.is("for more", -2_000, Due.rail(kept(301)).penny());
        doc.is("for the most", 600_000 - 1_998_000, Due.rail(kept(999)).penny());
        doc.is("of one and the other", -10_000, Due.rail(turned(1)).penny());
        doc.is("wages are not by BIKES, and not cut", -7_000, Due.rail("rail places 3 nights 1;bike worth 1 seems 1 at 0;bike worth 1 seems 1 at 1;"
            + "bike worth 1 seems 1 at 2;watch wage 7 adds 1;").penny());
        doc.is("no BIKES", -6_000, Due.rail("rail places 1 nights 2;watch wage 3 adds 1;").penny());
        LockRail there = Due.rail(kept(200));
        there.watch(true);
        doc.is("with him there", 200_000, there.penny());
        doc.asks("penny()", LockRail::penny);
        doc.says("NOTHING: no watch was told.");
        doc.is("penny()", NOTHING, Due.rail(BAITED).penny());
        doc.is("no RAIL", NOTHING, new LockRail().penny());
    }

    private static void enough() {
        doc.of("39");
        doc.says("ENOUGH: the fewest BIKES whose LOSSES are, together, as much less with a watchman as his wages are (those first by which it is most);");
        int[][] due = {{0, 0}, {1, 1}, {50, 1}, {149, 1}, {150, 1}, {151, 2}, {249, 2}, {250, 2}, {251, 3}, {300, 3}};
        for (int[] d : due) doc.is("a wage of " + d[0], d[1], Due.rail(kept(d[0])).enough());
        String[] orders = {"50 100 150", "150 100 50", "100 50 150", "100 150 50", "50 150 100", "150 50 100"};
        for (String order : orders) {
            String[] worths = order.split(" ");
            String text = kept(200).replace("worth 50 ", "worth " + worths[0] + " ").replaceFirst("worth \\d+ seems 60 at 1", "worth " + worths[1] + " seems 60 at 1")
                .replaceFirst("worth \\d+ seems 60 at 2", "worth " + worths[2] + " seems 60 at 2");
            doc.is("the most first, of " + order, 2, Due.rail(text).enough());
            doc.is("the most first, of " + order, 1, Due.rail(text.replace("wage 200", "wage 150")).enough());
            doc.is("the most first, of " + order, 3, Due.rail(text.replace("wage 200", "wage 251")).enough());
        }
        doc.is("one is enough, though another has more", 1, Due.rail(turned(50)).enough());
        String thousand = "rail places 1 nights 1;lock price 1 cuts 100 1 1;bike worth 1 seems 60 at 0 lock 0;watch wage 1 adds 1;thief tool 0 comes 90 fears 50 just 0;"
            + "thief tool 0 comes %d fears 50 just 0;";
        doc.is("1,000 is as much as 1,000", 1, Due.rail(String.format(thousand, 100)).enough());
        doc.is("999 is not", -1, Due.rail(String.format(thousand, 99)).enough());
        LockRail there = Due.rail(kept(200));
        there.watch(true);
        doc.is("with him there", 2, there.enough());
        doc.is("no BIKES, for nothing", 0, Due.rail("rail places 1 nights 2;watch wage 0 adds 1;").enough());
        doc.asks("enough()", LockRail::enough);
        doc.says("NONE: all do not do.");
        doc.is("a wage of 301", -1, Due.rail(kept(301)).enough());
        doc.is("a wage of 999", -1, Due.rail(kept(999)).enough());
        doc.is("of one and the other", -1, Due.rail(turned(51)).enough());
        doc.is("no help at all", -1, Due.rail(BAITED + "watch wage 1 adds 99;").enough());
        doc.is("no BIKES", -1, Due.rail("rail places 1 nights 2;watch wage 1 adds 1;").enough());
        doc.says("-2: no watch was told.");
        doc.is("enough()", -2, Due.rail(BAITED).enough());
        doc.is("no RAIL", -2, new LockRail().enough());
    }

    private static String marked(int bikes, int seems, String mark, String thief) {
        StringBuilder s = new StringBuilder("rail places 20 nights 1;");
        for (int i = 0; i < bikes; i++) s.append("bike worth 1 seems ").append(seems).append(" at ").append(i).append(';');
        return s + mark + thief;
    }

    private static void marks() {
        String any = "thief tool 0 comes 100 fears 0 any;";
        doc.of("40");
        doc.says("The least k by which no THIEF wants any, if the first k BIKES are marked and no others;");
        doc.is("all ten", 10, Due.rail(marked(10, 9, "mark price 1 known 100;", any)).marks());
        doc.is("none is wanted anyway", 0, Due.rail(marked(10, 0, "mark price 1 known 100;", any)).marks());
        doc.is("no THIEF", 0, Due.rail(marked(10, 9, "mark price 1 known 100;", "")).marks());
        doc.is("no BIKE", 0, Due.rail(marked(0, 9, "mark price 1 known 100;", any)).marks());
        for (int seems = 1; seems <= 10; seems++) {
            // seems times (10 less k) by 10 is below 1
            int due = 0;
            while (seems * (10 - due) >= 10) due++;
            doc.is("hidden, seems " + seems, due, Due.rail(marked(10, seems, "mark price 1 known 100 hidden;", any)).marks());
        }
        LockRail some = Due.rail("rail places 4 nights 1;bike worth 1 seems 9 at 0;bike worth 1 seems 9 at 1;bike worth 1 seems 0 at 2;bike worth 1 seems 0 at 3;"
            + "mark price 1 known 100;thief tool 0 comes 0 fears 0 best;" + any);
        doc.is("the first two", 2, some.marks());
        some.option(0, 1);
        doc.is("those that are marked count by the first k alone", 2, some.marks());
        LockRail second = Due.rail("rail places 2 nights 1;bike worth 1 seems 0 at 0;bike worth 1 seems 9 at 1 marked;mark price 1 known 100;" + any);
        doc.is("the second is marked only behind the first", 2, second.marks());
        doc.is("of several THIEVES none", 1, Due.rail("rail places 1 nights 1;bike worth 1 seems 9 at 0;mark price 1 known 95;"
            + "thief tool 0 comes 1 fears 0 best;thief tool 0 comes 1 fears 99 any;").marks());
        doc.is("one who takes just the other", 2, Due.rail(marked(2, 9, "mark price 1 known 100;", "thief tool 0 comes 1 fears 0 just 0;")).marks());
        LockRail locked = Due.rail("rail places 1 nights 1;lock price 1 cuts 100 1 1;bike worth 1 seems 9 at 0;mark price 1 known 100;thief tool 0 comes 1 fears 99 any;");
        locked.option(0, 2);
        doc.is("as it is locked now", 0, locked.marks());
        doc.asks("marks()", LockRail::marks);
        doc.says("NONE: by none.");
        doc.is("known too little", -1, Due.rail(marked(10, 9, "mark price 1 known 88;", any)).marks());
        doc.is("known enough", 10, Due.rail(marked(10, 9, "mark price 1 known 89;", any)).marks());
        doc.is("no mark told", -1, Due.rail(marked(1, 1, "", any)).marks());
        doc.is("wanted by one of two", -1, Due.rail("rail places 1 nights 1;lock price 1 cuts 100 1 1;bike worth 1 seems 9 at 0 lock 0;"
            + "thief tool 0 comes 1 fears 99 best;thief tool 1 comes 0 fears 99 best;").marks());
        doc.says("-2: no RAIL.");
        doc.is("marks()", -2, new LockRail().marks());
    }

    private static void hides() {
        String base = "rail places 3 nights 10;lock price 1 cuts 100 100 100;bike worth 100 seems 60 at 0 lock 0;bike worth 100 seems 60 at 1 lock 0;"
            + "bike worth 100 seems 59 at 2 lock 0;thief tool 0 comes 50 fears 50 best;mark price 1 known %s;";
        doc.of("41");
        doc.says("What a BIKE that is not marked has of the others being so: its LOSS, if no BIKE is marked, less that, if all others are.");
        LockRail hidden = Due.rail(String.format(base, "60 hidden"));
        doc.is("hidden: all it would lose", 500_000, hidden.hides(0));
        doc.is("hidden: it would not be taken anyway", 0, hidden.hides(1));
        LockRail seen = Due.rail(String.format(base, "60"));
        doc.is("seen: it is taken then", -500_000, seen.hides(1));
        doc.is("seen: it is taken then, the last", -500_000, seen.hides(2));
        doc.is("seen: it is taken anyway", 0, seen.hides(0));
        seen.option(1, 3);
        seen.option(2, 3);
        doc.is("whatever is marked now", -500_000, seen.hides(2));
        doc.is("whatever is marked now, the first", 0, seen.hides(0));
        LockRail first = Due.rail(String.format(base, "60"));
        first.option(0, 3);
        doc.is("though it is taken now, as the first is marked", -500_000, first.hides(1));
        doc.is("one alone", 0, Due.rail("rail places 1 nights 1;bike worth 1 seems 1 at 0;thief tool 0 comes 100 fears 0 any;mark price 1 known 100 hidden;").hides(0));
        for (int bike = 0; bike < 3; bike++) {
            int one = bike;
            doc.asks("hides(" + bike + ")", y -> y.hides(one));
        }
        doc.says("NOTHING: there is no such one.");
        doc.is("behind the last", NOTHING, seen.hides(3));
        for (int far : FAR) doc.is("hides(" + far + ")", NOTHING, seen.hides(far));
        doc.is("no BIKE", NOTHING, Due.rail(ONLY_RAIL).hides(0));
        doc.is("no RAIL", NOTHING, new LockRail().hides(0));
    }

    private static void bait() {
        doc.of("42");
        doc.says("LOSS of all with a BAIT (V), in thousandths.");
        LockRail x = Due.rail(BAITED);
        doc.is("as without one", x.all(1), x.bait(1, 0, 0));
        doc.is("the most it can seem", 0, x.bait(2, 9999, 100));
        doc.is("none there", 0, Due.rail(ONLY_RAIL).bait(0, 5, 5));
        doc.is("a NIGHT is as ever then", WHOLE, x.risk(0));
        doc.is("a YEAR is as ever then", 2, x.run(0));
        for (int caught : new int[] {0, 1, 50, 100}) {
            for (int seems : new int[] {0, 60, 81, 151, 9999}) doc.asks("bait(2, " + seems + ", " + caught + ")", y -> y.bait(2, seems, caught));
        }
        doc.says("-2: there are none such (PLACE, seems 0 .. 9,999, caught 0 .. 100);");
        doc.is("a PLACE too many", -2, x.bait(3, 61, 50));
        doc.is("seems 10,000", -2, x.bait(1, 10_000, 50));
        doc.is("caught 101", -2, x.bait(1, 61, 101));
        for (int far : FAR) doc.is("place " + far, -2, x.bait(far, 61, 50));
        for (int far : new int[] {-1, -2, 10_001, Integer.MAX_VALUE, Integer.MIN_VALUE}) {
            doc.is("seems " + far, -2, x.bait(1, far, 50));
            doc.is("caught " + far, -2, x.bait(1, 61, far));
            doc.is("caught " + far + ", where a BIKE stands", -2, x.bait(0, 61, far));
            doc.is("seems " + far + ", where a BIKE stands", -2, x.bait(0, far, 50));
        }
        doc.is("no RAIL", -2, new LockRail().bait(0, 61, 50));
        doc.says("-5: a BIKE stands there.");
        doc.is("bait(0, 61, 50)", -5, x.bait(0, 61, 50));
        x.move(0, 2);
        doc.is("it stands at 2 now", -5, x.bait(2, 61, 50));
        doc.is("and no more at 0", 0, x.bait(0, 61, 0));
    }

    private static void caught() {
        doc.of("43");
        doc.says("PARTS by which a THIEF is caught by that in all NIGHTS.");
        LockRail x = Due.rail(BAITED + "thief tool 0 comes 0 fears 0 best;thief tool 0 comes 100 fears 0 just 0;thief tool 0 comes 50 fears 0 any;");
        doc.is("always", WHOLE, x.caught(0, 1, 61, 100));
        doc.is("half of the first, half of what is left", 3 * WHOLE / 4, x.caught(0, 1, 61, 50));
        doc.is("never caught", 0, x.caught(0, 1, 61, 0));
        doc.is("never comes", 0, x.caught(1, 1, 61, 100));
        doc.is("just his own", 0, x.caught(2, 1, 61, 100));
        doc.is("the last, in the second night", WHOLE / 2, x.caught(3, 1, 61, 100));
        doc.is("seems nothing", 0, x.caught(0, 1, 0, 100));
        doc.is("the most it can seem", WHOLE, x.caught(0, 2, 9999, 100));
        for (int t = 0; t < 3; t++) {
            int thief = t;
            for (int seems : new int[] {0, 60, 81, 151, 9999}) doc.asks("caught(" + t + ", 2, " + seems + ", 37)", y -> y.caught(thief, 2, seems, 37));
        }
        doc.says("-2, -5 likewise.");
        doc.is("a THIEF too many", -2, x.caught(4, 1, 61, 50));
        doc.is("a THIEF too many, where a BIKE stands", -2, x.caught(4, 0, 61, 50));
        doc.is("a PLACE too many", -2, x.caught(0, 3, 61, 50));
        doc.is("seems 10,000", -2, x.caught(0, 1, 10_000, 50));
        doc.is("caught 101", -2, x.caught(0, 1, 61, 101));
        for (int far : FAR) {
            doc.is("thief " + far, -2, x.caught(far, 1, 61, 50));
            doc.is("place " + far, -2, x.caught(0, far, 61, 50));
        }
        for (int far : new int[] {-1, -2, 10_001, Integer.MAX_VALUE, Integer.MIN_VALUE}) {
            doc.is("seems " + far, -2, x.caught(0, 1, far, 50));
            doc.is("caught " + far, -2, x.caught(0, 1, 61, far));
        }
        doc.is("a BIKE stands there", -5, x.caught(0, 0, 61, 50));
        doc.is("no THIEF", -2, Due.rail("rail places 1 nights 1;").caught(0, 0, 61, 50));
        doc.is("no RAIL", -2, new LockRail().caught(0, 0, 61, 50));
    }

    private static void lures() {
        String one = "rail places 3 nights 1;lock price 1 cuts 100 100 100;bike worth 1 seems %d at 0%s;thief tool 0 comes 1 fears 50 %s;";
        doc.of("44");
        doc.says("The least a BAIT must seem (0 .. 9,999) so that some THIEF takes it, all BIKES being there;");
        doc.is("best: 1 more than NET", 61, Due.rail(String.format(one, 60, "", "best")).lures(1));
        doc.is("best: 1 more than NET of a locked one", 11, Due.rail(String.format(one, 60, " lock 0", "best")).lures(1));
        doc.is("best: NET 1", 2, Due.rail(String.format(one, 51, " lock 0", "best")).lures(1));
        doc.is("best: NET 0, so none is wanted", 1, Due.rail(String.format(one, 50, " lock 0", "best")).lures(1));
        doc.is("best: NET below 0", 1, Due.rail(String.format(one, 0, " lock 0", "best")).lures(1));
        doc.is("best: the most there is", 9999, Due.rail(String.format(one, 9998, "", "best")).lures(2));
        doc.is("any: more TROUBLE", 1, Due.rail(String.format(one, 9999, " lock 0", "any")).lures(1));
        doc.is("any: none wanted", 1, Due.rail(String.format(one, 0, "", "any")).lures(1));
        doc.is("none there", 1, Due.rail("rail places 1 nights 1;thief tool 0 comes 1 fears 0 any;").lures(0));
        String more = "thief tool 0 comes 1 fears 10 best;thief tool 0 comes 1 fears 50 just 0;";
        doc.is("some THIEF: the least of 51, 11, none", 11, Due.rail(String.format(one, 60, " lock 0", "best") + more).lures(1));
        doc.is("some THIEF: the least of none, 51, none", 51, Due.rail(String.format(one, 60, " lock 0", "just 0") + more).lures(1));
        for (int p : new int[] {2, 4}) doc.asks("lures(" + p + ")", y -> y.lures(p));
        for (int seems = 0; seems < 200; seems += 7) {
            LockRail x = Due.rail(String.format(one, seems, " lock 0", "best"));
            int least = x.lures(1);
            doc.is("it is taken, beside " + seems, WHOLE / 100, x.caught(0, 1, least, 100));
            doc.is("1 less is not", 0, x.caught(0, 1, least - 1, 100));
        }
        doc.says("NONE: none does.");
        doc.is("best: above the most", -1, Due.rail(String.format(one, 9999, "", "best")).lures(1));
        doc.is("any: as little TROUBLE", -1, Due.rail(String.format(one, 1, "", "any")).lures(1));
        doc.is("just", -1, Due.rail(String.format(one, 1, "", "just 0")).lures(1));
        doc.is("just, unwanted", -1, Due.rail(String.format(one, 0, "", "just 0")).lures(1));
        doc.is("no THIEF", -1, Due.rail(ONLY_RAIL).lures(0));
        doc.says("-2: there is no such PLACE;");
        LockRail x = Due.rail(BAITED);
        doc.is("behind the last", -2, x.lures(3));
        for (int far : FAR) doc.is("lures(" + far + ")", -2, x.lures(far));
        doc.is("no RAIL", -2, new LockRail().lures(0));
        doc.says("-5 likewise.");
        doc.is("a BIKE stands there", -5, x.lures(0));
    }
}
