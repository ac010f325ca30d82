/** Promise by promise: answers worked out by hand from the document, its edges, and wrong inputs. */
public final class PromisesTest {
    private static final long NOTHING = -1_000_000_000_000L;
    private static final long WHOLE = 1_000_000_000_000L;

    /**
     * LIGHT 2 3 2 1 0. NET for THIEF 0: 80, 146, 20; for 1: 80, 110, -70; for 2: 80, 149, 27. So THIEF
     * 0 takes 1, then 0, then 2; THIEF 1 takes 0, then 1; THIEF 2 takes 2.
     */
    private static final String STREET = "rail places 5 nights 10;lamp at 1 bright 3;"
        + "lock price 20 cuts 10 20 30;lock price 50 cuts 100 200 300;"
        + "bike worth 100 seems 80 at 0;bike worth 200 seems 150 at 1 lock 0;bike worth 50 seems 60 at 4 lock 1 marked;"
        + "thief tool 0 comes 50 fears 10 best;thief tool 1 comes 20 fears 50 any;thief tool 2 comes 100 fears 1 just 2;"
        + "mark price 5 known 50;watch wage 7 adds 2;";
    /** Both alike; the LOCK takes a NET of 60 to 10. */
    private static final String TWINS = twins(100, 100);
    /** The same, but the LOCK takes it below 0. */
    private static final String STRONG = twins(200, 100);
    /** At PLACE 0 the LOCK's TROUBLE is 100, elsewhere 50; both BIKES seem 60. */
    private static final String LAMPED = "rail places 3 nights 10;lamp at 0 bright 1;lock price 0 cuts 100 100 100;"
        + "bike worth 100 seems 60 at 0 lock 0;bike worth 10 seems 60 at 2 lock 0;thief tool 0 comes 50 fears 50 best;";
    private static final String BAITED = "rail places 3 nights 2;bike worth 100 seems 60 at 0;"
        + "thief tool 0 comes 50 fears 0 best;";
    private static final String DRAWN = "rail places 2 nights 3;bike worth 7 seems 5 at 0;bike worth 2 seems 3 at 1;"
        + "thief tool 0 comes 47 fears 0 any;thief tool 0 comes 18 fears 0 any;";

    private static final Due due = new Due();

    private static String twins(int cuts, int otherWorth) {
        return "rail places 2 nights 10;lock price 10 cuts " + cuts + " " + cuts + " " + cuts + ";"
            + "bike worth 100 seems 60 at 0;bike worth " + otherWorth + " seems 60 at 1;"
            + "thief tool 0 comes 50 fears 50 best;";
    }

    /** The watchman's LIGHT keeps the thief away from BIKE 1, whose LOSS is 250,000. */
    private static String guarded(int wage) {
        return "rail places 2 nights 10;lock price 10 cuts 100 100 100;bike worth 100 seems 60 at 0 lock 0;"
            + "bike worth 50 seems 70 at 1 lock 0;thief tool 0 comes 50 fears 50 best;watch wage " + wage + " adds 1;";
    }

    public static void main(String[] args) {
        tape();
        railLines();
        faults();
        lightAndBikes();
        thieves();
        nights();
        costs();
        options();
        settling();
        bettering();
        beside();
        places();
        lamps();
        watchman();
        marks();
        baits();
        covers();
        laws();
        otherRail();
        drawnYears();
        toldYears();
        counts();
        images();
        slots();
        emptyRail();
        noRail();
        due.close();
    }

    // promises 2 and 3
    private static void tape() {
        LockRail x = new LockRail();
        due.is("2: count(7)", 0, x.count(7));
        due.is("2: feed", 20, x.feed(0x7261696C, 0x20706C61, 0x63657320, 0x35206E69, 0x67687473));
        due.is("2: feed again", 40, x.feed(0x20363B20, 0x20202020, 0x20202020, 0x20202020, -1));
        due.is("3: end(41)", -1, x.end(41));
        due.is("3: end(-1)", -1, x.end(-1));
        due.is("3: count(7)", 40, x.count(7));
        due.is("3: end(36)", 36, x.end(36));
        due.is("2: rail of the bytes, highest first", 1, x.rail());
        due.is("2: count(0)", 5, x.count(0));
        due.is("2: count(1)", 6, x.count(1));
        for (int i = 1; i <= 80; i++) due.is("2: feed " + i, 20 * i, x.feed(0, 0, 0, 0, 0));
        due.is("2: feed above 1,600", -1, x.feed(0, 0, 0, 0, 0));
        due.is("2: count(7) full", 1600, x.count(7));
        due.is("3: end(1600)", 1600, x.end(1600));
        due.is("3: end(1581)", 1581, x.end(1581));
        due.is("2: feed to 1,601", -1, x.feed(0, 0, 0, 0, 0));
        due.is("3: end(1580)", 1580, x.end(1580));
        due.is("2: feed to 1,600", 1600, x.feed(0, 0, 0, 0, 0));
        due.is("3: end(0)", 0, x.end(0));
        due.is("3: end(1) of none", -1, x.end(1));
    }

    // promise 4
    private static void railLines() {
        LockRail x = new LockRail();
        Due.feed(x, STREET);
        due.is("4: rail", 12, x.rail());
        due.is("4: tape empty", 0, x.count(7));
        x.watch(true);
        x.run(1);
        due.is("4: watched", 1, x.count(9));
        Due.feed(x, "rail places 0 nights 1;");
        due.is("4: faulty", -4, x.rail());
        due.is("4: tape read", 0, x.count(7));
        due.is("4: rail stays", 12, x.count(6));
        due.is("4: watchman stays", 1, x.count(9));
        due.is("4: year stays", 1, x.count(11));
        Due.feed(x, "rail places 3 nights 2;");
        due.is("4: in its place", 1, x.rail());
        due.is("4: no watchman", 0, x.count(9));
        due.is("4: no year", 0, x.count(11));
        due.is("4: no bikes", 0, x.count(4));
        Due.feed(x, STREET);
        x.rail();
        due.is("4: no watchman stands", 0, x.count(9));
        due.is("4: no year then", -1, x.taken(0));
        due.is("4: empty text", 0, x.rail());
        due.is("4: empty text's places", 0, x.count(0));
        due.is("4: empty text's options", 0, x.count(10));
        Due.feed(x, " \n ");
        due.is("4: blanks", 0, x.rail());
        LockRail y = new LockRail();
        Due.feed(y, "rail\nplaces20nights 060;lamp at 19bright 99;lock price 999 cuts 1 999 1;"
            + "bike worth 9999 seems 0 at 19 lock 0 marked;thief tool 2 comes 100 fears 99 just 0;"
            + "watch wage 999 adds 99;mark price 999 known 100 hidden;");
        due.is("4: bounds, blanks and noughts", 7, y.rail());
        due.is("4: nights", 60, y.count(1));
    }

    private static void fault(String text, int which, int at) {
        LockRail x = new LockRail();
        Due.feed(x, text);
        due.is("5: whether there is a fault in " + text, which == 0 ? 0 : -4, Math.min(0, x.rail()));
        due.is("5: fault(0) of " + text, which, x.fault(0));
        due.is("5: fault(1) of " + text, at, x.fault(1));
    }

    /** A FAULT in a LINE behind the rail's: its place is told from the LINE's own first byte. */
    private static void lineFault(String line, int which, int at) {
        String head = "rail places 3 nights 1;";
        fault(head + line, which, which == 0 ? -1 : head.length() + at);
    }

    // promise 5
    private static void faults() {
        LockRail x = new LockRail();
        due.is("5: ahead of any", 0, x.fault(0));
        due.is("5: place ahead of any", -1, x.fault(1));
        due.is("5: another what", -1, x.fault(2));
        due.is("5: another what", -1, x.fault(-1));
        Due.feed(x, "x");
        x.rail();
        due.is("5: a fault", 1, x.fault(0));
        due.is("5: another what then", -1, x.fault(2));
        Due.feed(x, "rail places 1 nights 1;");
        x.rail();
        due.is("5: of the latest", 0, x.fault(0));
        due.is("5: of the latest", -1, x.fault(1));

        fault("rail places 1;", 1, 13);
        fault("lamp at", 1, 0);
        fault("  lamp at", 1, 2);
        fault("rail", 1, 4);
        fault("rail ", 1, 5);
        fault("rail places 1 nights 1", 1, 22);
        fault("rail places 1 nights 1;", 0, -1);
        fault("rail places 0 nights 1;", 2, 12);
        fault("rail places 21 nights 1;", 2, 12);
        fault("rail places 1 nights 0;", 2, 21);
        fault("rail places 1 nights 61;", 2, 21);
        fault("rail places 99999999999999999999 nights 1;", 2, 12);
        fault("rail places 4294967297 nights 1;", 2, 12);
        fault("rail places -1 nights 1;", 1, 12);
        fault("Rail places 1 nights 1;", 1, 0);
        fault("rail places 1 nights 1;;", 1, 23);
        fault("rail places 1 nights 1;rail", 1, 23);
        fault("rail\tplaces 1 nights 1;", 1, 4);
        fault("rail places 1 nights 1; \u00e9", 1, 24);
        fault("railplaces 1 nights 1;", 1, 0);
        fault("rail places 0 nights \u0000", 2, 12);
        fault("5", 1, 0);
        fault(";", 1, 0);

        lineFault("rails places 1 nights 1;", 1, 0);
        lineFault("lamp at 3 bright 5;", 2, 8);
        lineFault("lamp at 2 bright 100;", 2, 17);
        lineFault("lamp at 2 bright 99;", 0, -1);
        lineFault("lamp on 2 bright 99;", 1, 5);
        lineFault("lampz at 0 bright 1;", 1, 0);
        lineFault("lamp at 0bright 1 2;", 1, 18);
        lineFault("lamp at lamp", 1, 8);
        lineFault("lock price 1000 cuts 1 1 1;", 2, 11);
        lineFault("lock price 1 cuts 0 1 1;", 2, 18);
        lineFault("lock price 1 cuts 1 1000 1;", 2, 20);
        lineFault("lock price 1 cuts 1 1 0;", 2, 22);
        lineFault("lock price 1 cuts 1 1;", 1, 21);
        lineFault("bike worth 10000 seems 1 at 0;", 2, 11);
        lineFault("bike worth 1 seems 10000 at 0;", 2, 19);
        lineFault("bike worth 1 seems 1 at 3;", 2, 24);
        lineFault("bike worth 1 seems 1 at 0 lock 0;", 2, 31);
        lineFault("bike worth 1 seems 1 at 0 marked lock 0;", 1, 33);
        lineFault("bike worth 1 seems 1 at 0 marked marked;", 1, 33);
        lineFault("bike worth 1 seems 1 at 0;bike worth 1 seems 1 at 0;", 2, 50);
        lineFault("bike worth 1 seems 1 at 0 lock 0;lock price 1 cuts 1 1 1;", 2, 31);
        lineFault("thief tool 3 comes 1 fears 1 any;", 2, 11);
        lineFault("thief tool 0 comes 101 fears 1 any;", 2, 19);
        lineFault("thief tool 0 comes 1 fears 100 any;", 2, 27);
        lineFault("thief tool 0 comes 1 fears 1 just 0;", 2, 34);
        lineFault("thief tool 0 comes 1 fears 1 none;", 1, 29);
        lineFault("thief tool 0 comes 1 fears 1 best 0;", 1, 34);
        lineFault("thief tool 0 comes 1 fears 1 just 0;bike worth 1 seems 1 at 0;", 2, 34);
        lineFault("mark price 1000 known 1;", 2, 11);
        lineFault("mark price 1 known 101;", 2, 19);
        lineFault("mark price 1 known 1 hidden hidden;", 1, 28);
        lineFault("mark price 1 known 1;mark price 1 known 1;", 2, 21);
        lineFault("mark price 1 known 1;mark", 2, 21);
        lineFault("watch wage 1000 adds 1;", 2, 11);
        lineFault("watch wage 1 adds 100;", 2, 18);
        lineFault("watch wage 1 adds 1;watch x", 2, 20);
        lineFault("lamp at 0 bright 5;".repeat(4) + "lamp", 3, 76);
        lineFault("lock price 1 cuts 1 1 1;".repeat(5) + "lock", 3, 120);
        lineFault("thief tool 0 comes 1 fears 1 any;".repeat(6) + "thief;", 3, 198);
        StringBuilder bikes = new StringBuilder("rail places 20 nights 1;");
        for (int i = 0; i < 10; i++) bikes.append("bike worth 1 seems 1 at ").append(i).append(';');
        fault(bikes + "bike worth 1 seems 1 at 10;", 3, bikes.length());
        fault(bikes.toString(), 0, -1);
    }

    // promises 6 and 7
    private static void lightAndBikes() {
        LockRail x = Due.rail(STREET);
        int[] light = {2, 3, 2, 1, 0};
        for (int p = 0; p < 5; p++) due.is("6: light " + p, light[p], x.light(p));
        due.is("6: light(-1)", -2, x.light(-1));
        due.is("6: light(5)", -2, x.light(5));
        x.watch(true);
        for (int p = 0; p < 5; p++) due.is("6: watched light " + p, light[p] + 2, x.light(p));
        LockRail y = Due.rail("rail places 5 nights 1;lamp at 1 bright 3;lamp at 1 bright 1;lamp at 4 bright 9;");
        int[] together = {2 + 0 + 5, 3 + 1 + 6, 2 + 0 + 7, 1 + 8, 9};
        for (int p = 0; p < 5; p++) due.is("6: lights together " + p, together[p], y.light(p));
        int[][] bikes = {{100, 80, 0, -1, 0}, {200, 150, 1, 0, 0}, {50, 60, 4, 1, 1}};
        for (int b = 0; b < 3; b++) {
            for (int what = 0; what < 5; what++) due.is("7: bike " + b + " " + what, bikes[b][what], x.bike(b, what));
        }
        due.is("7: bike(3, 0)", -2, x.bike(3, 0));
        due.is("7: bike(-1, 0)", -2, x.bike(-1, 0));
        due.is("7: bike(0, 5)", -2, x.bike(0, 5));
        due.is("7: bike(0, -1)", -2, x.bike(0, -1));
    }

    // promises 8 to 11
    private static void thieves() {
        LockRail x = Due.rail(STREET);
        int[][] trouble = {{0, 4, 10}, {0, 40, 100}, {0, 1, 3}};
        for (int t = 0; t < 3; t++) {
            for (int b = 0; b < 3; b++) due.is("8: trouble " + t + " " + b, trouble[t][b], x.trouble(t, b));
        }
        due.is("8: trouble(3, 0)", -2, x.trouble(3, 0));
        due.is("8: trouble(0, 3)", -2, x.trouble(0, 3));
        due.is("8: trouble(-1, 0)", -2, x.trouble(-1, 0));
        due.is("8: trouble(0, -1)", -2, x.trouble(0, -1));
        due.is("9: gain 0", 80, x.gain(0));
        due.is("9: gain 1", 150, x.gain(1));
        due.is("9: gain 2, marked", 30, x.gain(2));
        due.is("9: gain(3)", -2, x.gain(3));
        due.is("9: gain(-1)", -2, x.gain(-1));
        LockRail hidden = Due.rail("rail places 3 nights 1;bike worth 1 seems 100 at 0;bike worth 1 seems 7 at 1 marked;"
            + "bike worth 1 seems 0 at 2;mark price 1 known 50 hidden;");
        due.is("9: hidden, not marked", 100 * 250 / 300, hidden.gain(0));
        due.is("9: hidden, marked", 7 * 250 / 300, hidden.gain(1));
        due.is("9: marked without a mark", 9, Due.rail("rail places 1 nights 1;bike worth 1 seems 9 at 0 marked;").gain(0));
        due.is("10: best", 1, x.takes(0, 0));
        due.is("10: best, 1 gone", 0, x.takes(0, 2));
        due.is("10: best, 0 and 1 gone", 2, x.takes(0, 3));
        due.is("10: best, all gone", -1, x.takes(0, 7));
        due.is("10: any", 0, x.takes(1, 0));
        due.is("10: any, 0 gone", 1, x.takes(1, 1));
        due.is("10: any, the last unwanted", -1, x.takes(1, 3));
        due.is("10: just", 2, x.takes(2, 3));
        due.is("10: just, it gone", -1, x.takes(2, 4));
        due.is("10: takes(0, 8)", -2, x.takes(0, 8));
        due.is("10: takes(0, -1)", -2, x.takes(0, -1));
        due.is("10: takes(3, 0)", -2, x.takes(3, 0));
        due.is("10: takes(-1, 0)", -2, x.takes(-1, 0));
        due.is("10: first of several", 0, Due.rail(TWINS).takes(0, 0));
        due.is("11: wants 0", 3, x.wants(0));
        due.is("11: wants 1", 2, x.wants(1));
        due.is("11: wants 2, though just one", 3, x.wants(2));
        due.is("11: wants(3)", -2, x.wants(3));
        due.is("11: wants(-1)", -2, x.wants(-1));
        LockRail even = Due.rail("rail places 1 nights 1;lock price 1 cuts 100 1 1;bike worth 1 seems 50 at 0 lock 0;"
            + "thief tool 0 comes 1 fears 50 best;");
        due.is("11: a NET of 0", 0, even.wants(0));
        due.is("10: a NET of 0", -1, even.takes(0, 0));
    }

    // promises 12 to 15
    private static void nights() {
        LockRail x = Due.rail(STREET);
        long[] parts = {0, 0, 0, 0, 4, 1, 4, 1};
        for (int set = 0; set < 8; set++) due.is("12: part " + set, parts[set] * WHOLE / 10, x.part(set));
        due.is("12: part(8)", -2, x.part(8));
        due.is("12: part(-1)", -2, x.part(-1));
        long[] many = {0, 4, 5, 1};
        for (int n = 0; n < 4; n++) due.is("13: many " + n, many[n] * WHOLE / 10, x.many(n));
        due.is("13: many(4)", -2, x.many(4));
        due.is("13: many(-1)", -2, x.many(-1));
        long[] risk = {2, 5, 10};
        for (int b = 0; b < 3; b++) due.is("14: risk " + b, risk[b] * WHOLE / 10, x.risk(b));
        due.is("14: risk(3)", -2, x.risk(3));
        due.is("14: risk(-1)", -2, x.risk(-1));
        long[][] has = {{0, 5, 0}, {2, 0, 0}, {0, 0, 10}};
        for (int t = 0; t < 3; t++) {
            for (int b = 0; b < 3; b++) due.is("15: has " + t + " " + b, has[t][b] * WHOLE / 10, x.has(t, b));
        }
        due.is("15: has(3, 0)", -2, x.has(3, 0));
        due.is("15: has(0, 3)", -2, x.has(0, 3));
        due.is("15: has(-1, 0)", -2, x.has(-1, 0));
        due.is("15: has(0, -1)", -2, x.has(0, -1));
        // Six THIEVES, each of whom comes by 1 in the hundred: all of them by 1 of 10 to the 12.
        StringBuilder six = new StringBuilder("rail places 7 nights 1;");
        for (int b = 0; b < 7; b++) six.append("bike worth 1 seems 1 at ").append(b).append(';');
        for (int t = 0; t < 6; t++) six.append("thief tool 0 comes 1 fears 0 any;");
        LockRail y = Due.rail(six.toString());
        due.is("12: six came", 1, y.part(63));
        due.is("12: none came", 941_480_149_401L, y.part(0));
        due.is("14: the seventh", 0, y.risk(6));
        // The second finds the BIKE there by 67 in the hundred, and has 33 in the hundred of these.
        LockRail z = Due.rail("rail places 2 nights 1;bike worth 1 seems 1 at 0;thief tool 0 comes 33 fears 0 any;"
            + "thief tool 0 comes 33 fears 0 any;");
        due.is("12: together", 330_000_000_000L + 221_100_000_000L, z.part(1));
        due.is("15: the second has what is left", 221_100_000_000L, z.has(1, 0));
    }

    // promises 16 and 17
    private static void costs() {
        LockRail x = Due.rail(STREET);
        long[][] costs = {{0, 200_000, 200_000}, {20_000, 1_000_000, 1_020_000}, {55_000, 500_000, 555_000}};
        for (int b = 0; b < 3; b++) {
            for (int what = 0; what < 3; what++) due.is("16: cost " + b + " " + what, costs[b][what], x.cost(b, what));
        }
        long[] all = {75_000, 1_700_000, 1_775_000};
        for (int what = 0; what < 3; what++) due.is("17: all " + what, all[what], x.all(what));
        x.watch(true);
        due.is("16: with wage", 200_000 + 23_333, x.cost(0, 2));
        due.is("16: LOSS with wage", 200_000, x.cost(0, 1));
        due.is("17: with wages, each cut", 1_775_000 + 3 * 23_333, x.all(2));
        due.is("16: cost(0, 3)", -2, x.cost(0, 3));
        due.is("16: cost(0, -1)", -2, x.cost(0, -1));
        due.is("16: cost(3, 0)", -2, x.cost(3, 0));
        due.is("16: cost(-1, 0)", -2, x.cost(-1, 0));
        due.is("17: all(3)", -2, x.all(3));
        due.is("17: all(-1)", -2, x.all(-1));
    }

    // promises 18 to 21
    private static void options() {
        LockRail x = Due.rail(STREET);
        due.is("18: option(0, 5)", 0, x.option(0, 5));
        due.is("18: its lock", 1, x.bike(0, 3));
        due.is("18: its mark", 1, x.bike(0, 4));
        due.is("18: option(0, 2)", 5, x.option(0, 2));
        due.is("18: its mark gone", 0, x.bike(0, 4));
        due.is("18: option(1, 1)", 2, x.option(1, 1));
        due.is("18: its lock gone", -1, x.bike(1, 3));
        due.is("18: option(2, 0)", 5, x.option(2, 0));
        due.is("18: option(0, 6)", -2, x.option(0, 6));
        due.is("18: option(0, -1)", -2, x.option(0, -1));
        due.is("18: option(3, 0)", -2, x.option(3, 0));
        due.is("18: option(-1, 0)", -2, x.option(-1, 0));

        LockRail y = Due.rail(TWINS);
        long[] would = {500_000, 500_000, 10_000, 10_000};
        for (int o = 0; o < 4; o++) due.is("19: would " + o, would[o], y.would(0, o));
        due.is("19: all stays", 0, y.option(0, 0));
        due.is("19: would(0, 4)", -2, y.would(0, 4));
        due.is("19: would(0, -1)", -2, y.would(0, -1));
        due.is("19: would(2, 0)", -2, y.would(2, 0));
        due.is("20: best 0", 2, y.best(0));
        due.is("20: best 1, the first of several", 0, y.best(1));
        due.is("20: best(2)", -2, y.best(2));
        due.is("20: best(-1)", -2, y.best(-1));
        due.is("21: restless", 1, y.restless());
        y.option(1, 1);
        due.is("21: as good by another, not better", 1, y.restless());
        due.is("21: all stays", 1, y.option(1, 0));
    }

    // promises 22 to 24
    private static void settling() {
        LockRail x = Due.rail(TWINS);
        due.is("23: never", -1, x.settles());
        due.is("24: never", -1, x.settled());
        due.is("22: settle(0)", 0, x.settle(0));
        due.is("23: all stays", 0, x.bike(0, 4) + x.bike(0, 3) + 1);
        due.is("22: settle(1)", 1, x.settle(1));
        due.is("22: the first locks", 0, x.bike(0, 3));
        due.is("22: and so does the second", 0, x.bike(1, 3));
        due.is("22: round 2", 1, x.settle(1));
        due.is("22: the first unlocks", -1, x.bike(0, 3));
        due.is("22: and so does the second", -1, x.bike(1, 3));
        due.is("22: settle(30)", 30, x.settle(30));
        due.is("22: settle(31)", -2, x.settle(31));
        due.is("22: settle(-1)", -2, x.settle(-1));
        LockRail y = Due.rail(STRONG);
        due.is("23: settles", 2, y.settles());
        due.is("24: settled", 20_000, y.settled());
        due.is("24: all stays", 500_000, y.all(2));
        due.is("22: settle", 2, y.settle(30));
        due.is("22: settled", 20_000, y.all(2));
        due.is("22: nothing to change", 1, y.settle(5));
        due.is("23: settled already", 1, y.settles());
    }

    // promises 25 to 28
    private static void bettering() {
        LockRail x = Due.rail(STRONG);
        due.is("25: no change of one betters", 0, x.better(60));
        due.is("26: so it stays", 500_000, x.good());
        due.is("27: pair", 202, x.pair(0, 1));
        due.is("27: pair, one twice", -2, x.pair(0, 0));
        due.is("27: pair(0, 2)", -2, x.pair(0, 2));
        due.is("27: pair(-1, 0)", -2, x.pair(-1, 0));
        due.is("27: all stays", 500_000, x.all(2));
        due.is("28: nothing wasted", 0, x.wasted());
        x.settle(30);
        due.is("28: far from wasted", 20_000 - 500_000, x.wasted());
        LockRail y = Due.rail(TWINS);
        y.settle(1);
        due.is("28: wasted", 20_000, y.wasted());
        LockRail z = Due.rail(twins(200, 10));
        due.is("25: better(0)", 0, z.better(0));
        due.is("26: good", 20_000, z.good());
        due.is("26: all stays", 500_000, z.all(2));
        due.is("25: better(1)", 1, z.better(1));
        due.is("25: the first BIKE, the least OPTION", 2, z.option(0, 2));
        due.is("25: behind one", 60_000, z.all(2));
        due.is("25: one more", 1, z.better(60));
        due.is("25: behind both", 20_000, z.all(2));
        due.is("25: better(61)", -2, z.better(61));
        due.is("25: better(-1)", -2, z.better(-1));
        // A BIKE of no worth takes the thief off the other, and needs no LOCK.
        due.is("27: the other's behind", 200, Due.rail(twins(200, 0)).pair(0, 1));
        due.is("27: turned round", 2, Due.rail(twins(200, 0)).pair(1, 0));
    }

    // promises 29 to 31
    private static void beside() {
        LockRail x = Due.rail(TWINS);
        due.is("29: beside", WHOLE / 2, x.beside(0, 2, 1));
        due.is("29: no other option", 0, x.beside(0, 0, 1));
        due.is("30: worse", 1, x.worse(0, 2));
        due.is("30: worse by none", 0, x.worse(0, 1));
        due.is("31: next", 1, x.next(0, 2));
        due.is("31: next of none", -1, x.next(0, 0));
        due.is("29: all stays", 0, x.option(0, 0));
        x.settle(1);
        due.is("29: less", -WHOLE / 2, x.beside(1, 0, 0));
        due.is("30: less is not worse", 0, x.worse(1, 0));
        due.is("31: less does not grow", -1, x.next(1, 0));
        due.is("29: one twice", NOTHING, x.beside(0, 0, 0));
        due.is("29: beside(2, 0, 0)", NOTHING, x.beside(2, 0, 0));
        due.is("29: beside(0, 4, 1)", NOTHING, x.beside(0, 4, 1));
        due.is("29: beside(0, 0, -1)", NOTHING, x.beside(0, 0, -1));
        due.is("30: worse(2, 0)", -2, x.worse(2, 0));
        due.is("30: worse(0, 4)", -2, x.worse(0, 4));
        due.is("31: next(-1, 0)", -2, x.next(-1, 0));
        due.is("31: next(0, -1)", -2, x.next(0, -1));
        LockRail y = Due.rail("rail places 4 nights 1;lock price 1 cuts 999 999 999;bike worth 1 seems 50 at 0;"
            + "bike worth 1 seems 40 at 1;bike worth 1 seems 30 at 2;bike worth 1 seems 20 at 3;"
            + "thief tool 0 comes 30 fears 99 best;thief tool 0 comes 60 fears 99 best;");
        // RISKS 72, 18, 0, 0 in the hundred; with the first locked 72 and 18 fall on the next two.
        due.is("29: the second", 54 * WHOLE / 100, y.beside(0, 2, 1));
        due.is("29: the third", 18 * WHOLE / 100, y.beside(0, 2, 2));
        due.is("30: both", 2, y.worse(0, 2));
        due.is("31: the one of which it grows most", 1, y.next(0, 2));
    }

    // promises 32 to 34
    private static void places() {
        LockRail x = Due.rail(STREET);
        due.is("32: move(0, 2)", 0, x.move(0, 2));
        due.is("32: there", 2, x.bike(0, 2));
        due.is("32: its own", 2, x.move(0, 2));
        due.is("32: another's", -5, x.move(0, 1));
        due.is("32: still there", 2, x.bike(0, 2));
        due.is("32: where one stood", 1, x.move(1, 0));
        due.is("32: move(0, 5)", -2, x.move(0, 5));
        due.is("32: move(0, -1)", -2, x.move(0, -1));
        due.is("32: move(3, 0)", -2, x.move(3, 0));
        due.is("32: move(-1, 0)", -2, x.move(-1, 0));
        LockRail y = Due.rail(LAMPED);
        due.is("33: not less", 0, y.swap(0, 1));
        due.is("33: the one", 2, y.bike(0, 2));
        due.is("33: the other", 0, y.bike(1, 2));
        due.is("33: less", 1, y.swap(0, 1));
        due.is("33: back", 0, y.bike(0, 2));
        due.is("33: one twice", -2, y.swap(1, 1));
        due.is("33: swap(0, 2)", -2, y.swap(0, 2));
        due.is("33: swap(-1, 0)", -2, y.swap(-1, 0));
        due.is("34: where 0", 0, y.where(0));
        due.is("34: where 1, the first of several", 1, y.where(1));
        due.is("34: all stays", 2, y.bike(1, 2));
        due.is("34: where(2)", -2, y.where(2));
        due.is("34: where(-1)", -2, y.where(-1));
    }

    // promises 35 and 36
    private static void lamps() {
        LockRail x = Due.rail(LAMPED);
        due.is("35: lamp(1)", 2, x.lamp(1));
        due.is("35: lamp(2)", 1, x.lamp(2));
        due.is("35: lamp(3)", 0, x.lamp(3));
        due.is("35: lamp(0)", 0, x.lamp(0));
        due.is("35: lamp(100)", -2, x.lamp(100));
        due.is("35: lamp(-1)", -2, x.lamp(-1));
        due.is("36: lit(2, 1)", 0, x.lit(2, 1));
        due.is("36: lit(0, 1)", 50_000, x.lit(0, 1));
        due.is("36: lit(3, 1)", -2, x.lit(3, 1));
        due.is("36: lit(-1, 1)", -2, x.lit(-1, 1));
        due.is("36: lit(0, 100)", -2, x.lit(0, 100));
        due.is("36: lit(0, -1)", -2, x.lit(0, -1));
        due.is("36: all stays", 1, x.count(2));
        LockRail four = Due.rail(LAMPED + "lamp at 0 bright 0;".repeat(3));
        due.is("36: beside four lamps", 0, four.lit(2, 1));
        due.is("35: beside four lamps", 2, four.lamp(1));
    }

    // promises 37 to 39
    private static void watchman() {
        LockRail x = Due.rail(guarded(20));
        due.is("37: watch(false)", 0, x.watch(false));
        due.is("37: watch(true)", 0, x.watch(true));
        due.is("37: stands there", 1, x.watch(true));
        due.is("37: his light", 1, x.light(0));
        due.is("16: his wage", 10_000 + 100_000, x.cost(0, 2));
        due.is("38: penny, with him", 50_000, x.penny());
        due.is("39: enough, with him", 1, x.enough());
        due.is("37: goes", 1, x.watch(false));
        due.is("38: penny, without him", 50_000, x.penny());
        due.is("39: enough, without him", 1, x.enough());
        due.is("37: no watchman", 0, x.count(9));
        due.is("38: just his wages", 0, Due.rail(guarded(25)).penny());
        due.is("39: just his wages", 1, Due.rail(guarded(25)).enough());
        due.is("38: less than his wages", -10_000, Due.rail(guarded(26)).penny());
        due.is("39: less than his wages", -1, Due.rail(guarded(26)).enough());
        due.is("39: for nothing none is enough", 0, Due.rail(guarded(0)).enough());
        due.is("38: no help", -70_000, Due.rail(STREET).penny());
        due.is("39: no help", -1, Due.rail(STREET).enough());
        due.is("37: not told", -2, Due.rail(TWINS).watch(true));
        due.is("38: not told", NOTHING, Due.rail(TWINS).penny());
        due.is("39: not told", -2, Due.rail(TWINS).enough());
        // Each of two THIEVES is kept from his own: 100,000 and 300,000 less, so the greater comes first.
        String two = "rail places 2 nights 1;lock price 1 cuts 100 1 1;bike worth 100 seems 60 at 0 lock 0;"
            + "bike worth 300 seems 60 at 1 lock 0;thief tool 0 comes 100 fears 50 just 0;thief tool 0 comes 100 fears 50 just 1;";
        due.is("39: the most first", 1, Due.rail(two + "watch wage 300 adds 1;").enough());
        due.is("39: both", 2, Due.rail(two + "watch wage 301 adds 1;").enough());
        due.is("39: both, all of it", 2, Due.rail(two + "watch wage 400 adds 1;").enough());
        due.is("39: above both", -1, Due.rail(two + "watch wage 401 adds 1;").enough());
    }

    private static String marked(int seems, int known, String hidden, String kind) {
        return "rail places 2 nights 1;mark price 1 known " + known + hidden + ";bike worth 1 seems " + seems + " at 0;"
            + "bike worth 1 seems " + seems + " at 1;thief tool 0 comes 100 fears 0 " + kind + ";";
    }

    // promises 40 and 41
    private static void marks() {
        due.is("40: all", 2, Due.rail(marked(10, 100, "", "any")).marks());
        due.is("40: not by all", -1, Due.rail(marked(10, 50, "", "any")).marks());
        due.is("40: he wants what he does not take too", 2, Due.rail(marked(10, 100, "", "just 0")).marks());
        due.is("40: hidden, all", 2, Due.rail(marked(10, 100, " hidden", "any")).marks());
        due.is("40: hidden, one", 1, Due.rail(marked(1, 100, " hidden", "any")).marks());
        due.is("40: none wanted", 0, Due.rail(marked(0, 0, "", "any")).marks());
        LockRail x = Due.rail(marked(10, 100, "", "any"));
        x.option(1, 1);
        due.is("40: only the first count", 2, x.marks());
        due.is("40: all stays", 1, x.count(8));

        String base = "rail places 2 nights 10;lock price 1 cuts 100 100 100;bike worth 100 seems 60 at 0 lock 0;"
            + "bike worth 100 seems 60 at 1 lock 0;thief tool 0 comes 50 fears 50 best;mark price 1 known 60";
        LockRail hidden = Due.rail(base + " hidden;");
        due.is("41: hidden marks help", 500_000, hidden.hides(0));
        due.is("41: he is not taken anyway", 0, hidden.hides(1));
        hidden.option(0, 3);
        due.is("41: as if it were not marked", 500_000, hidden.hides(0));
        due.is("41: all stays", 1, hidden.bike(0, 4));
        LockRail seen = Due.rail(base + ";");
        due.is("41: seen marks hurt", -500_000, seen.hides(1));
        due.is("41: or do nothing", 0, seen.hides(0));
        due.is("41: hides(2)", NOTHING, seen.hides(2));
        due.is("41: hides(-1)", NOTHING, seen.hides(-1));
    }

    // promises 42 to 44
    private static void baits() {
        LockRail x = Due.rail(BAITED);
        due.is("42: taken for the bike", 0, x.bait(1, 61, 100));
        due.is("43: caught", 750_000_000_000L, x.caught(0, 1, 61, 100));
        due.is("43: caught by half", 437_500_000_000L, x.caught(0, 1, 61, 50));
        due.is("42: never caught", 0, x.bait(2, 61, 0));
        due.is("43: never caught", 0, x.caught(0, 2, 61, 0));
        due.is("42: behind the bike", 100_000, x.bait(1, 60, 100));
        due.is("43: behind the bike", 0, x.caught(0, 1, 60, 100));
        due.is("42: seems nothing", 100_000, x.bait(1, 0, 100));
        due.is("42: seems the most", 0, x.bait(1, 9999, 0));
        due.is("42: a bike there", -5, x.bait(0, 61, 100));
        due.is("42: bait(3, 61, 100)", -2, x.bait(3, 61, 100));
        due.is("42: bait(-1, 61, 100)", -2, x.bait(-1, 61, 100));
        due.is("42: bait(1, 10000, 100)", -2, x.bait(1, 10_000, 100));
        due.is("42: bait(1, -1, 100)", -2, x.bait(1, -1, 100));
        due.is("42: bait(1, 61, 101)", -2, x.bait(1, 61, 101));
        due.is("42: bait(1, 61, -1)", -2, x.bait(1, 61, -1));
        due.is("42: wrong ahead of there", -2, x.bait(0, 61, 101));
        due.is("43: a bike there", -5, x.caught(0, 0, 61, 100));
        due.is("43: caught(1, 1, 61, 100)", -2, x.caught(1, 1, 61, 100));
        due.is("43: caught(-1, 0, 61, 100)", -2, x.caught(-1, 0, 61, 100));
        due.is("43: caught(0, 3, 61, 100)", -2, x.caught(0, 3, 61, 100));
        // Behind one who takes the BAIT the other takes the BIKE in the first NIGHT; one of them is left for the second.
        LockRail y = Due.rail(BAITED + "thief tool 0 comes 100 fears 0 best;");
        due.is("42: two thieves", 50_000, y.bait(1, 61, 100));
        due.is("43: the first", 750_000_000_000L, y.caught(0, 1, 61, 100));
        due.is("43: the second", WHOLE, y.caught(1, 1, 61, 100));
        due.is("12: a night is as ever", 0, y.part(0));
        due.is("42: marks do not lessen it", 0, Due.rail("rail places 2 nights 1;mark price 1 known 90 hidden;"
            + "bike worth 5 seems 10 at 0 marked;thief tool 0 comes 100 fears 0 best;").bait(1, 2, 0));
        due.is("42: nor does it count", 5000, Due.rail("rail places 2 nights 1;mark price 1 known 50 hidden;"
            + "bike worth 5 seems 11 at 0 marked;thief tool 0 comes 100 fears 0 best;").bait(1, 5, 0));

        due.is("44: best", 61, x.lures(1));
        due.is("44: a bike there", -5, x.lures(0));
        due.is("44: lures(3)", -2, x.lures(3));
        due.is("44: lures(-1)", -2, x.lures(-1));
        String two = "rail places 2 nights 1;lock price 1 cuts 100 1 1;bike worth 1 seems ";
        due.is("44: any, as little trouble", -1, Due.rail(two + "60 at 0;thief tool 0 comes 1 fears 50 any;").lures(1));
        due.is("44: any, less trouble", 1, Due.rail(two + "60 at 0 lock 0;thief tool 0 comes 1 fears 50 any;").lures(1));
        due.is("44: best, locked", 11, Due.rail(two + "60 at 0 lock 0;thief tool 0 comes 1 fears 50 best;").lures(1));
        due.is("44: nothing wanted", 1, Due.rail(two + "40 at 0 lock 0;thief tool 0 comes 1 fears 50 best;").lures(1));
        due.is("44: just", -1, Due.rail(two + "40 at 0 lock 0;thief tool 0 comes 1 fears 50 just 0;").lures(1));
        due.is("44: at most", 9999, Due.rail(two + "9998 at 0;thief tool 0 comes 1 fears 50 best;").lures(1));
        due.is("44: above the most", -1, Due.rail(two + "9999 at 0;thief tool 0 comes 1 fears 50 best;").lures(1));
    }

    // promises 45 and 46
    private static void covers() {
        LockRail x = Due.rail(STRONG);
        due.is("45: all paid", 10_000, x.cover(0, 10, 100));
        due.is("46: careless", 0, x.careless(0, 10, 100));
        due.is("45: half paid", 20_000, x.cover(0, 10, 50));
        due.is("46: careful", 2, x.careless(0, 10, 50));
        due.is("45: just as dear", 10_000, x.cover(0, 0, 98));
        due.is("46: the first of several", 0, x.careless(0, 0, 98));
        due.is("45: all stays", 500_000, x.cost(0, 2));
        due.is("45: at most", 9_999_000, x.cover(1, 9999, 0));
        due.is("45: cover(2, 0, 0)", -2, x.cover(2, 0, 0));
        due.is("45: cover(-1, 0, 0)", -2, x.cover(-1, 0, 0));
        due.is("45: cover(0, 10000, 0)", -2, x.cover(0, 10_000, 0));
        due.is("45: cover(0, -1, 0)", -2, x.cover(0, -1, 0));
        due.is("45: cover(0, 0, 101)", -2, x.cover(0, 0, 101));
        due.is("45: cover(0, 0, -1)", -2, x.cover(0, 0, -1));
        due.is("46: careless(2, 0, 0)", -2, x.careless(2, 0, 0));
        due.is("46: careless(0, 10000, 0)", -2, x.careless(0, 10_000, 0));
        due.is("46: careless(0, 0, 101)", -2, x.careless(0, 0, 101));
        LockRail y = Due.rail(guarded(20));
        y.watch(true);
        due.is("45: no wage", 11_000, y.cover(1, 1, 0));
    }

    // promises 47 and 48
    private static void laws() {
        LockRail x = Due.rail(STREET);
        due.is("47: none", 1_775_000, x.law(-1));
        due.is("47: the first", 1_795_000, x.law(0));
        due.is("47: the second", 1_655_000, x.law(1));
        due.is("47: law(2)", -2, x.law(2));
        due.is("47: law(-2)", -2, x.law(-2));
        due.is("48: laws", 1, x.laws());
        due.is("47: all stays", -1, x.bike(0, 3));
        LockRail y = Due.rail(STRONG);
        due.is("47: both locked", 20_000, y.law(0));
        due.is("48: both locked", 0, y.laws());
        y.settle(30);
        due.is("48: NONE ahead", -1, y.laws());
    }

    // promise 49
    private static void otherRail() {
        LockRail x = Due.rail(BAITED);
        x.keep(0);
        due.is("49: as good", 0, x.rather(0, 0));
        Due.feed(x, BAITED.replace("seems 60", "seems 50"));
        x.rail();
        due.is("49: better there", 1, x.rather(0, 0));
        x.keep(1);
        x.back(0);
        due.is("49: better here", 0, x.rather(0, 1));
        due.is("49: not kept", -2, x.rather(0, 2));
        due.is("49: rather(0, 3)", -2, x.rather(0, 3));
        due.is("49: rather(0, -1)", -2, x.rather(0, -1));
        due.is("49: rather(1, 0)", -2, x.rather(1, 0));
        due.is("49: rather(-1, 0)", -2, x.rather(-1, 0));
        Due.feed(x, "rail places 1 nights 1;thief tool 0 comes 1 fears 50 best;");
        x.rail();
        due.is("49: nothing here", 1, x.rather(0, 0));
        x.keep(2);
        due.is("49: to neither", -1, x.rather(0, 2));
        // The thief who goes there has his own fears: TROUBLE 50 leaves him 10.
        LockRail y = Due.rail("rail places 1 nights 1;lock price 1 cuts 100 1 1;bike worth 1 seems 60 at 0 lock 0;"
            + "thief tool 0 comes 1 fears 0 best;");
        y.keep(0);
        String here = "rail places 1 nights 1;bike worth 1 seems %d at 0;thief tool 0 comes 1 fears 50 best;";
        Due.feed(y, String.format(here, 10));
        y.rail();
        due.is("49: his own fears, as much", 0, y.rather(0, 0));
        Due.feed(y, String.format(here, 9));
        y.rail();
        due.is("49: his own fears, more", 1, y.rather(0, 0));
        Due.feed(y, "rail places 2 nights 1;bike worth 1 seems 5 at 0;bike worth 1 seems 1 at 1;"
            + "thief tool 1 comes 1 fears 0 just 1;thief tool 1 comes 1 fears 0 just 0;");
        y.rail();
        due.is("49: just one that is not there", 0, y.rather(0, 0));
        due.is("49: just one that is there", 1, y.rather(1, 0));
    }

    // promises 50, and 52 to 54
    private static void drawnYears() {
        LockRail x = Due.rail(DRAWN);
        due.is("52: no year", -1, x.taken(0));
        due.is("53: no year", -1, x.took(0));
        // Draws of seed 0: 0 68, 88 17, 98 27.
        due.is("50: run(0)", 2, x.run(0));
        due.is("52: of 0", 2, x.taken(0));
        due.is("52: of 1", 0, x.taken(1));
        due.is("53: by 0", 1, x.took(0));
        due.is("53: by 1", 1, x.took(1));
        // Of seed 1: 38 58, 13 15, 51 27.
        due.is("50: run(1)", 3, x.run(1));
        due.is("52: of 0", 2, x.taken(0));
        due.is("52: of 1", 1, x.taken(1));
        due.is("53: by 0", 2, x.took(0));
        due.is("53: by 1", 1, x.took(1));
        // Of seed 3: 47 7, 65 12, 22 96; of the last seed: 4 33, 21 7, 26 92.
        due.is("50: run(3), 47 is not below 47", 3, x.run(3));
        due.is("50: run of the last seed", 4, x.run(2_000_000_000));
        due.is("50: run(2000000001)", -2, x.run(2_000_000_001));
        due.is("50: run(-1)", -2, x.run(-1));
        due.is("50: the year stays", 3, x.taken(0));
        // Of seed 2: 8 17, 39 14, 37 95.
        due.is("54: together", 2 + 3 + 5, x.years(0, 3, 0));
        due.is("54: the most", 5, x.years(0, 3, 1));
        due.is("54: the most, not the last", 5, x.years(1, 3, 1));
        due.is("54: worth", 14 + 16 + 25, x.years(0, 3, 2));
        due.is("54: one", 3, x.years(3, 1, 0));
        due.is("54: the year stays", 3, x.taken(0));
        due.is("54: years(-1, 1, 0)", -2, x.years(-1, 1, 0));
        due.is("54: years(2000000001, 1, 0)", -2, x.years(2_000_000_001, 1, 0));
        due.is("54: years(0, 0, 0)", -2, x.years(0, 0, 0));
        due.is("54: years(0, 101, 0)", -2, x.years(0, 101, 0));
        due.is("54: years(0, 1, 3)", -2, x.years(0, 1, 3));
        due.is("54: years(0, 1, -1)", -2, x.years(0, 1, -1));
        due.is("52: taken(2)", -2, x.taken(2));
        due.is("52: taken(-1)", -2, x.taken(-1));
        due.is("53: took(2)", -2, x.took(2));
        due.is("53: took(-1)", -2, x.took(-1));
        LockRail fresh = Due.rail(DRAWN);
        fresh.years(0, 3, 0);
        due.is("54: no year of its own", 0, fresh.count(11));
    }

    // promise 51
    private static void toldYears() {
        LockRail x = Due.rail(STREET);
        due.is("51: has nothing", -6, x.told(0));
        due.is("51: told(4)", -2, x.told(4));
        due.is("51: told(-1)", -2, x.told(-1));
        x.row(0, 0, 3);
        x.write(0, 0, 7);
        x.write(0, 2, 3);
        due.is("51: told", 5, x.told(0));
        int[] taken = {2, 2, 1};
        int[] took = {2, 2, 1};
        for (int i = 0; i < 3; i++) {
            due.is("52: taken " + i, taken[i], x.taken(i));
            due.is("53: took " + i, took[i], x.took(i));
        }
        x.write(0, 1, 8);
        due.is("51: a thief that there is not", -2, x.told(0));
        x.write(0, 1, -1);
        due.is("51: all bits", -2, x.told(0));
        due.is("51: the year stays", 2, x.taken(0));
        x.write(0, 1, 256 + 2);
        due.is("51: cut to a byte", 6, x.told(0));
        x.row(1, 3, 10);
        due.is("51: as long as the nights", 0, x.told(1));
        x.row(1, 3, 11);
        due.is("51: longer", -2, x.told(1));
        x.row(1, 3, 1);
        x.write(1, 0, 1L << 40);
        due.is("51: a bit far above", -2, x.told(1));
        x.row(2, 1, 0);
        due.is("51: of no numbers", 0, x.told(2));
        due.is("51: a year all the same", 0, x.taken(0));
    }

    // promise 55
    private static void counts() {
        LockRail x = new LockRail();
        for (int what = 0; what <= 12; what++) due.is("55: none " + what, 0, x.count(what));
        Due.feed(x, STREET);
        x.rail();
        x.watch(true);
        x.run(7);
        x.row(2, 0, 0);
        x.feed(0, 0, 0, 0, 0);
        int[] counts = {5, 10, 1, 2, 3, 3, 12, 20, 1, 1, 6, 1, 1};
        for (int what = 0; what <= 12; what++) due.is("55: count " + what, counts[what], x.count(what));
        due.is("55: count(13)", -1, x.count(13));
        due.is("55: count(-1)", -1, x.count(-1));
        due.is("55: options without locks", 2, Due.rail("rail places 1 nights 1;").count(10));
    }

    // promises 56 and 57
    private static void images() {
        LockRail x = Due.rail(STREET);
        due.is("56: keep(3)", -2, x.keep(3));
        due.is("56: keep(-1)", -2, x.keep(-1));
        due.is("57: back(3)", -2, x.back(3));
        due.is("57: back(-1)", -2, x.back(-1));
        due.is("57: has nothing", -6, x.back(0));
        x.watch(true);
        x.option(0, 5);
        x.move(0, 3);
        x.run(5);
        int taken = x.taken(2);
        due.is("56: keep(2)", 0, x.keep(2));
        x.option(0, 0);
        x.move(0, 2);
        x.watch(false);
        x.row(0, 0, 0);
        x.told(0);
        due.is("57: another year", 0, x.taken(2));
        due.is("57: back(2)", 0, x.back(2));
        due.is("57: option", 1, x.bike(0, 3));
        due.is("57: mark", 1, x.bike(0, 4));
        due.is("57: place", 3, x.bike(0, 2));
        due.is("57: watchman", 1, x.count(9));
        due.is("57: year", taken, x.taken(2));
        due.is("52: he always comes", 10, taken);
        x.move(0, 2);
        x.option(0, 0);
        due.is("57: again", 0, x.back(2));
        due.is("57: the image stays", 3, x.bike(0, 2));
        Due.feed(x, "rail places 1 nights 1;");
        x.rail();
        x.feed(0, 0, 0, 0, 0);
        x.back(2);
        due.is("57: the whole rail", 12, x.count(6));
        due.is("57: the tape stays", 20, x.count(7));
        due.is("57: slots stay", 1, x.count(12));
        LockRail y = new LockRail();
        due.is("56: no rail", 0, y.keep(0));
        Due.feed(y, STREET);
        y.rail();
        due.is("57: back to none", 0, y.back(0));
        due.is("57: none", -2, y.part(0));
    }

    // promises 58 to 60; what a row has is seen by telling a year of it
    private static void slots() {
        LockRail x = Due.rail("rail places 6 nights 60;bike worth 1 seems 1 at 0;thief tool 0 comes 1 fears 0 any;");
        due.is("58: row(4, 0, 1)", -2, x.row(4, 0, 1));
        due.is("58: row(-1, 0, 1)", -2, x.row(-1, 0, 1));
        due.is("58: row(0, 4, 1)", -2, x.row(0, 4, 1));
        due.is("58: row(0, -1, 1)", -2, x.row(0, -1, 1));
        due.is("58: row(0, 0, 61)", -2, x.row(0, 0, 61));
        due.is("58: row(0, 0, -1)", -3, x.row(0, 0, -1));
        due.is("58: row(4, 0, -1)", -2, x.row(4, 0, -1));
        due.is("58: none so far", 0, x.count(12));
        due.is("58: row(3, 3, 60)", 0, x.row(3, 3, 60));
        due.is("58: one", 1, x.count(12));
        due.is("59: write(4, 0, 1)", -2, x.write(4, 0, 1));
        due.is("59: write(-1, 0, 1)", -2, x.write(-1, 0, 1));
        due.is("59: has nothing", -6, x.write(0, 0, 1));
        due.is("59: write(3, 60, 1)", -7, x.write(3, 60, 1));
        due.is("59: write(3, -1, 1)", -7, x.write(3, -1, 1));
        due.is("59: write(3, 59, 1)", 0, x.write(3, 59, 1));
        due.is("59: written", 1, x.told(3));
        due.is("58: the slot stays", -3, x.row(3, 0, -1));
        due.is("58: it stayed", 1, x.told(3));
        due.is("58: in its place", 0, x.row(3, 3, 60));
        due.is("58: all 0", 0, x.told(3));
        long[] above = {1L << 8, 1L << 16, 1L << 32};
        for (int width = 0; width < 3; width++) {
            x.row(0, width, 1);
            x.write(0, 0, above[width] + 1);
            due.is("59: cut to width " + width, 1, x.told(0));
            x.write(0, 0, above[width] / 2);
            due.is("59: its highest bit " + width, -2, x.told(0));
        }
        x.row(0, 3, 1);
        x.write(0, 0, (1L << 62) + 1);
        due.is("59: nothing to cut", -2, x.told(0));

        x.row(0, 1, 6);
        x.row(1, 1, 3);
        x.row(2, 2, 3);
        LockRail fresh = new LockRail();
        due.is("60: has nothing", -6, fresh.paste(0, 0, 1, 0, 0));
        fresh.row(0, 0, 2);
        due.is("60: the other has nothing", -6, fresh.paste(0, 0, 1, 0, 0));
        due.is("60: the one has nothing", -6, fresh.paste(1, 0, 0, 0, 0));
        due.is("60: paste from 4", -2, x.paste(4, 0, 0, 0, 0));
        due.is("60: paste to -1", -2, x.paste(0, 0, -1, 0, 0));
        due.is("60: of another width", -8, x.paste(0, 0, 2, 0, 9));
        due.is("60: beyond the one", -7, x.paste(1, 1, 0, 0, 3));
        due.is("60: beyond the other", -7, x.paste(0, 0, 1, 1, 3));
        due.is("60: from below 0", -7, x.paste(0, -1, 1, 0, 1));
        due.is("60: to below 0", -7, x.paste(0, 0, 1, -1, 1));
        due.is("60: n below 0", -7, x.paste(0, 0, 1, 0, -1));
        due.is("60: far beyond", -7, x.paste(0, 1, 1, 0, Integer.MAX_VALUE));
        due.is("60: none of them", 0, x.paste(0, 6, 1, 3, 0));
        x.write(0, 0, 1);
        x.write(0, 1, 1);
        due.is("60: over itself", 0, x.paste(0, 0, 0, 1, 5));
        due.is("60: as they were", 3, x.told(0));
        due.is("60: back over itself", 0, x.paste(0, 1, 0, 0, 5));
        due.is("60: as they were, back", 2, x.told(0));
        due.is("60: to another", 0, x.paste(0, 1, 1, 0, 3));
        due.is("60: there", 1, x.told(1));
    }

    /** A RAIL of its first LINE alone: no BIKES, no THIEVES. */
    private static void emptyRail() {
        LockRail x = Due.rail("rail places 1 nights 1;");
        due.is("12: nothing gone", WHOLE, x.part(0));
        due.is("12: part(1)", -2, x.part(1));
        due.is("13: none gone", WHOLE, x.many(0));
        due.is("13: many(1)", -2, x.many(1));
        due.is("17: all(2)", 0, x.all(2));
        due.is("21: restless", 0, x.restless());
        due.is("22: settle(3)", 1, x.settle(3));
        due.is("23: settles", 1, x.settles());
        due.is("24: settled", 0, x.settled());
        due.is("25: better(5)", 0, x.better(5));
        due.is("26: good", 0, x.good());
        due.is("28: wasted", 0, x.wasted());
        due.is("35: lamp(7)", 0, x.lamp(7));
        due.is("36: lit(0, 7)", 0, x.lit(0, 7));
        due.is("40: marks", 0, x.marks());
        due.is("42: bait", 0, x.bait(0, 5, 5));
        due.is("44: lures", -1, x.lures(0));
        due.is("47: law(-1)", 0, x.law(-1));
        due.is("48: laws", -1, x.laws());
        due.is("50: run(5)", 0, x.run(5));
        due.is("52: taken(0)", -2, x.taken(0));
        due.is("54: years", 0, x.years(5, 3, 0));
        due.is("55: a year", 1, x.count(11));
        LockRail y = Due.rail("rail places 1 nights 2;watch wage 3 adds 1;");
        due.is("38: wages all the same", -6000, y.penny());
        due.is("39: all do not do", -1, y.enough());
    }

    // promise 1, and what each other says without a RAIL
    private static void noRail() {
        LockRail x = new LockRail();
        due.is("1: NONE", -1, LockRail.NONE);
        long[] wrong = {x.light(0), x.bike(0, 0), x.trouble(0, 0), x.gain(0), x.takes(0, 0), x.wants(0), x.part(0), x.many(0),
            x.risk(0), x.has(0, 0), x.cost(0, 0), x.all(0), x.option(0, 0), x.would(0, 0), x.best(0), x.restless(), x.settle(0),
            x.settles(), x.settled(), x.better(0), x.good(), x.pair(0, 1), x.worse(0, 0), x.next(0, 0), x.move(0, 0), x.swap(0, 1),
            x.where(0), x.lamp(0), x.lit(0, 0), x.watch(true), x.enough(), x.marks(), x.bait(0, 0, 0), x.caught(0, 0, 0, 0),
            x.lures(0), x.cover(0, 0, 0), x.careless(0, 0, 0), x.law(-1), x.laws(), x.rather(0, 0), x.run(0), x.told(0),
            x.taken(0), x.took(0), x.years(0, 1, 0)};
        for (int i = 0; i < wrong.length; i++) due.is("1: without a rail, call " + i, -2, wrong[i]);
        long[] nothing = {x.wasted(), x.beside(0, 0, 1), x.penny(), x.hides(0)};
        for (int i = 0; i < nothing.length; i++) due.is("1: without a rail, nothing " + i, NOTHING, nothing[i]);
    }
}
