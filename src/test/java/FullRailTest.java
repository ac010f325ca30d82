/**
 * Every call on a RAIL that is full: 20 PLACES, 60 NIGHTS, 4 LAMPS, 5 LOCKS, 10 BIKES, 6 THIEVES. Each THIEF always comes and
 * takes just his own, of BIKES 4 to 9; any LOCK (1 to 5 pennies) keeps him away.
 */
public final class FullRailTest {
    private static final Due due = new Due();
    private static final long WHOLE = 1_000_000_000_000L;
    private static final int TAKEN = 0b1111110000;

    private static String text(String kind) {
        StringBuilder s = new StringBuilder("rail places 20 nights 60;");
        for (int i = 0; i < 4; i++) s.append("lamp at ").append(16 + i).append(" bright 1;");
        for (int i = 0; i < 5; i++) s.append("lock price ").append(i + 1).append(" cuts 999 999 999;");
        for (int i = 0; i < 10; i++) s.append("bike worth ").append(100 + i).append(" seems 60 at ").append(i).append(';');
        for (int i = 0; i < 6; i++) s.append("thief tool ").append(i % 3).append(" comes 100 fears 50 ").append(kind.replace("%", "" + (4 + i))).append(';');
        return s.append("mark price 7 known 0;watch wage 10 adds 99;").toString();
    }

    private static LockRail full() {
        return Due.rail(text("just %"));
    }

    private static long loss(int bike) {
        return bike < 4 ? 0 : 60_000L * (100 + bike);
    }

    private static long lossOfAll() {
        long all = 0;
        for (int b = 0; b < 10; b++) all += loss(b);
        return all;
    }

    public static void main(String[] args) {
        looks();
        nights();
        options();
        settling();
        beside();
        places();
        marksAndBaits();
        coversAndLaws();
        years();
        due.close();
    }

    private static void looks() {
        LockRail x = full();
        int[] counts = {20, 60, 4, 5, 10, 6, 28, 0, 0, 0, 12, 0, 0};
        for (int what = 0; what < counts.length; what++) due.is("55: count(" + what + ")", counts[what], x.count(what));
        for (int p = 0; p < 20; p++) due.is("6: light(" + p + ")", p < 16 ? 0 : 1, x.light(p));
        for (int b = 0; b < 10; b++) {
            due.is("7: bike(" + b + ", 0)", 100 + b, x.bike(b, 0));
            due.is("9: gain(" + b + ")", 60, x.gain(b));
            for (int t = 0; t < 6; t++) due.is("8: trouble(" + t + ", " + b + ")", 0, x.trouble(t, b));
        }
        for (int t = 0; t < 6; t++) {
            due.is("10: takes(" + t + ", 0)", 4 + t, x.takes(t, 0));
            due.is("10: takes(" + t + ", 1023)", -1, x.takes(t, 1023));
            due.is("11: wants(" + t + ")", 10, x.wants(t));
        }
    }

    private static void nights() {
        LockRail x = full();
        due.is("12: part", WHOLE, x.part(TAKEN));
        due.is("12: part(0)", 0, x.part(0));
        due.is("12: part(1023)", 0, x.part(1023));
        for (int n = 0; n <= 10; n++) due.is("13: many(" + n + ")", n == 6 ? WHOLE : 0, x.many(n));
        for (int b = 0; b < 10; b++) {
            due.is("14: risk(" + b + ")", b < 4 ? 0 : WHOLE, x.risk(b));
            for (int t = 0; t < 6; t++) due.is("15: has(" + t + ", " + b + ")", b == 4 + t ? WHOLE : 0, x.has(t, b));
            due.is("16: cost(" + b + ", 1)", loss(b), x.cost(b, 1));
        }
        due.is("17: all(1)", lossOfAll(), x.all(1));
        x.watch(true);
        due.is("17: all(2), with wages", lossOfAll() + 600_000, x.all(2));
        due.is("16: cost(9, 2), with a tenth of them", loss(9) + 60_000, x.cost(9, 2));
    }

    private static void options() {
        LockRail x = full();
        for (int b = 0; b < 10; b++) {
            due.is("19: would(" + b + ", 11)", 12_000, x.would(b, 11));
            due.is("20: best(" + b + ")", b < 4 ? 0 : 2, x.best(b));
        }
        due.is("21: restless()", 6, x.restless());
        for (int b = 0; b < 10; b++) {
            due.is("18: option(" + b + ", 11)", 0, x.option(b, 11));
            due.is("18: option(" + b + ", 11) again", 11, x.option(b, 11));
        }
        due.is("17: all(0), all being locked and marked", 120_000, x.all(0));
        due.is("17: all(2), all being locked and marked", 120_000, x.all(2));
        due.is("55: count(8)", 10, x.count(8));
        due.is("28: wasted()", 120_000 - lossOfAll(), x.wasted());
        due.is("21: restless(), all being dearer than needed", 10, x.restless());
    }

    private static void settling() {
        due.is("23: settles()", 2, full().settles());
        due.is("24: settled()", 6_000, full().settled());
        LockRail x = full();
        due.is("22: settle(30)", 2, x.settle(30));
        due.is("22: all(2)", 6_000, x.all(2));
        due.is("26: good()", 6_000, full().good());
        LockRail y = full();
        due.is("25: better(1)", 1, y.better(1));
        due.is("25: the dearest first", 0, y.bike(9, 3));
        due.is("25: better(60)", 5, y.better(60));
        due.is("25: all(2)", 6_000, y.all(2));
        due.is("27: pair(8, 9)", 202, full().pair(8, 9));
        due.is("27: pair(0, 9)", 2, full().pair(0, 9));
        due.is("27: pair(9, 0)", 200, full().pair(9, 0));
        due.is("28: wasted()", 0, full().wasted());
    }

    /** Here each takes the best, so the first six are gone each NIGHT. */
    private static void beside() {
        LockRail x = Due.rail(text("best"));
        due.is("12: part", WHOLE, x.part(63));
        due.is("29: beside(0, 2, 6)", WHOLE, x.beside(0, 2, 6));
        due.is("29: beside(0, 2, 9)", 0, x.beside(0, 2, 9));
        due.is("30: worse(0, 2)", 1, x.worse(0, 2));
        due.is("31: next(0, 2)", 6, x.next(0, 2));
        due.is("31: next(9, 2)", -1, x.next(9, 2));
        x.option(0, 2);
        x.option(1, 2);
        x.option(2, 2);
        due.is("31: the last", 9, x.next(3, 2));
        due.is("29: beside(3, 2, 9)", WHOLE, x.beside(3, 2, 9));
    }

    private static void places() {
        LockRail x = full();
        due.is("34: where(9)", 9, x.where(9));
        due.is("32: move(9, 19)", 9, x.move(9, 19));
        due.is("34: where(9), the first that is free", 9, x.where(9));
        due.is("34: where(0)", 0, x.where(0));
        due.is("32: move(0, 19)", -5, x.move(0, 19));
        due.is("33: swap(0, 9)", 0, x.swap(0, 9));
        due.is("33: place of 0", 19, x.bike(0, 2));
        due.is("35: lamp(99)", 0, x.lamp(99));
        due.is("36: lit(19, 99)", lossOfAll(), x.lit(19, 99));
        due.is("37: watch(true)", 0, x.watch(true));
        due.is("38: penny()", -600_000, x.penny());
        due.is("39: enough()", -1, x.enough());
        // With cheaper LOCKS that only the watchman's LIGHT makes good.
        LockRail y = Due.rail(text("just %").replace("999", "10"));
        for (int b = 0; b < 10; b++) y.option(b, 2);
        due.is("38: penny()", lossOfAll() - 600_000, y.penny());
        due.is("39: enough(), one", 1, y.enough());
        LockRail z = Due.rail(text("just %").replace("999 999 999", "10 10 10").replace("wage 10 ", "wage 636 "));
        for (int b = 0; b < 10; b++) z.option(b, 2);
        due.is("39: enough(), those from the last on: 109, 108, .. 105", 6, z.enough());
        LockRail all = Due.rail(text("just %").replace("999 999 999", "10 10 10").replace("wage 10 ", "wage 640 "));
        for (int b = 0; b < 10; b++) all.option(b, 2);
        due.is("39: enough(), all do not do", -1, all.enough());
    }

    private static void marksAndBaits() {
        LockRail x = full();
        due.is("40: marks()", -1, x.marks());
        due.is("40: marks(), all ten", 10, Due.rail(text("any").replace("known 0", "known 100")).marks());
        due.is("41: hides(9)", 0, x.hides(9));
        due.is("41: hides(9), hidden", 0, Due.rail(text("just %").replace("known 0", "known 50 hidden")).hides(9));
        due.is("42: bait(19, 9999, 100)", lossOfAll(), x.bait(19, 9999, 100));
        for (int t = 0; t < 6; t++) due.is("43: caught(" + t + ", 19, 9999, 100)", 0, x.caught(t, 19, 9999, 100));
        due.is("44: lures(19)", -1, x.lures(19));
        // Each NIGHT the first of those who are left takes the BAIT and is caught; the others take BIKES 0, 1, ..
        LockRail best = Due.rail(text("best"));
        due.is("44: lures(10)", 61, best.lures(10));
        for (int t = 0; t < 6; t++) due.is("43: caught(" + t + ", 10, 61, 100)", WHOLE, best.caught(t, 10, 61, 100));
        due.is("42: bait(10, 61, 100)", 1000 * (510 + 406 + 303 + 201 + 100), best.bait(10, 61, 100));
        due.is("42: bait(10, 61, 0)", 60_000 * 510, best.bait(10, 61, 0));
        due.is("42: bait(10, 60, 100)", 60_000 * 615, best.bait(10, 60, 100));
    }

    private static void coversAndLaws() {
        LockRail x = full();
        due.is("45: cover(9, 9999, 0)", 10_000_000, x.cover(9, 9999, 0));
        due.is("46: careless(9, 9999, 0)", 2, x.careless(9, 9999, 0));
        due.is("46: careless(9, 9999, 100)", 0, x.careless(9, 9999, 100));
        due.is("47: law(-1)", lossOfAll(), x.law(-1));
        for (int lock = 0; lock < 5; lock++) due.is("47: law(" + lock + ")", 10_000 * (lock + 1), x.law(lock));
        due.is("48: laws()", 0, x.laws());
        due.is("48: laws(), the last", 4, Due.rail(text("just %").replace("price 1 ", "price 6 ").replace("price 2 ", "price 7 ")
            .replace("price 3 ", "price 8 ").replace("price 4 ", "price 9 ")).laws());
        x.keep(2);
        for (int t = 0; t < 6; t++) due.is("49: rather(" + t + ", 2)", 0, x.rather(t, 2));
        x.option(9, 10);
        due.is("49: rather(5, 2)", 1, x.rather(5, 2));
    }

    private static void years() {
        LockRail x = full();
        due.is("50: run", 360, x.run(2_000_000_000));
        for (int b = 0; b < 10; b++) due.is("52: taken(" + b + ")", b < 4 ? 0 : 60, x.taken(b));
        for (int t = 0; t < 6; t++) due.is("53: took(" + t + ")", 60, x.took(t));
        x.row(3, 3, 60);
        for (int i = 0; i < 60; i++) x.write(3, i, 63);
        due.is("51: told(3)", 360, x.told(3));
        due.is("54: years(0, 100, 0)", 36_000, x.years(0, 100, 0));
        due.is("54: years(0, 100, 1)", 360, x.years(0, 100, 1));
        due.is("54: years(0, 100, 2)", 6_000 * (104 + 105 + 106 + 107 + 108 + 109), x.years(0, 100, 2));
        for (int k = 0; k < 3; k++) due.is("56: keep(" + k + ")", 0, x.keep(k));
        x.rail();
        due.is("57: none there", -2, x.taken(9));
        due.is("57: back(2)", 0, x.back(2));
        due.is("57: taken(9)", 60, x.taken(9));
        due.is("57: took(5)", 60, x.took(5));
        due.is("57: all(1)", lossOfAll(), x.all(1));
    }
}
