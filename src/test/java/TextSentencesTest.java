import java.math.BigInteger;
import java.util.ArrayList;
import java.util.Arrays;
import java.util.List;

/** Term I and promises 1 to 5, sentence by sentence: the tape, the text on it, and its faults. */
public final class TextSentencesTest {
    private static final Sentences doc = new Sentences();
    private static final String HEAD = "rail places 3 nights 2;";
    private static final String LOCK = "lock price 1 cuts 1 1 1;";
    private static final String BIKE = "bike worth 1 seems 1 at 1;";
    private static final String THIEF = "thief tool 0 comes 1 fears 1 any;";
    private static final String MARK = "mark price 1 known 1;";
    private static final String WATCH = "watch wage 1 adds 1;";
    private static final String LAMP = "lamp at 0 bright 5;";
    private static final long WHOLE = 1_000_000_000_000L;

    public static void main(String[] args) {
        lines();
        numbersOfLines();
        whatIsNumbered();
        tokens();
        faults();
        slots();
        newObject();
        feed();
        end();
        rail();
        faultCall();
        doc.close();
    }

    private static void fault(String text, int which, int at) {
        LockRail x = new LockRail();
        Due.feed(x, text);
        int answer = x.rail();
        doc.is("rail() of " + text, which == 0 ? 0 : -4, Math.min(answer, 0));
        doc.is("fault(0) of " + text, which, x.fault(0));
        doc.is("fault(1) of " + text, at, x.fault(1));
    }

    private static void stands(String text) {
        fault(text, 0, -1);
    }

    private static int placeOf(String before, List<String> tokens, int which) {
        int at = before.length();
        for (int i = 0; i < which; i++) at += tokens.get(i).length() + 1;
        return which < tokens.size() ? at : at - 1;
    }

    /** The LINES' words: with another letter anywhere, one more, or one less, none of them is that word. */
    private static void words(String before, String line) {
        List<String> tokens = Arrays.asList(line.split(" "));
        for (int i = 0; i < tokens.size(); i++) {
            String word = tokens.get(i);
            if (!Character.isLetter(word.charAt(0))) continue;
            List<String> others = new ArrayList<>(List.of(word + "z", word + "a", "a" + word, word.substring(1), word.substring(0, word.length() - 1)));
            for (int j = 0; j < word.length(); j++) others.add(word.substring(0, j) + (word.charAt(j) == 'q' ? 'x' : 'q') + word.substring(j + 1));
            for (String other : others) {
                List<String> changed = new ArrayList<>(tokens);
                changed.set(i, other);
                spoilt(before, changed, i);
            }
        }
    }

    private static void spoilt(String before, List<String> tokens, int firstWrong) {
        fault(before + String.join(" ", tokens), 1, placeOf(before, tokens, firstWrong));
    }

    /** One form of a LINE: whole it stands; cut short, or with a TOKEN more, less, or another, it does not. */
    private static void form(String before, String line) {
        List<String> tokens = Arrays.asList(line.split(" "));
        stands(before + line);
        words(before, line);
        for (int i = 0; i < tokens.size(); i++) {
            String token = tokens.get(i);
            boolean aCut = line.startsWith("lock") && i >= 4 && i <= 6;
            boolean mayMiss = token.equals("marked") || token.equals("hidden");
            if (i > 0) spoilt(before, tokens.subList(0, i), i);
            List<String> less = new ArrayList<>(tokens);
            less.remove(i);
            if (mayMiss) stands(before + String.join(" ", less));
            else spoilt(before, less, aCut ? 6 : i);
            List<String> more = new ArrayList<>(tokens);
            more.add(i, token);
            spoilt(before, more, aCut ? 7 : i + 1);
            for (String other : new String[] {"#", "x", Character.isDigit(token.charAt(0)) ? "at" : "7", token.equals(";") ? ":" : ";"}) {
                List<String> changed = new ArrayList<>(tokens);
                changed.set(i, other);
                boolean endsThere = other.equals(";") && (mayMiss || token.equals("lock") && i > 0);
                spoilt(before, changed, endsThere ? i + 1 : i);
            }
        }
    }

    private static void lines() {
        doc.of("I");
        doc.says("RAIL: {LINE ;}.");
        stands("");
        stands(" \n");
        stands(HEAD);
        stands(HEAD + LAMP);
        fault(HEAD.substring(0, 22), 1, 22);
        fault(HEAD + ";", 1, 23);
        fault(";" + HEAD, 1, 0);
        fault(HEAD + LAMP.substring(0, 18) + LAMP, 1, 41);

        doc.says("LINE: rail places N nights N | lamp at P bright N | lock price N cuts N N N | bike worth N seems N at P [lock L] [marked]"
            + " | thief tool N comes N fears N (best | any | just B) | mark price N known N [hidden] | watch wage N adds N.");
        form("", "rail places 3 nights 2 ;");
        String before = HEAD + LOCK + BIKE;
        form(before, "lamp at 2 bright 5 ;");
        form(before, "lock price 7 cuts 1 2 3 ;");
        form(before, "bike worth 1 seems 1 at 0 ;");
        form(before, "bike worth 1 seems 1 at 0 marked ;");
        form(before, "bike worth 1 seems 1 at 0 lock 0 ;");
        form(before, "bike worth 1 seems 1 at 0 lock 0 marked ;");
        form(before, "thief tool 0 comes 1 fears 1 best ;");
        form(before, "thief tool 0 comes 1 fears 1 any ;");
        form(before, "thief tool 0 comes 1 fears 1 just 0 ;");
        form(before, "mark price 1 known 1 ;");
        form(before, "mark price 1 known 1 hidden ;");
        form(before, "watch wage 1 adds 1 ;");
        fault(before + "bike worth 1 seems 1 at 0 marked lock 0;", 1, before.length() + 33);
        fault(before + "thief tool 0 comes 1 fears 1 best any;", 1, before.length() + 34);

        doc.says("rail is the first LINE and no other:");
        for (String line : new String[] {LAMP, LOCK, BIKE, THIEF, MARK, WATCH}) {
            fault(line + HEAD, 1, 0);
            fault(HEAD + line + HEAD, 1, HEAD.length() + line.length());
            stands(HEAD + line);
        }
        fault(HEAD + HEAD, 1, HEAD.length());
    }

    /** A number between two texts: its least and its most stand; what lies beyond, or would wrap round, does not. */
    private static void bounds(String before, String after, int least, int most) {
        stands(before + least + after);
        stands(before + most + after);
        stands(before + "0".repeat(20) + most + after);
        int at = before.length();
        if (least > 0) fault(before + (least - 1) + after, 2, at);
        fault(before + "00" + (most + 1) + after, 2, at);
        fault(before + (most + 1) + after, 2, at);
        fault(before + "-" + least + after, 1, at);
        for (int bits : new int[] {31, 32, 63, 64}) fault(before + BigInteger.TWO.pow(bits).add(BigInteger.valueOf(least)) + after, 2, at);
        fault(before + BigInteger.TEN.pow(60) + after, 2, at);
    }

    private static String bikes(int n) {
        StringBuilder s = new StringBuilder();
        for (int i = 0; i < n; i++) s.append("bike worth ").append(100 + i).append(" seems ").append(10 + i).append(" at ").append(i).append(';');
        return s.toString();
    }

    private static void numbersOfLines() {
        doc.says("places 1 .. 20,");
        bounds("rail places ", " nights 2;", 1, 20);
        for (int n : new int[] {1, 20}) {
            LockRail x = Due.rail("rail places " + n + " nights 2;");
            doc.is("count(0)", n, x.count(0));
            doc.is("light of the last", 0, x.light(n - 1));
            doc.is("light behind it", -2, x.light(n));
        }

        doc.says("nights 1 .. 60.");
        bounds("rail places 3 nights ", ";", 1, 60);
        for (int n : new int[] {1, 60}) doc.is("count(1)", n, Due.rail("rail places 3 nights " + n + ";").count(1));

        doc.says("P: a PLACE 0 .. places less 1 (of a bike one where none stands),");
        for (int places : new int[] {1, 2, 20}) {
            String head = "rail places " + places + " nights 2;";
            bounds(head + "lamp at ", " bright 5;", 0, places - 1);
            bounds(head + "bike worth 1 seems 1 at ", ";", 0, places - 1);
        }
        fault(HEAD + BIKE + BIKE, 2, HEAD.length() + BIKE.length() + 24);
        fault(HEAD + BIKE + "bike worth 1 seems 1 at 001;", 2, HEAD.length() + BIKE.length() + 24);
        stands(HEAD + BIKE + "bike worth 1 seems 1 at 0;bike worth 1 seems 1 at 2;");
        stands(HEAD + LAMP + LAMP + "bike worth 1 seems 1 at 0;");

        doc.says("bright 0 .. 99,");
        bounds(HEAD + "lamp at 0 bright ", ";", 0, 99);
        for (int n : new int[] {0, 99}) doc.is("light(0)", n, Due.rail(HEAD + "lamp at 0 bright " + n + ";").light(0));

        doc.says("price 0 .. 999 each,");
        bounds(HEAD + "lock price ", " cuts 1 1 1;", 0, 999);
        bounds(HEAD + "mark price ", " known 1;", 0, 999);
        for (int n : new int[] {0, 999}) {
            LockRail x = Due.rail(HEAD + "lock price " + n + " cuts 1 1 1;mark price " + (999 - n) + " known 0;bike worth 0 seems 0 at 0;");
            x.option(0, 2);
            doc.is("of the lock", 1000 * n, x.cost(0, 0));
            x.option(0, 1);
            doc.is("of the mark", 1000 * (999 - n), x.cost(0, 0));
        }

        doc.says("cuts (seconds by TOOL 0, 1, 2) 1 .. 999,");
        bounds(HEAD + "lock price 1 cuts ", " 1 1;", 1, 999);
        bounds(HEAD + "lock price 1 cuts 1 ", " 1;", 1, 999);
        bounds(HEAD + "lock price 1 cuts 1 1 ", ";", 1, 999);
        // 100 LIGHT and 1 fear: TROUBLE is the seconds.
        String bright = HEAD + "lamp at 0 bright 99;";
        LockRail cuts = Due.rail(bright + "lock price 1 cuts 1 999 500;lock price 1 cuts 999 2 3;bike worth 1 seems 1 at 0 lock 0;"
            + "thief tool 0 comes 1 fears 1 any;thief tool 1 comes 1 fears 1 any;thief tool 2 comes 1 fears 1 any;");
        int[][] seconds = {{1, 999, 500}, {999, 2, 3}};
        for (int lock = 0; lock < 2; lock++) {
            cuts.option(0, 2 * lock + 2);
            for (int t = 0; t < 3; t++) doc.is("lock " + lock + " by tool " + t, seconds[lock][t], cuts.trouble(t, 0));
        }

        doc.says("worth, seems 0 .. 9999,");
        bounds(HEAD + "bike worth ", " seems 1 at 0;", 0, 9999);
        bounds(HEAD + "bike worth 1 seems ", " at 0;", 0, 9999);
        for (int n : new int[] {0, 9999}) {
            LockRail x = Due.rail(HEAD + "bike worth " + n + " seems " + (9999 - n) + " at 0;");
            doc.is("worth", n, x.bike(0, 0));
            doc.is("seems", 9999 - n, x.bike(0, 1));
        }

        doc.says("L a LOCK told ahead,");
        for (int n = 1; n <= 5; n++) bounds(HEAD + LOCK.repeat(n) + "bike worth 1 seems 1 at 0 lock ", ";", 0, n - 1);
        fault(HEAD + "bike worth 1 seems 1 at 0 lock 0;" + LOCK, 2, HEAD.length() + 31);
        fault(HEAD + LOCK + "bike worth 1 seems 1 at 0 lock 1;" + LOCK, 2, HEAD.length() + LOCK.length() + 31);

        doc.says("tool 0 .. 2,");
        bounds(HEAD + "thief tool ", " comes 1 fears 1 any;", 0, 2);

        doc.says("comes 0 .. 100,");
        bounds(HEAD + "thief tool 0 comes ", " fears 1 any;", 0, 100);
        for (int n : new int[] {0, 100}) doc.is("risk(0)", n * WHOLE / 100, Due.rail(HEAD + BIKE + "thief tool 0 comes " + n + " fears 1 any;").risk(0));

        doc.says("fears 0 .. 99,");
        bounds(HEAD + "thief tool 0 comes 1 fears ", " any;", 0, 99);
        for (int n : new int[] {0, 99}) {
            LockRail x = Due.rail(bright + LOCK + "bike worth 1 seems 1 at 0 lock 0;thief tool 0 comes 1 fears " + n + " any;");
            doc.is("trouble(0, 0)", n, x.trouble(0, 0));
        }

        doc.says("B a BIKE told ahead,");
        for (int n : new int[] {1, 3}) bounds(HEAD + bikes(n) + "thief tool 0 comes 1 fears 1 just ", ";", 0, n - 1);
        bounds("rail places 20 nights 1;" + bikes(10) + "thief tool 0 comes 1 fears 1 just ", ";", 0, 9);
        fault(HEAD + "thief tool 0 comes 1 fears 1 just 0;" + BIKE, 2, HEAD.length() + 34);
        fault(HEAD + BIKE + "thief tool 0 comes 1 fears 1 just 1;" + bikes(1), 2, HEAD.length() + BIKE.length() + 34);

        doc.says("known 0 .. 100,");
        bounds(HEAD + "mark price 1 known ", ";", 0, 100);
        for (int n : new int[] {0, 100}) {
            doc.is("gain(0)", 7 - 7 * n / 100, Due.rail(HEAD + "mark price 1 known " + n + ";bike worth 1 seems 7 at 0 marked;").gain(0));
        }

        doc.says("wage 0 .. 999,");
        bounds(HEAD + "watch wage ", " adds 1;", 0, 999);
        doc.is("of two nights", -2000 * 999, Due.rail(HEAD + "watch wage 999 adds 1;").penny());
        doc.is("of nothing", 0, Due.rail(HEAD + "watch wage 0 adds 1;").penny());

        doc.says("adds 0 .. 99.");
        bounds(HEAD + "watch wage 1 adds ", ";", 0, 99);
        for (int n : new int[] {0, 99}) {
            LockRail x = Due.rail(HEAD + "watch wage 1 adds " + n + ";");
            x.watch(true);
            doc.is("light(2)", n, x.light(2));
        }
    }

    private static void whatIsNumbered() {
        doc.says("LAMPS 0 .. 3, LOCKS 0 .. 4, BIKES 0 .. 9, THIEVES 0 .. 5 are numbered as they stand.");
        StringBuilder full = new StringBuilder("rail places 20 nights 1;");
        for (int i = 0; i < 10; i++) {
            if (i < 4) full.append("lamp at ").append(i).append(" bright ").append(1 << i).append(';');
            if (i < 5) full.append("lock price ").append(10 + i).append(" cuts ").append(100 * (i + 1)).append(" 1 1;");
            full.append("bike worth ").append(200 + i).append(" seems 9 at ").append(19 - i).append(i < 5 ? " lock " + i + ";" : " marked;");
            if (i < 6) full.append("thief tool 0 comes 100 fears ").append(i).append(" just ").append(i).append(';');
        }
        LockRail x = Due.rail(full.toString());
        doc.is("lamps", 4, x.count(2));
        doc.is("locks", 5, x.count(3));
        doc.is("bikes", 10, x.count(4));
        doc.is("thieves", 6, x.count(5));
        doc.is("light(3), by all four lamps", 8 + 3, x.light(3));
        for (int i = 0; i < 10; i++) {
            doc.is("bike " + i, 200 + i, x.bike(i, 0));
            doc.is("its place", 19 - i, x.bike(i, 2));
            doc.is("its lock", i < 5 ? i : -1, x.bike(i, 3));
            doc.is("its price", i < 5 ? 10_000 + 1000 * i : 0, x.cost(i, 0));
        }
        for (int i = 0; i < 6; i++) doc.is("thief " + i, i < 3 || i == 5 ? i : -1, x.takes(i, 0));
        for (int i = 0; i < 5; i++) doc.is("thief 5 at lock " + i, 5 * (i + 1), x.trouble(5, i));

        doc.says("mark, watch once each (price 0 known 0 without; no watchman).");
        stands(HEAD + MARK + WATCH);
        stands(HEAD + WATCH + MARK);
        LockRail without = Due.rail(HEAD + "bike worth 1 seems 9 at 0 marked;");
        doc.is("price without", 0, without.cost(0, 0));
        doc.is("known without", 9, without.gain(0));
        doc.is("no watchman", -2, without.watch(true));
        doc.is("none stands there", 0, without.count(9));
        LockRail behind = Due.rail(HEAD + "bike worth 1 seems 9 at 0 marked;mark price 3 known 100;watch wage 1 adds 4;");
        doc.is("price told behind", 3000, behind.cost(0, 0));
        doc.is("known told behind", 0, behind.gain(0));
        doc.is("a watchman", 0, behind.watch(true));
    }

    private static void tokens() {
        doc.says("TOKENS, blanks (32, 10) aside, the longest: words (a .. z), numbers (digits), the sign ; .");
        for (int b = 0; b < 256; b++) {
            char sign = (char) b;
            boolean blank = b == 32 || b == 10;
            fault(HEAD + sign, blank ? 0 : 1, blank ? -1 : 23);
            fault(HEAD + sign + LAMP, blank ? 0 : 1, blank ? -1 : 23);
            boolean digit = b >= '0' && b <= '9';
            fault("rail places 1" + sign + "nights 1;", blank || digit ? 0 : 1, blank || digit ? -1 : 13);
        }
        stands("rail places1nights1;lamp at0bright9;");
        stands("  rail\n\nplaces 1 nights 1 ; \n");
        fault("railplaces 1 nights 1;", 1, 0);
        fault("rail places 1 nights 1;lam p at 0 bright 5;", 1, 23);
        fault("rail places 1 nights 6 0;", 1, 23);
        doc.is("the longest number", 12, Due.rail("rail places 12nights 1;").count(0));
        fault("rail places 2 1 nights 1;", 1, 14);
    }

    private static void faults() {
        doc.says("FAULTS, the first by its place (a TOKEN's first byte; the end's), of one place the least:");
        fault("rail places 0 nights 0;", 2, 12);
        fault("rail places 0 nights #", 2, 12);
        fault("rail places # nights 0;", 1, 12);
        fault("rail places 1 nights 61", 2, 21);
        fault(HEAD + LAMP.repeat(5) + "lamp at 9", 3, HEAD.length() + 4 * LAMP.length());
        fault(HEAD + LAMP.repeat(3) + "lamp at 9 bright 1;" + LAMP, 2, HEAD.length() + 3 * LAMP.length() + 8);
        fault(HEAD + "abc", 1, 23);
        fault(HEAD + "lamp at 0 bright 12345;", 2, 40);
        fault(HEAD + "lamp", 1, 27);
        fault(HEAD + "lamp  \n", 1, 30);
        fault(HEAD + "lamp at 0", 1, 32);
        fault("r", 1, 0);
        fault("rail", 1, 4);
        fault(HEAD + MARK + "lamp at mark", 1, HEAD.length() + MARK.length() + 8);
        fault(HEAD + LAMP.repeat(4) + "lock price lamp", 1, HEAD.length() + 4 * LAMP.length() + 11);
        fault(HEAD + LAMP.repeat(4) + "lock 999999", 1, HEAD.length() + 4 * LAMP.length() + 5);

        doc.says("1 a TOKEN that is none, or can't stand there (rail behind the first LINE, another word ahead of it).");
        fault("#", 1, 0);
        fault(HEAD + "#", 1, 23);
        fault(HEAD + "lamp at #", 1, 31);
        fault(HEAD + "lamp at -1 bright 5;", 1, 31);
        fault(HEAD + "lamp at 1.5 bright 5;", 1, 32);
        fault(HEAD + "Lamp at 1 bright 5;", 1, 23);
        fault(HEAD + "rail", 1, 23);
        fault(HEAD + "rail places 0", 1, 23);
        fault("rail rail places 1 nights 1;", 1, 5);
        for (String head : new String[] {"lamp", "lock", "bike", "thief", "mark", "watch", "places", "x"}) fault(" " + head + " " + HEAD, 1, 1);
        fault("7 " + HEAD, 1, 0);

        doc.says("2 a number out of its bounds, not as said;");
        fault(HEAD + "lamp at 3 bright 5;", 2, 31);
        fault(HEAD + "bike worth 10000 seems 1 at 0;", 2, 34);
        fault(HEAD + BIKE + "bike worth 1 seems 1 at 1 lock 0;", 2, HEAD.length() + BIKE.length() + 24);
        fault(HEAD + "bike worth 1 seems 1 at 1 lock 0;", 2, 54);
        fault(HEAD + "thief tool 0 comes 1 fears 1 just 0;", 2, 57);

        doc.says("mark, watch told already (at it).");
        fault(HEAD + MARK + MARK, 2, HEAD.length() + MARK.length());
        fault(HEAD + WATCH + WATCH, 2, HEAD.length() + WATCH.length());
        fault(HEAD + MARK + WATCH + "mark #", 2, HEAD.length() + MARK.length() + WATCH.length());
        fault(HEAD + WATCH + MARK + "watch", 2, HEAD.length() + MARK.length() + WATCH.length());
        fault(HEAD + "mark price 1 known 1 mark", 1, HEAD.length() + 21);

        doc.says("3 a 5th lamp, a 6th lock, an 11th bike, a 7th thief, at its word.");
        many(LAMP, 4, "lamp");
        many(LOCK, 5, "lock");
        many(THIEF, 6, "thief");
        String head = "rail places 20 nights 1;" + bikes(10);
        stands(head);
        fault(head + "bike worth 1 seems 1 at 10;", 3, head.length());
        fault(head + "bike worth 99999", 3, head.length());
        fault(head + "bike", 3, head.length());
    }

    private static void many(String line, int most, String word) {
        String full = HEAD + line.repeat(most);
        stands(full);
        fault(full + line, 3, full.length());
        fault(full + " " + word, 3, full.length() + 1);
        fault(full + word + " #", 3, full.length());
        fault(full + BIKE + word, 3, full.length() + BIKE.length());
    }

    private static void slots() {
        doc.says("SLOTS 0 .. 3 have rows of numbers of 1, 2, 4 or 8 bytes (WIDTH 0 .. 3), at most 60, or nothing.");
        LockRail x = Due.rail("rail places 1 nights 60;bike worth 1 seems 1 at 0;thief tool 0 comes 1 fears 0 any;");
        for (int slot = 0; slot < 4; slot++) doc.is("nothing yet in " + slot, -6, x.write(slot, 0, 1));
        for (int slot = 0; slot < 4; slot++) {
            int width = 3 - slot;
            doc.is("row(" + slot + ")", 0, x.row(slot, width, 60));
            doc.is("the last number", 0, x.write(slot, 59, 1));
            doc.is("none behind it", -7, x.write(slot, 60, 1));
            doc.is("the first number", 0, x.write(slot, 0, 1));
            doc.is("both are told", 2, x.told(slot));
            int bits = 8 << width;
            x.write(slot, 0, 1L << bits - 1);
            doc.is("the highest bit of its bytes", -2, x.told(slot));
            x.write(slot, 0, bits < 64 ? 1L << bits : 0);
            doc.is("a bit above them", 1, x.told(slot));
            doc.is("count(12)", slot + 1, x.count(12));
        }
        doc.is("row of 61", -2, x.row(0, 3, 61));
        doc.is("slot 4", -2, x.row(4, 0, 1));
        doc.is("slot -1", -2, x.row(-1, 0, 1));
    }

    // promise 1
    private static void newObject() {
        doc.of("1");
        doc.says("No RAIL.");
        LockRail x = new LockRail();
        for (int what = 0; what <= 12; what++) doc.is("count(" + what + ")", 0, x.count(what));
        doc.is("part(0)", -2, x.part(0));
        doc.is("all(2)", -2, x.all(2));
        doc.is("light(0)", -2, x.light(0));
        doc.is("law(NONE)", -2, x.law(LockRail.NONE));
        doc.is("NONE", -1, LockRail.NONE);
        for (int slot = 0; slot < 4; slot++) doc.is("slot " + slot, -6, x.write(slot, 0, 0));
        for (int image = 0; image < 3; image++) doc.is("image " + image, -6, x.back(image));
        doc.is("rail()", 0, x.rail());
    }

    // promise 2
    private static void feed() {
        doc.of("2");
        doc.says("Twenty bytes come behind the TAPE,");
        LockRail x = new LockRail();
        x.feed(0x7261696C, 0x20706C61, 0x63657320, 0x31206E69, 0x67687473);
        x.feed(0x20363B20, 0x20202020, 0x20202020, 0x20202020, 0x20202023);
        doc.is("a text over two calls", -4, x.rail());
        doc.is("its last byte", 39, x.fault(1));

        doc.says("four of each number, the highest first:");
        for (int at = 0; at < 20; at++) {
            int[] five = new int[5];
            for (int i = 0; i < 20; i++) five[i / 4] |= (i < at ? ' ' : i == at ? 0x80 + at : 0xFF) << 24 - 8 * (i % 4);
            LockRail y = new LockRail();
            y.feed(five[0], five[1], five[2], five[3], five[4]);
            y.rail();
            doc.is("byte " + at + " is the first that is no blank", at, y.fault(1));
        }

        doc.says("how many it has;");
        LockRail y = new LockRail();
        for (int i = 1; i <= 80; i++) doc.is("feed " + i, 20 * i, y.feed(-1, 0, 1, Integer.MIN_VALUE, Integer.MAX_VALUE));
        y.end(7);
        doc.is("behind seven", 27, y.feed(0, 0, 0, 0, 0));
        y.rail();
        doc.is("behind none", 20, y.feed(0, 0, 0, 0, 0));

        doc.says("NONE, and none come, if it would have more than 1,600.");
        LockRail z = new LockRail();
        for (int i = 1; i <= 80; i++) z.feed(0x20202020, 0x20202020, 0x20202020, 0x20202020, 0x20202020);
        doc.is("full", -1, z.feed(0x23232323, 0, 0, 0, 0));
        doc.is("as many as before", 1600, z.count(7));
        z.end(1581);
        doc.is("room for 19", -1, z.feed(0x23232323, 0, 0, 0, 0));
        doc.is("none came", 1581, z.count(7));
        doc.is("all blank", 0, z.rail());
        for (int i = 1; i <= 80; i++) z.feed(0x20202020, 0x20202020, 0x20202020, 0x20202020, 0x20202020);
        z.end(1580);
        doc.is("room for 20", 1600, z.feed(0x20202020, 0x20202020, 0x20202020, 0x20202020, 0x20202023));
        doc.is("all of them came", -4, z.rail());
        doc.is("the last byte", 1599, z.fault(1));
        for (int i = 1; i <= 80; i++) z.feed(0x20202020, 0x20202020, 0x20202020, 0x20202020, 0x20202072);
        z.rail();
        doc.is("a full tape is read", 19, z.fault(1));
    }

    // promise 3
    private static void end() {
        doc.of("3");
        doc.says("The TAPE has its first n bytes alone: n;");
        LockRail x = new LockRail();
        Due.feed(x, HEAD + "##");
        doc.is("end(23)", 23, x.end(23));
        doc.is("count(7)", 23, x.count(7));
        doc.is("without what stood behind", 1, x.rail());
        Due.feed(x, HEAD + "##");
        doc.is("end(25), all of it", 25, x.end(25));
        doc.is("with it", -4, x.rail());
        doc.is("end(0) of none", 0, x.end(0));
        Due.feed(x, HEAD + "##");
        doc.is("end(0)", 0, x.end(0));
        doc.is("an empty text", 0, x.rail());
        Due.feed(x, HEAD + "##");
        x.end(23);
        x.feed(0x6C616D70, 0x20617420, 0x30206272, 0x69676874, 0x20353B20);
        doc.is("the next come in their place", 2, x.rail());

        doc.says("NONE, and nothing happens, if it has not so many,");
        Due.feed(x, HEAD);
        doc.is("end(24)", -1, x.end(24));
        doc.is("end of the most", -1, x.end(Integer.MAX_VALUE));
        doc.is("count(7)", 23, x.count(7));
        doc.is("rail()", 1, x.rail());
        doc.is("end(1) of none", -1, x.end(1));

        doc.says("or n is below 0.");
        Due.feed(x, HEAD);
        doc.is("end(-1)", -1, x.end(-1));
        doc.is("end of the least", -1, x.end(Integer.MIN_VALUE));
        doc.is("count(7)", 23, x.count(7));
        doc.is("rail()", 1, x.rail());
    }

    // promise 4
    private static void rail() {
        String whole = HEAD + LAMP + LOCK + BIKE + THIEF + MARK + "watch wage 1 adds 9;";
        doc.of("4");
        doc.says("The TAPE (empty then) is the RAIL");
        LockRail x = new LockRail();
        Due.feed(x, whole);
        doc.is("count(7)", whole.length(), x.count(7));
        doc.is("rail()", 7, x.rail());
        doc.is("count(7) then", 0, x.count(7));
        doc.is("places", 3, x.count(0));

        doc.says("(in place of another):");
        Due.feed(x, "rail places 2 nights 1;bike worth 5 seems 9 at 0 marked;thief tool 1 comes 100 fears 99 any;");
        doc.is("rail()", 3, x.rail());
        int[] counts = {2, 1, 0, 0, 1, 1, 3, 0, 1, 0, 2, 0, 0};
        for (int what = 0; what <= 12; what++) doc.is("count(" + what + ")", counts[what], x.count(what));
        doc.is("no lamp of the other", 0, x.light(0));
        doc.is("no lock of the other", -2, x.option(0, 2));
        doc.is("no mark of the other", 9, x.gain(0));
        doc.is("no price of the other", 0, x.cost(0, 0));
        doc.is("no watchman of the other", -2, x.watch(true));
        doc.is("one thief", 1_000_000_000_000L, x.has(0, 0));
        Due.feed(x, HEAD + "mark price 1 known 90 hidden;");
        x.rail();
        Due.feed(x, HEAD + "bike worth 1 seems 9 at 0;bike worth 1 seems 9 at 1 marked;mark price 1 known 50;");
        x.rail();
        doc.is("no hidden marks of the other", 9, x.gain(0));
        x.rail();
        for (int what = 0; what <= 12; what++) doc.is("none in its place: count(" + what + ")", 0, x.count(what));
        doc.is("no RAIL: part(0)", -2, x.part(0));
        doc.is("no RAIL: light(0)", -2, x.light(0));
        doc.is("no RAIL: bike(0, 0)", -2, x.bike(0, 0));

        doc.says("how many LINES;");
        StringBuilder full = new StringBuilder("rail places 20 nights 60;" + bikes(10) + MARK + WATCH);
        full.append(LAMP.repeat(4)).append(LOCK.repeat(5)).append(THIEF.repeat(6));
        String[] texts = {"", "\n \n", HEAD, HEAD + LAMP, HEAD + WATCH + LAMP, full.toString()};
        int[] lines = {0, 0, 1, 2, 3, 28};
        for (int i = 0; i < texts.length; i++) {
            Due.feed(x, texts[i]);
            doc.is("rail() of " + texts[i], lines[i], x.rail());
            doc.is("count(6)", lines[i], x.count(6));
        }

        doc.says("no watchman stands there, there is no YEAR then.");
        for (String text : new String[] {whole, HEAD, ""}) {
            LockRail y = Due.rail(whole);
            y.watch(true);
            y.run(1);
            y.penny();
            Due.feed(y, text);
            y.rail();
            doc.is("count(9)", 0, y.count(9));
            doc.is("count(11)", 0, y.count(11));
            doc.is("light(1)", text.equals(whole) ? 4 : text.isEmpty() ? -2 : 0, y.light(1));
            doc.is("taken(0)", text.equals(whole) ? -1 : -2, y.taken(0));
        }

        doc.says("-4: a FAULT (all stays).");
        for (String text : new String[] {"#", "lamp", "rail places 1 nights 1", HEAD + "rail", HEAD + MARK + MARK, HEAD + LAMP.repeat(5),
            "rail places 2 nights 1;bike worth 5 seems 9 at 0 marked;watch wage 2 adds 2;mark price 9 known 90 hidden;lamp at 2"}) {
            LockRail y = Due.rail(whole);
            y.watch(true);
            y.option(0, 3);
            y.move(0, 2);
            y.run(7);
            y.row(1, 2, 3);
            y.keep(1);
            String before = Sentences.look(y);
            long cost = y.all(2);
            Due.feed(y, text);
            doc.is("rail()", -4, y.rail());
            doc.is("a fault", 1, y.fault(0) > 0 ? 1 : 0);
            doc.same("what is seen", before, Sentences.look(y).replaceAll("fault \\d \\d+", "fault 0 -1"));
            doc.is("all(2)", cost, y.all(2));
            doc.is("the image", 0, y.back(1));
            doc.is("the row", 0, y.write(1, 2, 0));
        }
    }

    // promise 5
    private static void faultCall() {
        doc.of("5");
        doc.says("Of the latest rail(), what 0: its FAULT, 0 without,");
        LockRail x = new LockRail();
        String[] texts = {"#", "rail places 0", HEAD + LAMP.repeat(4) + "lamp", HEAD, ""};
        int[] which = {1, 2, 3, 0, 0};
        int[] at = {0, 12, 99, -1, -1};
        for (int i = 0; i < texts.length; i++) {
            Due.feed(x, texts[i]);
            x.rail();
            doc.is("fault(0)", which[i], x.fault(0));
            doc.is("fault(0) again", which[i], x.fault(0));
        }
        Due.feed(x, "#");
        x.rail();
        x.keep(0);
        x.back(0);
        Due.feed(x, HEAD);
        doc.is("till the next rail()", 1, x.fault(0));
        x.rail();
        doc.is("of the latest", 0, x.fault(0));

        doc.says("1: its place (NONE without).");
        for (int i = 0; i < texts.length; i++) {
            Due.feed(x, texts[i]);
            x.rail();
            doc.is("fault(1)", at[i], x.fault(1));
        }

        doc.says("NONE for another what,");
        for (int what : new int[] {-1, 2, 3, Integer.MAX_VALUE, Integer.MIN_VALUE}) {
            doc.is("ahead of any", -1, new LockRail().fault(what));
            Due.feed(x, "rail places 0");
            x.rail();
            doc.is("with a fault", -1, x.fault(what));
        }

        doc.says("and ahead of any (what 1).");
        doc.is("fault(1)", -1, new LockRail().fault(1));
        doc.is("fault(0)", 0, new LockRail().fault(0));
    }
}
