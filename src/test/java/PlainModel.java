import java.math.BigInteger;
import java.util.ArrayList;
import java.util.Arrays;
import java.util.Comparator;
import java.util.HashMap;
import java.util.HashSet;
import java.util.List;
import java.util.Map;
import java.util.Set;
import java.util.function.IntToLongFunction;
import java.util.function.Supplier;
import java.util.regex.Matcher;
import java.util.regex.Pattern;

/**
 * The document told once more, as plainly as it can be and with the whole Java library: big
 * numbers, maps, copies of everything, every choice tried. LockRail must answer as this does.
 */
public final class PlainModel {
    static final long NOTHING = -1_000_000_000_000L;

    static final class Bike {
        int worth, seems, place, lock = -1;
        boolean marked;

        Bike copy() {
            Bike b = new Bike();
            b.worth = worth; b.seems = seems; b.place = place; b.lock = lock; b.marked = marked;
            return b;
        }
    }

    record Lamp(int place, int bright) { }
    record Lock(int price, List<Integer> cuts) { }
    record Thief(int tool, int comes, int fears, String kind, int just) { }
    record State(Set<Integer> gone, Set<Integer> caught) { }

    static final class World {
        int places, nights, lines;
        List<Lamp> lamps = new ArrayList<>();
        List<Lock> locks = new ArrayList<>();
        List<Bike> bikes = new ArrayList<>();
        List<Thief> thieves = new ArrayList<>();
        int markPrice, known, wage, adds;
        boolean hidden, watchTold, watched;
        int[] taken, took;

        World copy() {
            World w = new World();
            w.places = places; w.nights = nights; w.lines = lines;
            w.lamps = new ArrayList<>(lamps);
            w.locks = new ArrayList<>(locks);
            for (Bike b : bikes) w.bikes.add(b.copy());
            w.thieves = new ArrayList<>(thieves);
            w.markPrice = markPrice; w.known = known; w.wage = wage; w.adds = adds;
            w.hidden = hidden; w.watchTold = watchTold; w.watched = watched;
            w.taken = taken == null ? null : taken.clone();
            w.took = took == null ? null : took.clone();
            return w;
        }

        int options() { return lines == 0 ? 0 : 2 + 2 * locks.size(); }

        int light(int place) {
            int sum = 0;
            for (Lamp l : lamps) {
                int here = l.bright - Math.abs(l.place - place);
                if (here > 0) sum += here;
            }
            return watched ? sum + adds : sum;
        }

        int trouble(Thief t, Bike b) {
            int seconds = b.lock < 0 ? 0 : locks.get(b.lock).cuts.get(t.tool);
            return BigInteger.valueOf(seconds).multiply(BigInteger.valueOf(t.fears))
                .multiply(BigInteger.valueOf(1 + light(b.place))).divide(BigInteger.valueOf(100)).intValueExact();
        }

        int gain(Bike b) {
            if (hidden) {
                long marked = bikes.stream().filter(x -> x.marked).count();
                long all = 100L * bikes.size();
                return (int) (b.seems * (all - known * marked) / all);
            }
            return b.marked ? b.seems * (100 - known) / 100 : b.seems;
        }

        int net(Thief t, Bike b) { return gain(b) - trouble(t, b); }

        /** The BIKE's number; bikes.size() is the BAIT; NONE. */
        int takes(Thief t, Set<Integer> gone, int baitSeems) {
            int found = -1;
            int foundNet = 0, foundTrouble = 0;
            int choices = bikes.size() + (baitSeems >= 0 ? 1 : 0);
            for (int i = 0; i < choices; i++) {
                boolean bait = i == bikes.size();
                if (gone.contains(i)) continue;
                int trouble = bait ? 0 : trouble(t, bikes.get(i));
                int net = bait ? baitSeems : net(t, bikes.get(i));
                if (net <= 0) continue;
                boolean better;
                if (t.kind.equals("just")) better = !bait && t.just == i;
                else if (t.kind.equals("best")) better = found < 0 || net > foundNet;
                else better = found < 0 || trouble < foundTrouble;
                if (better) { found = i; foundNet = net; foundTrouble = trouble; }
            }
            return found;
        }

        int takes(int t, Set<Integer> gone) { return takes(thieves.get(t), gone, -1); }

        static long cut(long parts, long times, long by) {
            return BigInteger.valueOf(parts).multiply(BigInteger.valueOf(times)).divide(BigInteger.valueOf(by)).longValueExact();
        }

        /** PARTS by SETS behind all THIEVES; what each had is added to the given table. */
        Map<Set<Integer>, Long> night(long[][] had) {
            Map<Set<Integer>, Long> now = new HashMap<>();
            now.put(Set.of(), 1_000_000_000_000L);
            for (int t = 0; t < thieves.size(); t++) {
                Map<Set<Integer>, Long> then = new HashMap<>();
                for (Map.Entry<Set<Integer>, Long> e : now.entrySet()) {
                    long come = cut(e.getValue(), thieves.get(t).comes, 100);
                    Set<Integer> after = new HashSet<>(e.getKey());
                    int taken = takes(t, e.getKey());
                    if (taken >= 0) {
                        after.add(taken);
                        if (had != null) had[t][taken] += come;
                    }
                    then.merge(after, come, Long::sum);
                    then.merge(e.getKey(), e.getValue() - come, Long::sum);
                }
                now = then;
            }
            return now;
        }

        long risk(int b) {
            long sum = 0;
            for (Map.Entry<Set<Integer>, Long> e : night(null).entrySet()) {
                if (e.getKey().contains(b)) sum += e.getValue();
            }
            return sum;
        }

        long[] risks() {
            long[] risks = new long[bikes.size()];
            for (Map.Entry<Set<Integer>, Long> e : night(null).entrySet()) {
                for (int b : e.getKey()) risks[b] += e.getValue();
            }
            return risks;
        }

        long paid(int b) {
            Bike x = bikes.get(b);
            long price = x.lock < 0 ? 0 : locks.get(x.lock).price;
            return 1000 * price + (x.marked ? 1000L * markPrice : 0);
        }

        long loss(int b, long risk) {
            return BigInteger.valueOf(nights).multiply(BigInteger.valueOf(bikes.get(b).worth))
                .multiply(BigInteger.valueOf(risk)).divide(BigInteger.valueOf(1_000_000_000L)).longValueExact();
        }

        long cost(int b, int what, long risk) {
            if (what == 0) return paid(b);
            if (what == 1) return loss(b, risk);
            return paid(b) + loss(b, risk) + (watched ? 1000L * wage * nights / bikes.size() : 0);
        }

        long cost(int b, int what) { return cost(b, what, risk(b)); }

        long all(int what) {
            long[] risks = risks();
            long sum = 0;
            for (int b = 0; b < bikes.size(); b++) sum += cost(b, what, risks[b]);
            return sum;
        }

        int option(int b) { return 2 * (bikes.get(b).lock + 1) + (bikes.get(b).marked ? 1 : 0); }

        World with(int b, int option) {
            World w = copy();
            w.bikes.get(b).lock = option / 2 - 1;
            w.bikes.get(b).marked = option % 2 == 1;
            return w;
        }

        int best(int b) { return leastOf(0, options(), o -> with(b, o).cost(b, 2)); }

        /** Rounds till one changes nothing, or -1; this world is changed. */
        int settle(int most) {
            for (int round = 1; round <= most; round++) {
                boolean changed = false;
                for (int b = 0; b < bikes.size(); b++) {
                    int o = best(b);
                    World w = with(b, o);
                    if (w.cost(b, 2) < cost(b, 2)) {
                        bikes = w.bikes;
                        changed = true;
                    }
                }
                if (!changed) return round;
            }
            return -1;
        }

        int better(int most) {
            int changes = 0;
            while (changes < most) {
                long now = all(2);
                World found = null;
                long least = now;
                for (int b = 0; b < bikes.size(); b++) {
                    for (int o = 0; o < options(); o++) {
                        if (o == option(b)) continue;
                        World w = with(b, o);
                        long there = w.all(2);
                        if (there < least) { least = there; found = w; }
                    }
                }
                if (found == null) break;
                bikes = found.bikes;
                changes++;
            }
            return changes;
        }

        /** {loss of all, parts caught of each thief}. */
        long[] baited(int seems, int caught) {
            Map<State, Long> now = new HashMap<>();
            now.put(new State(Set.of(), Set.of()), 1_000_000_000_000L);
            BigInteger loss = BigInteger.ZERO;
            for (int n = 0; n < nights; n++) {
                for (int t = 0; t < thieves.size(); t++) {
                    Map<State, Long> then = new HashMap<>();
                    for (Map.Entry<State, Long> e : now.entrySet()) {
                        State s = e.getKey();
                        long parts = e.getValue();
                        // A THIEF has his own turn once a NIGHT, so who is caught was caught ahead.
                        if (s.caught.contains(t)) {
                            then.merge(s, parts, Long::sum);
                            continue;
                        }
                        long come = cut(parts, thieves.get(t).comes, 100);
                        then.merge(s, parts - come, Long::sum);
                        int taken = takes(thieves.get(t), s.gone, seems);
                        if (taken < 0) {
                            then.merge(s, come, Long::sum);
                            continue;
                        }
                        Set<Integer> gone = new HashSet<>(s.gone);
                        gone.add(taken);
                        long inHand = 0;
                        if (taken == bikes.size()) {
                            inHand = cut(come, caught, 100);
                            Set<Integer> more = new HashSet<>(s.caught);
                            more.add(t);
                            then.merge(new State(gone, more), inHand, Long::sum);
                        }
                        then.merge(new State(gone, s.caught), come - inHand, Long::sum);
                    }
                    now = then;
                }
                Map<State, Long> morning = new HashMap<>();
                for (Map.Entry<State, Long> e : now.entrySet()) {
                    for (int b : e.getKey().gone) {
                        if (b < bikes.size()) {
                            loss = loss.add(BigInteger.valueOf(e.getValue()).multiply(BigInteger.valueOf(bikes.get(b).worth)));
                        }
                    }
                    morning.merge(new State(Set.of(), e.getKey().caught), e.getValue(), Long::sum);
                }
                now = morning;
            }
            long[] answer = new long[1 + thieves.size()];
            answer[0] = loss.divide(BigInteger.valueOf(1_000_000_000L)).longValueExact();
            for (Map.Entry<State, Long> e : now.entrySet()) {
                for (int t : e.getKey().caught) answer[1 + t] += e.getValue();
            }
            return answer;
        }

        int year(List<Integer> come) {
            taken = new int[bikes.size()];
            took = new int[thieves.size()];
            for (int bits : come) {
                Set<Integer> gone = new HashSet<>();
                for (int t = 0; t < thieves.size(); t++) {
                    if ((bits & 1 << t) == 0) continue;
                    int b = takes(t, gone);
                    if (b >= 0) { gone.add(b); taken[b]++; took[t]++; }
                }
            }
            return Arrays.stream(taken).sum();
        }

        int drawn(long seed) {
            BigInteger x = BigInteger.valueOf(seed);
            List<Integer> come = new ArrayList<>();
            for (int n = 0; n < nights; n++) {
                int bits = 0;
                for (int t = 0; t < thieves.size(); t++) {
                    x = x.multiply(BigInteger.valueOf(1103515245L)).add(BigInteger.valueOf(12345)).mod(BigInteger.valueOf(2147483648L));
                    if (x.intValueExact() / 65536 % 100 < thieves.get(t).comes) bits |= 1 << t;
                }
                come.add(bits);
            }
            return year(come);
        }
    }

    /** The number from..to-1 by which something is least, the first of several. */
    static int leastOf(int from, int to, IntToLongFunction of) {
        int found = from;
        long least = Long.MAX_VALUE;
        for (int i = from; i < to; i++) {
            long v = of.applyAsLong(i);
            if (v < least) { least = v; found = i; }
        }
        return found;
    }

    static final class Row {
        int width;
        long[] numbers;
    }

    World w = new World();
    StringBuilder tape = new StringBuilder();
    int fault = 0, faultAt = -1;
    World[] images = new World[3];
    Row[] rows = new Row[4];

    public int feed(int a, int b, int c, int d, int e) {
        if (tape.length() + 20 > 1600) return -1;
        for (int v : new int[] {a, b, c, d, e}) {
            for (int s = 24; s >= 0; s -= 8) tape.append((char) (v >> s & 255));
        }
        return tape.length();
    }

    public int end(int n) {
        if (n < 0 || n > tape.length()) return -1;
        tape.setLength(n);
        return n;
    }

    private static final class Fault extends RuntimeException {
        private static final long serialVersionUID = 1;
        final int which, at;

        Fault(int which, int at) {
            super(null, null, false, false);
            this.which = which;
            this.at = at;
        }
    }

    /** The text cut into TOKENS by a pattern, and each LINE held against its form. */
    private static final class Text {
        final List<String> tokens = new ArrayList<>();
        final List<Integer> places = new ArrayList<>();
        int i = 0;

        Text(String text) {
            Matcher m = Pattern.compile("[a-z]+|[0-9]+|[^ \n]", Pattern.DOTALL).matcher(text);
            while (m.find()) { tokens.add(m.group()); places.add(m.start()); }
            tokens.add("");
            places.add(text.length());
        }

        String token() { return tokens.get(i); }

        Fault bad(int which) { return new Fault(which, places.get(i)); }

        void word(String word) {
            if (!token().equals(word)) throw bad(1);
            i++;
        }

        boolean maybe(String word) {
            if (!token().equals(word)) return false;
            i++;
            return true;
        }

        int number(int least, int most, Set<Integer> but) {
            if (!token().matches("[0-9]+")) throw bad(1);
            BigInteger v = new BigInteger(token());
            if (v.bitLength() > 30 || v.intValue() < least || v.intValue() > most || but.contains(v.intValue())) throw bad(2);
            i++;
            return v.intValue();
        }

        int number(int least, int most) { return number(least, most, Set.of()); }
    }

    private static World read(String string) {
        Text t = new Text(string);
        World w = new World();
        boolean markTold = false;
        while (!t.token().isEmpty()) {
            String head = t.token();
            if (w.lines == 0 != head.equals("rail")) throw t.bad(1);
            switch (head) {
                case "rail" -> {
                    t.i++;
                    t.word("places"); w.places = t.number(1, 20);
                    t.word("nights"); w.nights = t.number(1, 60);
                }
                case "lamp" -> {
                    if (w.lamps.size() == 4) throw t.bad(3);
                    t.i++;
                    t.word("at"); int p = t.number(0, w.places - 1);
                    t.word("bright"); w.lamps.add(new Lamp(p, t.number(0, 99)));
                }
                case "lock" -> {
                    if (w.locks.size() == 5) throw t.bad(3);
                    t.i++;
                    t.word("price"); int price = t.number(0, 999);
                    t.word("cuts");
                    w.locks.add(new Lock(price, List.of(t.number(1, 999), t.number(1, 999), t.number(1, 999))));
                }
                case "bike" -> {
                    if (w.bikes.size() == 10) throw t.bad(3);
                    t.i++;
                    Bike b = new Bike();
                    Set<Integer> full = new HashSet<>();
                    for (Bike x : w.bikes) full.add(x.place);
                    t.word("worth"); b.worth = t.number(0, 9999);
                    t.word("seems"); b.seems = t.number(0, 9999);
                    t.word("at"); b.place = t.number(0, w.places - 1, full);
                    if (t.maybe("lock")) b.lock = t.number(0, w.locks.size() - 1);
                    b.marked = t.maybe("marked");
                    w.bikes.add(b);
                }
                case "thief" -> {
                    if (w.thieves.size() == 6) throw t.bad(3);
                    t.i++;
                    t.word("tool"); int tool = t.number(0, 2);
                    t.word("comes"); int comes = t.number(0, 100);
                    t.word("fears"); int fears = t.number(0, 99);
                    String kind = t.token();
                    if (!Set.of("best", "any", "just").contains(kind)) throw t.bad(1);
                    t.i++;
                    int just = kind.equals("just") ? t.number(0, w.bikes.size() - 1) : -1;
                    w.thieves.add(new Thief(tool, comes, fears, kind, just));
                }
                case "mark" -> {
                    if (markTold) throw t.bad(2);
                    t.i++;
                    markTold = true;
                    t.word("price"); w.markPrice = t.number(0, 999);
                    t.word("known"); w.known = t.number(0, 100);
                    w.hidden = t.maybe("hidden");
                }
                case "watch" -> {
                    if (w.watchTold) throw t.bad(2);
                    t.i++;
                    w.watchTold = true;
                    t.word("wage"); w.wage = t.number(0, 999);
                    t.word("adds"); w.adds = t.number(0, 99);
                }
                default -> throw t.bad(1);
            }
            t.word(";");
            w.lines++;
        }
        return w;
    }

    public int rail() {
        String text = tape.toString();
        tape.setLength(0);
        try {
            w = read(text);
            fault = 0;
            faultAt = -1;
            return w.lines;
        } catch (Fault f) {
            fault = f.which;
            faultAt = f.at;
            return -4;
        }
    }

    public int fault(int what) { return what == 0 ? fault : what == 1 ? faultAt : -1; }

    private boolean noRail() { return w.lines == 0; }
    private boolean in(int v, int size) { return v >= 0 && v < size; }
    private boolean noBike(int b) { return !in(b, w.bikes.size()); }
    private boolean noThief(int t) { return !in(t, w.thieves.size()); }
    private boolean noPlace(int p) { return !in(p, w.places); }
    private boolean noOption(int o) { return !in(o, w.options()); }

    private Set<Integer> set(int bits) {
        Set<Integer> s = new HashSet<>();
        for (int i = 0; i < 31; i++) if ((bits >> i & 1) == 1) s.add(i);
        return s;
    }

    public int light(int place) { return noPlace(place) ? -2 : w.light(place); }

    public int bike(int b, int what) {
        if (noBike(b) || !in(what, 5)) return -2;
        Bike x = w.bikes.get(b);
        return new int[] {x.worth, x.seems, x.place, x.lock, x.marked ? 1 : 0}[what];
    }

    public int trouble(int t, int b) { return noThief(t) || noBike(b) ? -2 : w.trouble(w.thieves.get(t), w.bikes.get(b)); }
    public int gain(int b) { return noBike(b) ? -2 : w.gain(w.bikes.get(b)); }
    public int takes(int t, int gone) { return noThief(t) || gone < 0 || gone >= 1 << w.bikes.size() ? -2 : w.takes(t, set(gone)); }

    public int wants(int t) {
        return noThief(t) ? -2 : (int) w.bikes.stream().filter(b -> w.net(w.thieves.get(t), b) > 0).count();
    }

    public long part(int set) {
        if (noRail() || set < 0 || set >= 1 << w.bikes.size()) return -2;
        return w.night(null).getOrDefault(set(set), 0L);
    }

    public long many(int n) {
        if (noRail() || !in(n, w.bikes.size() + 1)) return -2;
        return w.night(null).entrySet().stream().filter(e -> e.getKey().size() == n).mapToLong(Map.Entry::getValue).sum();
    }

    public long risk(int b) { return noBike(b) ? -2 : w.risk(b); }

    public long has(int t, int b) {
        if (noThief(t) || noBike(b)) return -2;
        long[][] had = new long[6][10];
        w.night(had);
        return had[t][b];
    }

    public long cost(int b, int what) { return noBike(b) || !in(what, 3) ? -2 : w.cost(b, what); }
    public long all(int what) { return noRail() || !in(what, 3) ? -2 : w.all(what); }

    public int option(int b, int o) {
        if (noBike(b) || noOption(o)) return -2;
        int had = w.option(b);
        w = w.with(b, o);
        return had;
    }

    public long would(int b, int o) { return noBike(b) || noOption(o) ? -2 : w.with(b, o).cost(b, 2); }
    public int best(int b) { return noBike(b) ? -2 : w.best(b); }

    public int restless() {
        if (noRail()) return -2;
        int n = 0;
        for (int b = 0; b < w.bikes.size(); b++) if (w.with(b, w.best(b)).cost(b, 2) < w.cost(b, 2)) n++;
        return n;
    }

    public int settle(int n) {
        if (noRail() || n < 0 || n > 30) return -2;
        int rounds = w.settle(n);
        return rounds < 0 ? n : rounds;
    }

    public int settles() { return noRail() ? -2 : w.copy().settle(30); }

    public long settled() {
        if (noRail()) return -2;
        World c = w.copy();
        return c.settle(30) < 0 ? -1 : c.all(2);
    }

    public int better(int n) { return noRail() || n < 0 || n > 60 ? -2 : w.better(n); }

    public long good() {
        if (noRail()) return -2;
        World c = w.copy();
        c.better(60);
        return c.all(2);
    }

    public int pair(int one, int other) {
        if (noBike(one) || noBike(other) || one == other) return -2;
        int os = w.options();
        int found = leastOf(0, os * os, i -> {
            World c = w.with(one, i / os).with(other, i % os);
            return c.cost(one, 2) + c.cost(other, 2);
        });
        return 100 * (found / os) + found % os;
    }

    public long wasted() {
        if (noRail()) return NOTHING;
        World c = w;
        for (int b = 0; b < w.bikes.size(); b++) c = c.with(b, 0);
        return w.all(2) - c.all(2);
    }

    public long beside(int b, int o, int other) {
        if (noBike(b) || noBike(other) || b == other || noOption(o)) return NOTHING;
        return w.with(b, o).risk(other) - w.risk(other);
    }

    public int worse(int b, int o) {
        if (noBike(b) || noOption(o)) return -2;
        int n = 0;
        for (int x = 0; x < w.bikes.size(); x++) if (x != b && beside(b, o, x) > 0) n++;
        return n;
    }

    public int next(int b, int o) {
        if (noBike(b) || noOption(o)) return -2;
        int found = leastOf(0, w.bikes.size(), x -> x == b ? 0 : -beside(b, o, x));
        return found != b && beside(b, o, found) > 0 ? found : -1;
    }

    private int standing(int place) {
        for (int b = 0; b < w.bikes.size(); b++) if (w.bikes.get(b).place == place) return b;
        return -1;
    }

    public int move(int b, int place) {
        if (noBike(b) || noPlace(place)) return -2;
        int there = standing(place);
        if (there >= 0 && there != b) return -5;
        int was = w.bikes.get(b).place;
        w.bikes.get(b).place = place;
        return was;
    }

    public int swap(int one, int other) {
        if (noBike(one) || noBike(other) || one == other) return -2;
        long before = w.all(1);
        int p = w.bikes.get(one).place;
        w.bikes.get(one).place = w.bikes.get(other).place;
        w.bikes.get(other).place = p;
        return w.all(1) < before ? 1 : 0;
    }

    public int where(int b) {
        if (noBike(b)) return -2;
        return leastOf(0, w.places, p -> {
            if (standing(p) >= 0 && standing(p) != b) return Long.MAX_VALUE;
            World c = w.copy();
            c.bikes.get(b).place = p;
            return c.cost(b, 2);
        });
    }

    public int lamp(int bright) { return noRail() || !in(bright, 100) ? -2 : leastOf(0, w.places, p -> lit(p, bright)); }

    public long lit(int place, int bright) {
        if (noPlace(place) || !in(bright, 100)) return -2;
        World c = w.copy();
        c.lamps.add(new Lamp(place, bright));
        return c.all(1);
    }

    public int watch(boolean there) {
        if (!w.watchTold) return -2;
        int was = w.watched ? 1 : 0;
        w.watched = there;
        return was;
    }

    private World watched(boolean there) {
        World c = w.copy();
        c.watched = there;
        return c;
    }

    public long penny() {
        return !w.watchTold ? NOTHING : watched(false).all(1) - watched(true).all(1) - 1000L * w.wage * w.nights;
    }

    public int enough() {
        if (!w.watchTold) return -2;
        List<Long> less = new ArrayList<>();
        for (int b = 0; b < w.bikes.size(); b++) less.add(watched(false).cost(b, 1) - watched(true).cost(b, 1));
        less.sort(Comparator.reverseOrder());
        for (int n = 0; n <= less.size(); n++) {
            if (less.subList(0, n).stream().mapToLong(x -> x).sum() >= 1000L * w.wage * w.nights) return n;
        }
        return -1;
    }

    public int marks() {
        if (noRail()) return -2;
        for (int k = 0; k <= w.bikes.size(); k++) {
            World c = w.copy();
            for (int b = 0; b < w.bikes.size(); b++) c.bikes.get(b).marked = b < k;
            boolean wanted = false;
            for (Thief t : c.thieves) for (Bike b : c.bikes) wanted |= c.net(t, b) > 0;
            if (!wanted) return k;
        }
        return -1;
    }

    public long hides(int b) {
        if (noBike(b)) return NOTHING;
        World none = w.copy(), others = w.copy();
        for (int x = 0; x < w.bikes.size(); x++) {
            none.bikes.get(x).marked = false;
            others.bikes.get(x).marked = x != b;
        }
        return none.cost(b, 1) - others.cost(b, 1);
    }

    private int noBait(int place, int seems, int caught) {
        if (noPlace(place) || !in(seems, 10000) || !in(caught, 101)) return -2;
        return standing(place) >= 0 ? -5 : 0;
    }

    public long bait(int place, int seems, int caught) {
        int no = noBait(place, seems, caught);
        return no != 0 ? no : w.baited(seems, caught)[0];
    }

    public long caught(int t, int place, int seems, int caught) {
        int no = noThief(t) ? -2 : noBait(place, seems, caught);
        return no != 0 ? no : w.baited(seems, caught)[1 + t];
    }

    public int lures(int place) {
        int no = noBait(place, 0, 0);
        if (no != 0) return no;
        // What is taken when it seems so much is taken when it seems more: half it again and again.
        int low = 0, high = 10000;
        while (low < high) {
            int mid = (low + high) / 2;
            boolean taken = false;
            for (Thief t : w.thieves) taken |= w.takes(t, Set.of(), mid) == w.bikes.size();
            if (taken) high = mid;
            else low = mid + 1;
        }
        return low == 10000 ? -1 : low;
    }

    private long covered(int b, int o, int premium, int pays) {
        World c = w.with(b, o);
        return 1000L * premium + c.cost(b, 0) + (100 - pays) * c.cost(b, 1) / 100;
    }

    private boolean noCover(int b, int premium, int pays) { return noBike(b) || !in(premium, 10000) || !in(pays, 101); }

    public long cover(int b, int premium, int pays) {
        return noCover(b, premium, pays) ? -2 : covered(b, careless(b, premium, pays), premium, pays);
    }

    public int careless(int b, int premium, int pays) {
        return noCover(b, premium, pays) ? -2 : leastOf(0, w.options(), o -> covered(b, o, premium, pays));
    }

    public long law(int lock) {
        if (noRail() || lock < -1 || lock >= w.locks.size()) return -2;
        World c = w.copy();
        if (lock >= 0) for (Bike b : c.bikes) if (b.lock == -1 || b.lock < lock) b.lock = lock;
        return c.all(2);
    }

    public int laws() { return noRail() ? -2 : leastOf(-1, w.locks.size(), this::law); }

    public int rather(int t, int image) {
        if (noThief(t) || !in(image, 3) || images[image] == null || images[image].lines == 0) return -2;
        Thief thief = w.thieves.get(t);
        World there = images[image];
        int a = w.takes(thief, Set.of(), -1), b = there.takes(thief, Set.of(), -1);
        if (a < 0 && b < 0) return -1;
        int netHere = a < 0 ? 0 : w.net(thief, w.bikes.get(a));
        int netThere = b < 0 ? 0 : there.net(thief, there.bikes.get(b));
        return netThere > netHere ? 1 : 0;
    }

    private boolean noSeed(int seed) { return seed < 0 || seed > 2_000_000_000; }

    public int run(int seed) { return noRail() || noSeed(seed) ? -2 : w.drawn(seed); }

    public int told(int slot) {
        if (!in(slot, 4) || noRail()) return -2;
        if (rows[slot] == null) return -6;
        long[] numbers = rows[slot].numbers;
        if (numbers.length > w.nights) return -2;
        List<Integer> come = new ArrayList<>();
        for (long v : numbers) {
            if (v < 0 || v >= 1L << w.thieves.size()) return -2;
            come.add((int) v);
        }
        return w.year(come);
    }

    public int taken(int b) { return noBike(b) ? -2 : w.taken == null ? -1 : w.taken[b]; }
    public int took(int t) { return noThief(t) ? -2 : w.took == null ? -1 : w.took[t]; }

    public long years(int seed, int n, int what) {
        if (noRail() || noSeed(seed) || n < 1 || n > 100 || !in(what, 3)) return -2;
        long sum = 0, most = 0, worth = 0;
        for (int i = 0; i < n; i++) {
            World c = w.copy();
            int taken = c.drawn((long) seed + i);
            sum += taken;
            most = Math.max(most, taken);
            for (int b = 0; b < c.bikes.size(); b++) worth += (long) c.taken[b] * c.bikes.get(b).worth;
        }
        return new long[] {sum, most, worth}[what];
    }

    public int count(int what) {
        List<Supplier<Integer>> all = List.of(() -> w.places, () -> w.nights, () -> w.lamps.size(), () -> w.locks.size(),
            () -> w.bikes.size(), () -> w.thieves.size(), () -> w.lines, () -> tape.length(),
            () -> (int) w.bikes.stream().filter(b -> b.marked).count());
        if (in(what, 9)) return all.get(what).get();
        return switch (what) {
            case 9 -> w.watched ? 1 : 0;
            case 10 -> w.options();
            case 11 -> w.taken != null ? 1 : 0;
            case 12 -> (int) Arrays.stream(rows).filter(r -> r != null).count();
            default -> -1;
        };
    }

    public int keep(int k) {
        if (!in(k, 3)) return -2;
        images[k] = w.copy();
        return 0;
    }

    public int back(int k) {
        if (!in(k, 3)) return -2;
        if (images[k] == null) return -6;
        w = images[k].copy();
        return 0;
    }

    public int row(int slot, int width, int n) {
        if (!in(slot, 4) || !in(width, 4) || n > 60) return -2;
        if (n < 0) return -3;
        rows[slot] = new Row();
        rows[slot].width = width;
        rows[slot].numbers = new long[n];
        return 0;
    }

    public int write(int slot, int i, long v) {
        if (!in(slot, 4)) return -2;
        if (rows[slot] == null) return -6;
        if (!in(i, rows[slot].numbers.length)) return -7;
        int bits = 8 << rows[slot].width;
        rows[slot].numbers[i] = v << 64 - bits >> 64 - bits;
        return 0;
    }

    public int paste(int slot, int i, int to, int k, int n) {
        if (!in(slot, 4) || !in(to, 4)) return -2;
        if (rows[slot] == null || rows[to] == null) return -6;
        if (rows[slot].width != rows[to].width) return -8;
        long[] from = rows[slot].numbers.clone();
        long[] into = rows[to].numbers;
        if (i < 0 || k < 0 || n < 0 || (long) i + n > from.length || (long) k + n > into.length) return -7;
        for (int j = 0; j < n; j++) into[k + j] = from[i + j];
        return 0;
    }
}
