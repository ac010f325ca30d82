/**
 * A rail of bikes told as a text, and what thieves, locks, lamps, marks, a watchman, baits,
 * covers and laws do on it. The numbered promises are those of DOC.md.
 */
public final class LockRail {
    public static final int NONE = -1;

    private static final int NONE_SUCH = -2;
    private static final int BELOW_ZERO = -3;
    private static final int FAULTY = -4;
    private static final int STANDS_THERE = -5;
    private static final int HAS_NOTHING = -6;
    private static final int BEYOND = -7;
    private static final int OTHER_WIDTH = -8;
    private static final long NOTHING = -1_000_000_000_000L;

    private static final int MOST_BYTES = 1600;
    private static final int FED_BYTES = 20;
    private static final int MOST_PLACES = 20;
    private static final int MOST_NIGHTS = 60;
    private static final int MOST_LAMPS = 4;
    private static final int MOST_LOCKS = 5;
    private static final int MOST_BIKES = 10;
    private static final int MOST_THIEVES = 6;
    private static final int TOOLS = 3;
    private static final int MOST_BRIGHT = 99;
    private static final int MOST_PRICE = 999;
    private static final int MOST_SECONDS = 999;
    private static final int MOST_WORTH = 9999;
    private static final int MOST_FEARS = 99;
    private static final int IMAGES = 3;
    private static final int MOST_ROUNDS = 30;
    private static final int MOST_CHANGES = 60;
    private static final int MOST_SEED = 2_000_000_000;
    private static final int MOST_YEARS = 100;
    /** Above every COST and LOSS. */
    private static final long ABOVE_ALL = 0x7FFF_FFFF_FFFF_FFFFL;
    /** Of a pair's number, what the one's OPTION counts. */
    private static final int PAIR_STEP = 100;

    private final Reader reader = new Reader();
    private final Rail rail = new Rail();
    /** What would be: a copy of the rail, changed to see what comes of it. */
    private final Rail trial = new Rail();
    private final Rail[] images = new Rail[IMAGES];
    private final Slots slots = new Slots();
    private final Night night = new Night();
    private final Year triedYear = new Year();
    /** A number for each BIKE, made by the call that is under way. */
    private final long[] ofBikes = new long[MOST_BIKES];

    public LockRail() {
    }

    // ---- the tape and its rail (promises 2 to 5)

    public int feed(int a, int b, int c, int d, int e) {
        Tape tape = reader.tape;
        if (tape.length + FED_BYTES > MOST_BYTES) {
            return NONE;
        }
        tape.append(a);
        tape.append(b);
        tape.append(c);
        tape.append(d);
        tape.append(e);
        return tape.length;
    }

    public int end(int n) {
        Tape tape = reader.tape;
        if (n < 0 || n > tape.length) {
            return NONE;
        }
        tape.length = n;
        return n;
    }

    public int rail() {
        boolean sound = reader.readInto(trial);
        reader.tape.length = 0;
        if (!sound) {
            return FAULTY;
        }
        rail.copyFrom(trial);
        return rail.lines;
    }

    public int fault(int what) {
        switch (what) {
            case 0:
                return reader.fault;
            case 1:
                return reader.faultAt;
            default:
                return NONE;
        }
    }

    // ---- what stands there, and what thieves make of it (promises 6 to 11)

    public int light(int place) {
        return rail.hasPlace(place) ? rail.lightOf(place) : NONE_SUCH;
    }

    public int bike(int bike, int what) {
        if (!rail.hasBike(bike)) {
            return NONE_SUCH;
        }
        switch (what) {
            case 0:
                return rail.bikes.worth[bike];
            case 1:
                return rail.bikes.seems[bike];
            case 2:
                return rail.bikes.place[bike];
            case 3:
                return rail.bikes.lock[bike];
            case 4:
                return rail.bikes.marked[bike] ? 1 : 0;
            default:
                return NONE_SUCH;
        }
    }

    public int trouble(int thief, int bike) {
        if (!rail.hasThief(thief) || !rail.hasBike(bike)) {
            return NONE_SUCH;
        }
        return rail.troubleOf(thief, bike, rail.lightOf(rail.bikes.place[bike]));
    }

    public int gain(int bike) {
        return rail.hasBike(bike) ? rail.gainOf(bike, rail.bikes.markedOnes()) : NONE_SUCH;
    }

    public int takes(int thief, int gone) {
        if (!rail.hasThief(thief) || !rail.hasSet(gone)) {
            return NONE_SUCH;
        }
        night.lookAt(rail);
        return night.pick(thief, gone);
    }

    public int wants(int thief) {
        if (!rail.hasThief(thief)) {
            return NONE_SUCH;
        }
        night.lookAt(rail);
        return night.wantedBy(rail, thief);
    }

    // ---- a night and what it costs (promises 12 to 17)

    public long part(int set) {
        if (!rail.isTold() || !rail.hasSet(set)) {
            return NONE_SUCH;
        }
        night.play(rail);
        return night.partsOf(set);
    }

    public long many(int n) {
        if (!rail.isTold() || n < 0 || n > rail.bikes.count) {
            return NONE_SUCH;
        }
        night.play(rail);
        return night.partsOfMany(n);
    }

    public long risk(int bike) {
        if (!rail.hasBike(bike)) {
            return NONE_SUCH;
        }
        night.play(rail);
        return night.riskOf(bike);
    }

    public long has(int thief, int bike) {
        if (!rail.hasThief(thief) || !rail.hasBike(bike)) {
            return NONE_SUCH;
        }
        night.play(rail);
        return night.hadBy(thief, bike);
    }

    public long cost(int bike, int what) {
        if (!rail.hasBike(bike) || !isCost(what)) {
            return NONE_SUCH;
        }
        night.play(rail);
        return night.costOf(rail, bike, what);
    }

    public long all(int what) {
        return rail.isTold() && isCost(what) ? allOn(rail, what) : NONE_SUCH;
    }

    // ---- options, choices that settle, changes that better all (promises 18 to 28)

    public int option(int bike, int option) {
        if (!rail.hasBike(bike) || !rail.hasOption(option)) {
            return NONE_SUCH;
        }
        int had = rail.bikes.optionOf(bike);
        rail.bikes.setOption(bike, option);
        return had;
    }

    public long would(int bike, int option) {
        if (!rail.hasBike(bike) || !rail.hasOption(option)) {
            return NONE_SUCH;
        }
        trial.copyFrom(rail);
        trial.bikes.setOption(bike, option);
        return costOn(trial, bike);
    }

    public int best(int bike) {
        if (!rail.hasBike(bike)) {
            return NONE_SUCH;
        }
        trial.copyFrom(rail);
        return leastOption(trial, bike, false);
    }

    public int restless() {
        if (!rail.isTold()) {
            return NONE_SUCH;
        }
        trial.copyFrom(rail);
        int found = 0;
        for (int bike = 0; bike < rail.bikes.count; bike++) {
            if (leastOption(trial, bike, true) != trial.bikes.optionOf(bike)) {
                found++;
            }
        }
        return found;
    }

    public int settle(int n) {
        if (!rail.isTold() || n < 0 || n > MOST_ROUNDS) {
            return NONE_SUCH;
        }
        return Math.min(n, roundsOn(rail, n));
    }

    public int settles() {
        if (!rail.isTold()) {
            return NONE_SUCH;
        }
        trial.copyFrom(rail);
        int rounds = roundsOn(trial, MOST_ROUNDS);
        return rounds > MOST_ROUNDS ? NONE : rounds;
    }

    public long settled() {
        if (!rail.isTold()) {
            return NONE_SUCH;
        }
        trial.copyFrom(rail);
        int rounds = roundsOn(trial, MOST_ROUNDS);
        return rounds > MOST_ROUNDS ? NONE : allOn(trial, Night.COST);
    }

    public int better(int n) {
        if (!rail.isTold() || n < 0 || n > MOST_CHANGES) {
            return NONE_SUCH;
        }
        return changesOn(rail, n);
    }

    public long good() {
        if (!rail.isTold()) {
            return NONE_SUCH;
        }
        trial.copyFrom(rail);
        changesOn(trial, MOST_CHANGES);
        return allOn(trial, Night.COST);
    }

    public int pair(int one, int other) {
        if (!areTwo(one, other)) {
            return NONE_SUCH;
        }
        trial.copyFrom(rail);
        int options = trial.options();
        int found = 0;
        long least = ABOVE_ALL;
        for (int first = 0; first < options; first++) {
            trial.bikes.setOption(one, first);
            for (int second = 0; second < options; second++) {
                trial.bikes.setOption(other, second);
                night.play(trial);
                long both = night.costOf(trial, one, Night.COST) + night.costOf(trial, other, Night.COST);
                if (both < least) {
                    least = both;
                    found = PAIR_STEP * first + second;
                }
            }
        }
        return found;
    }

    public long wasted() {
        if (!rail.isTold()) {
            return NOTHING;
        }
        trial.copyFrom(rail);
        for (int bike = 0; bike < trial.bikes.count; bike++) {
            trial.bikes.setOption(bike, 0);
        }
        return allOn(rail, Night.COST) - allOn(trial, Night.COST);
    }

    // ---- what a lock does to those beside (promises 29 to 31)

    public long beside(int bike, int option, int other) {
        if (!areTwo(bike, other) || !rail.hasOption(option)) {
            return NOTHING;
        }
        findGrownRisks(bike, option);
        return ofBikes[other];
    }

    public int worse(int bike, int option) {
        if (!rail.hasBike(bike) || !rail.hasOption(option)) {
            return NONE_SUCH;
        }
        findGrownRisks(bike, option);
        int found = 0;
        for (int other = 0; other < rail.bikes.count; other++) {
            if (other != bike && ofBikes[other] > 0) {
                found++;
            }
        }
        return found;
    }

    public int next(int bike, int option) {
        if (!rail.hasBike(bike) || !rail.hasOption(option)) {
            return NONE_SUCH;
        }
        findGrownRisks(bike, option);
        int found = NONE;
        long most = 0;
        for (int other = 0; other < rail.bikes.count; other++) {
            if (other != bike && ofBikes[other] > most) {
                most = ofBikes[other];
                found = other;
            }
        }
        return found;
    }

    // ---- places, lamps, the watchman (promises 32 to 39)

    public int move(int bike, int place) {
        if (!rail.hasBike(bike) || !rail.hasPlace(place)) {
            return NONE_SUCH;
        }
        int stands = rail.bikes.standingAt(place);
        if (stands != NONE && stands != bike) {
            return STANDS_THERE;
        }
        int was = rail.bikes.place[bike];
        rail.bikes.place[bike] = place;
        return was;
    }

    public int swap(int one, int other) {
        if (!areTwo(one, other)) {
            return NONE_SUCH;
        }
        long before = allOn(rail, Night.LOSS);
        int place = rail.bikes.place[one];
        rail.bikes.place[one] = rail.bikes.place[other];
        rail.bikes.place[other] = place;
        return allOn(rail, Night.LOSS) < before ? 1 : 0;
    }

    public int where(int bike) {
        if (!rail.hasBike(bike)) {
            return NONE_SUCH;
        }
        trial.copyFrom(rail);
        int found = NONE;
        long least = ABOVE_ALL;
        for (int place = 0; place < rail.places; place++) {
            int stands = rail.bikes.standingAt(place);
            if (stands != NONE && stands != bike) {
                continue;
            }
            trial.bikes.place[bike] = place;
            long there = costOn(trial, bike);
            if (there < least) {
                least = there;
                found = place;
            }
        }
        return found;
    }

    public int lamp(int bright) {
        if (!rail.isTold() || !isBright(bright)) {
            return NONE_SUCH;
        }
        int found = NONE;
        long least = ABOVE_ALL;
        for (int place = 0; place < rail.places; place++) {
            long loss = lossLit(place, bright);
            if (loss < least) {
                least = loss;
                found = place;
            }
        }
        return found;
    }

    public long lit(int place, int bright) {
        return rail.hasPlace(place) && isBright(bright) ? lossLit(place, bright) : NONE_SUCH;
    }

    public int watch(boolean there) {
        if (!rail.watchTold) {
            return NONE_SUCH;
        }
        int was = rail.watched ? 1 : 0;
        rail.watched = there;
        return was;
    }

    public long penny() {
        if (!rail.watchTold) {
            return NOTHING;
        }
        trial.copyFrom(rail);
        trial.watched = false;
        long without = allOn(trial, Night.LOSS);
        trial.watched = true;
        return without - allOn(trial, Night.LOSS) - rail.wages();
    }

    public int enough() {
        if (!rail.watchTold) {
            return NONE_SUCH;
        }
        findSpared();
        int found = 0;
        long together = 0;
        for (int bike = 0; bike < rail.bikes.count && together < rail.wages(); bike++) {
            together += ofBikes[bike];
            found++;
        }
        return together >= rail.wages() ? found : NONE;
    }

    // ---- marks and baits (promises 40 to 44)

    public int marks() {
        if (!rail.isTold()) {
            return NONE_SUCH;
        }
        trial.copyFrom(rail);
        for (int first = 0; first <= trial.bikes.count; first++) {
            for (int bike = 0; bike < trial.bikes.count; bike++) {
                trial.bikes.marked[bike] = bike < first;
            }
            if (!anyWanted(trial)) {
                return first;
            }
        }
        return NONE;
    }

    public long hides(int bike) {
        if (!rail.hasBike(bike)) {
            return NOTHING;
        }
        trial.copyFrom(rail);
        trial.bikes.markOthers(bike, false);
        long unmarked = lossOn(trial, bike);
        trial.bikes.markOthers(bike, true);
        return unmarked - lossOn(trial, bike);
    }

    public long bait(int place, int seems, int caught) {
        int refused = refusedBait(place, seems, caught);
        if (refused != 0) {
            return refused;
        }
        night.playBaited(rail, seems, caught);
        return night.baitedLoss(rail);
    }

    public long caught(int thief, int place, int seems, int caught) {
        int refused = rail.hasThief(thief) ? refusedBait(place, seems, caught) : NONE_SUCH;
        if (refused != 0) {
            return refused;
        }
        night.playBaited(rail, seems, caught);
        return night.partsCaught(thief);
    }

    public int lures(int place) {
        int refused = refusedBait(place, 0, 0);
        if (refused != 0) {
            return refused;
        }
        night.lookAt(rail);
        int least = MOST_WORTH + 1;
        for (int thief = 0; thief < rail.thieves.count; thief++) {
            least = Math.min(least, night.leastLure(rail, thief));
        }
        return least > MOST_WORTH ? NONE : least;
    }

    // ---- covers, laws, another rail (promises 45 to 49)

    public long cover(int bike, int premium, int pays) {
        if (!isCover(bike, premium, pays)) {
            return NONE_SUCH;
        }
        int option = carelessOption(bike, premium, pays);
        trial.bikes.setOption(bike, option);
        return coveredOn(trial, bike, premium, pays);
    }

    public int careless(int bike, int premium, int pays) {
        return isCover(bike, premium, pays) ? carelessOption(bike, premium, pays) : NONE_SUCH;
    }

    public long law(int lock) {
        if (!rail.isTold() || lock != NONE && !rail.hasLock(lock)) {
            return NONE_SUCH;
        }
        return costByLaw(lock);
    }

    public int laws() {
        if (!rail.isTold()) {
            return NONE_SUCH;
        }
        int found = NONE;
        long least = ABOVE_ALL;
        for (int lock = NONE; lock < rail.locks.count; lock++) {
            long together = costByLaw(lock);
            if (together < least) {
                least = together;
                found = lock;
            }
        }
        return found;
    }

    public int rather(int thief, int image) {
        if (!rail.hasThief(thief) || !isImage(image)) {
            return NONE_SUCH;
        }
        Rail kept = images[image];
        // An image may have been kept when there was no RAIL: then there is none to go to.
        if (kept == null || !kept.isTold()) {
            return NONE_SUCH;
        }
        int here = netTaken(rail, thief);
        trial.copyFrom(kept);
        // It is the thief from here who goes there, with his own tool and fears.
        trial.thieves.copyFrom(rail.thieves);
        int there = netTaken(trial, thief);
        if (here == 0 && there == 0) {
            return NONE;
        }
        return there > here ? 1 : 0;
    }

    // ---- years drawn or told (promises 50 to 55)

    public int run(int seed) {
        if (!rail.isTold() || !isSeed(seed)) {
            return NONE_SUCH;
        }
        night.lookAt(rail);
        return night.drawYear(rail, seed, rail.year);
    }

    public int told(int slot) {
        if (!rail.isTold() || !slots.isSlot(slot)) {
            return NONE_SUCH;
        }
        if (!slots.hasRow(slot)) {
            return HAS_NOTHING;
        }
        if (!slots.tellsNights(slot, rail.nights, rail.thieves.count)) {
            return NONE_SUCH;
        }
        night.lookAt(rail);
        rail.year.begin();
        int taken = 0;
        for (int i = 0; i < slots.sizeOf(slot); i++) {
            taken += night.letAllCome((int) slots.numberAt(slot, i), rail.thieves.count, rail.year);
        }
        return taken;
    }

    public int taken(int bike) {
        if (!rail.hasBike(bike)) {
            return NONE_SUCH;
        }
        return rail.year.isThere ? rail.year.taken[bike] : NONE;
    }

    public int took(int thief) {
        if (!rail.hasThief(thief)) {
            return NONE_SUCH;
        }
        return rail.year.isThere ? rail.year.took[thief] : NONE;
    }

    public long years(int seed, int n, int what) {
        if (!rail.isTold() || !isSeed(seed) || n < 1 || n > MOST_YEARS || what < 0 || what > 2) {
            return NONE_SUCH;
        }
        night.lookAt(rail);
        long together = 0;
        long most = 0;
        long worth = 0;
        for (int year = 0; year < n; year++) {
            int taken = night.drawYear(rail, seed + year, triedYear);
            together += taken;
            most = Math.max(most, taken);
            worth += rail.worthTaken(triedYear);
        }
        return what == 0 ? together : what == 1 ? most : worth;
    }

    public int count(int what) {
        switch (what) {
            case 0:
                return rail.places;
            case 1:
                return rail.nights;
            case 2:
                return rail.lamps.count;
            case 3:
                return rail.locks.count;
            case 4:
                return rail.bikes.count;
            case 5:
                return rail.thieves.count;
            case 6:
                return rail.lines;
            case 7:
                return reader.tape.length;
            case 8:
                return rail.bikes.markedOnes();
            case 9:
                return rail.watched ? 1 : 0;
            case 10:
                return rail.options();
            case 11:
                return rail.year.isThere ? 1 : 0;
            case 12:
                return slots.rows();
            default:
                return NONE;
        }
    }

    // ---- images and slots (promises 56 to 60)

    public int keep(int k) {
        if (!isImage(k)) {
            return NONE_SUCH;
        }
        Rail image = images[k];
        if (image == null) {
            image = new Rail();
            images[k] = image;
        }
        image.copyFrom(rail);
        return 0;
    }

    public int back(int k) {
        if (!isImage(k)) {
            return NONE_SUCH;
        }
        Rail image = images[k];
        if (image == null) {
            return HAS_NOTHING;
        }
        rail.copyFrom(image);
        return 0;
    }

    public int row(int slot, int width, int n) {
        if (!slots.isSlot(slot) || width < 0 || width >= Slots.WIDTHS || n > Slots.MOST_NUMBERS) {
            return NONE_SUCH;
        }
        if (n < 0) {
            return BELOW_ZERO;
        }
        slots.make(slot, width, n);
        return 0;
    }

    public int write(int slot, int i, long v) {
        if (!slots.isSlot(slot)) {
            return NONE_SUCH;
        }
        if (!slots.hasRow(slot)) {
            return HAS_NOTHING;
        }
        if (i < 0 || i >= slots.sizeOf(slot)) {
            return BEYOND;
        }
        slots.put(slot, i, v);
        return 0;
    }

    public int paste(int slot, int i, int to, int k, int n) {
        if (!slots.isSlot(slot) || !slots.isSlot(to)) {
            return NONE_SUCH;
        }
        if (!slots.hasRow(slot) || !slots.hasRow(to)) {
            return HAS_NOTHING;
        }
        if (!slots.areAlike(slot, to)) {
            return OTHER_WIDTH;
        }
        if (!slots.hasAll(slot, i, n) || !slots.hasAll(to, k, n)) {
            return BEYOND;
        }
        slots.copy(slot, i, to, k, n);
        return 0;
    }

    // ---- what several promises ask of a rail

    private static boolean isCost(int what) {
        return what >= Night.PAID && what <= Night.COST;
    }

    private static boolean isBright(int bright) {
        return bright >= 0 && bright <= MOST_BRIGHT;
    }

    private static boolean isSeed(int seed) {
        return seed >= 0 && seed <= MOST_SEED;
    }

    private static boolean isImage(int image) {
        return image >= 0 && image < IMAGES;
    }

    private boolean areTwo(int one, int other) {
        return rail.hasBike(one) && rail.hasBike(other) && one != other;
    }

    private boolean isCover(int bike, int premium, int pays) {
        return rail.hasBike(bike) && premium >= 0 && premium <= MOST_WORTH && pays >= 0 && pays <= 100;
    }

    private int refusedBait(int place, int seems, int caught) {
        if (!rail.hasPlace(place) || seems < 0 || seems > MOST_WORTH || caught < 0 || caught > 100) {
            return NONE_SUCH;
        }
        return rail.bikes.standingAt(place) == NONE ? 0 : STANDS_THERE;
    }

    private long lossOn(Rail on, int bike) {
        night.play(on);
        return night.costOf(on, bike, Night.LOSS);
    }

    private long costOn(Rail on, int bike) {
        night.play(on);
        return night.costOf(on, bike, Night.COST);
    }

    private long allOn(Rail on, int what) {
        night.play(on);
        return night.costOfAll(on, what);
    }

    /**
     * The OPTION by which a BIKE's COST is least, the first of several; or, if it may stay, the
     * one it has where no other costs less. The rail stays as it was.
     */
    private int leastOption(Rail on, int bike, boolean mayStay) {
        int had = on.bikes.optionOf(bike);
        int found = had;
        long least = ABOVE_ALL;
        if (mayStay) {
            night.play(on);
            least = night.costOf(on, bike, Night.COST);
        }
        for (int option = 0; option < on.options(); option++) {
            on.bikes.setOption(bike, option);
            night.play(on);
            long there = night.costOf(on, bike, Night.COST);
            if (there < least) {
                least = there;
                found = option;
            }
        }
        on.bikes.setOption(bike, had);
        return found;
    }

    /** SETTLING: how many rounds till one changed nothing; one more than the most, if none did. */
    private int roundsOn(Rail on, int most) {
        for (int round = 1; round <= most; round++) {
            boolean changed = false;
            for (int bike = 0; bike < on.bikes.count; bike++) {
                int option = leastOption(on, bike, true);
                changed |= option != on.bikes.optionOf(bike);
                on.bikes.setOption(bike, option);
            }
            if (!changed) {
                return round;
            }
        }
        return most + 1;
    }

    /** BETTERING: how many changes there were. */
    private int changesOn(Rail on, int most) {
        for (int change = 0; change < most; change++) {
            if (!changeBetters(on)) {
                return change;
            }
        }
        return most;
    }

    private boolean changeBetters(Rail on) {
        night.play(on);
        long least = night.costOfAll(on, Night.COST);
        int changed = NONE;
        int changedTo = 0;
        for (int bike = 0; bike < on.bikes.count; bike++) {
            int had = on.bikes.optionOf(bike);
            for (int option = 0; option < on.options(); option++) {
                on.bikes.setOption(bike, option);
                night.play(on);
                long together = night.costOfAll(on, Night.COST);
                if (together < least) {
                    least = together;
                    changed = bike;
                    changedTo = option;
                }
            }
            on.bikes.setOption(bike, had);
        }
        if (changed != NONE) {
            on.bikes.setOption(changed, changedTo);
        }
        return changed != NONE;
    }

    /** For each BIKE by how much its RISK is more, if one BIKE had an OPTION. */
    private void findGrownRisks(int bike, int option) {
        night.play(rail);
        for (int other = 0; other < rail.bikes.count; other++) {
            ofBikes[other] = -night.riskOf(other);
        }
        trial.copyFrom(rail);
        trial.bikes.setOption(bike, option);
        night.play(trial);
        for (int other = 0; other < rail.bikes.count; other++) {
            ofBikes[other] += night.riskOf(other);
        }
    }

    private long lossLit(int place, int bright) {
        trial.copyFrom(rail);
        trial.lamps.add(place, bright);
        return allOn(trial, Night.LOSS);
    }

    /** By how much LOSSES are less with a watchman, the most first. */
    private void findSpared() {
        trial.copyFrom(rail);
        trial.watched = false;
        night.play(trial);
        for (int bike = 0; bike < trial.bikes.count; bike++) {
            ofBikes[bike] = night.costOf(trial, bike, Night.LOSS);
        }
        trial.watched = true;
        night.play(trial);
        for (int bike = 0; bike < trial.bikes.count; bike++) {
            long spared = ofBikes[bike] - night.costOf(trial, bike, Night.LOSS);
            int at = bike;
            for (; at > 0 && ofBikes[at - 1] < spared; at--) {
                ofBikes[at] = ofBikes[at - 1];
            }
            ofBikes[at] = spared;
        }
    }

    private boolean anyWanted(Rail on) {
        night.lookAt(on);
        for (int thief = 0; thief < on.thieves.count; thief++) {
            if (night.wantedBy(on, thief) > 0) {
                return true;
            }
        }
        return false;
    }

    private long coveredOn(Rail on, int bike, int premium, int pays) {
        night.play(on);
        long loss = night.costOf(on, bike, Night.LOSS);
        return 1000L * premium + night.costOf(on, bike, Night.PAID) + (100 - pays) * loss / 100;
    }

    private int carelessOption(int bike, int premium, int pays) {
        trial.copyFrom(rail);
        int found = 0;
        long least = ABOVE_ALL;
        for (int option = 0; option < trial.options(); option++) {
            trial.bikes.setOption(bike, option);
            long there = coveredOn(trial, bike, premium, pays);
            if (there < least) {
                least = there;
                found = option;
            }
        }
        return found;
    }

    private long costByLaw(int lock) {
        trial.copyFrom(rail);
        for (int bike = 0; bike < trial.bikes.count; bike++) {
            trial.bikes.lock[bike] = Math.max(trial.bikes.lock[bike], lock);
        }
        return allOn(trial, Night.COST);
    }

    /** NET of what a THIEF takes, all being there; 0 if he takes none. */
    private int netTaken(Rail on, int thief) {
        night.lookAt(on);
        int bike = night.pick(thief, 0);
        return bike == NONE ? 0 : night.netOf(on, thief, bike);
    }

    /** The told text as it stands byte by byte, and as TOKENS one behind the other. */
    private static final class Tape {
        private static final int END = 0;
        private static final int WORD = 1;
        private static final int NUMBER = 2;
        private static final int SIGN = 3;
        private static final int BLANK = 4;
        private static final int NO_TOKEN = 5;
        /** Above every bound, so that a long number stays out of them and never wraps round. */
        private static final int TOO_MUCH = 1_000_000;

        private final byte[] bytes = new byte[MOST_BYTES];
        private int length;
        private int spot;
        private int behind;
        private int kind;
        private int number;

        private void append(int four) {
            for (int shift = 24; shift >= 0 && length < MOST_BYTES; shift -= 8) {
                bytes[length] = (byte) (four >>> shift);
                length++;
            }
        }

        private void rewind() {
            behind = 0;
            step();
        }

        /** Goes on to the next TOKEN: as many letters or digits as there are, or one sign. */
        private void step() {
            spot = behind;
            while (spot < length && kindAt(spot) == BLANK) {
                spot++;
            }
            kind = kindAt(spot);
            number = 0;
            behind = spot;
            boolean goesOn = kind != END;
            while (goesOn && behind < length) {
                if (kind == NUMBER) {
                    number = Math.min(TOO_MUCH, 10 * number + bytes[behind] - '0');
                }
                behind++;
                goesOn = (kind == WORD || kind == NUMBER) && kindAt(behind) == kind;
            }
        }

        private int kindAt(int at) {
            if (at < 0 || at >= length) {
                return END;
            }
            byte sign = bytes[at];
            if (sign >= 'a' && sign <= 'z') {
                return WORD;
            }
            if (sign >= '0' && sign <= '9') {
                return NUMBER;
            }
            if (sign == ' ' || sign == '\n') {
                return BLANK;
            }
            return sign == ';' ? SIGN : NO_TOKEN;
        }

        private boolean isWord(String word) {
            if (kind != WORD || behind - spot != word.length()) {
                return false;
            }
            for (int i = 0; i < word.length(); i++) {
                if (bytes[spot + i] != word.charAt(i)) {
                    return false;
                }
            }
            return true;
        }
    }

    /** Reads the tape from left to right, so that the first FAULT it meets is the first by place. */
    private static final class Reader {
        private static final int CAN_NOT_STAND = 1;
        private static final int NOT_AS_SAID = 2;
        private static final int TOO_MANY = 3;

        private final Tape tape = new Tape();
        private int fault;
        private int faultAt = NONE;

        private boolean readInto(Rail rail) {
            fault = 0;
            faultAt = NONE;
            rail.wipe();
            tape.rewind();
            for (int line = 0; line < MOST_BYTES && fault == 0 && tape.kind != Tape.END; line++) {
                readLine(rail);
            }
            return fault == 0;
        }

        private void readLine(Rail rail) {
            if (rail.lines == 0) {
                readRail(rail);
            } else if (tape.isWord("lamp")) {
                readHead(rail.lamps.count < MOST_LAMPS, TOO_MANY);
                readLamp(rail);
            } else if (tape.isWord("lock")) {
                readHead(rail.locks.count < MOST_LOCKS, TOO_MANY);
                readLock(rail);
            } else if (tape.isWord("bike")) {
                readHead(rail.bikes.count < MOST_BIKES, TOO_MANY);
                readBike(rail);
            } else if (tape.isWord("thief")) {
                readHead(rail.thieves.count < MOST_THIEVES, TOO_MANY);
                readThief(rail);
            } else if (tape.isWord("mark")) {
                readHead(!rail.markTold, NOT_AS_SAID);
                readMark(rail);
            } else if (tape.isWord("watch")) {
                readHead(!rail.watchTold, NOT_AS_SAID);
                readWatch(rail);
            } else {
                fail(CAN_NOT_STAND);
            }
            readSign();
            rail.lines++;
        }

        /** A LINE's first word, where there is room for one more such LINE. */
        private void readHead(boolean hasRoom, int faultWithout) {
            if (hasRoom) {
                tape.step();
            } else {
                fail(faultWithout);
            }
        }

        private void readRail(Rail rail) {
            readWord("rail");
            readWord("places");
            rail.places = readNumber(1, MOST_PLACES);
            readWord("nights");
            rail.nights = readNumber(1, MOST_NIGHTS);
        }

        private void readLamp(Rail rail) {
            readWord("at");
            int place = readNumber(0, rail.places - 1);
            readWord("bright");
            int bright = readNumber(0, MOST_BRIGHT);
            if (fault == 0) {
                rail.lamps.add(place, bright);
            }
        }

        private void readLock(Rail rail) {
            readWord("price");
            int price = readNumber(0, MOST_PRICE);
            readWord("cuts");
            int first = readNumber(1, MOST_SECONDS);
            int second = readNumber(1, MOST_SECONDS);
            int third = readNumber(1, MOST_SECONDS);
            if (fault == 0) {
                rail.locks.add(price, first, second, third);
            }
        }

        private void readBike(Rail rail) {
            readWord("worth");
            int worth = readNumber(0, MOST_WORTH);
            readWord("seems");
            int seems = readNumber(0, MOST_WORTH);
            readWord("at");
            if (tape.kind == Tape.NUMBER && rail.bikes.standingAt(tape.number) != NONE) {
                fail(NOT_AS_SAID);
            }
            int place = readNumber(0, rail.places - 1);
            int lock = NONE;
            if (readIf("lock")) {
                lock = readNumber(0, rail.locks.count - 1);
            }
            boolean marked = readIf("marked");
            if (fault == 0) {
                rail.bikes.add(worth, seems, place, lock, marked);
            }
        }

        private void readThief(Rail rail) {
            readWord("tool");
            int tool = readNumber(0, TOOLS - 1);
            readWord("comes");
            int comes = readNumber(0, 100);
            readWord("fears");
            int fears = readNumber(0, MOST_FEARS);
            int kind = Thieves.JUST;
            int just = NONE;
            if (readIf("best")) {
                kind = Thieves.BEST;
            } else if (readIf("any")) {
                kind = Thieves.ANY;
            } else {
                readWord("just");
                just = readNumber(0, rail.bikes.count - 1);
            }
            if (fault == 0) {
                rail.thieves.add(tool, comes, fears, kind, just);
            }
        }

        private void readMark(Rail rail) {
            readWord("price");
            rail.markPrice = readNumber(0, MOST_PRICE);
            readWord("known");
            rail.known = readNumber(0, 100);
            rail.hidden = readIf("hidden");
            rail.markTold = true;
        }

        private void readWatch(Rail rail) {
            readWord("wage");
            rail.wage = readNumber(0, MOST_PRICE);
            readWord("adds");
            rail.adds = readNumber(0, MOST_BRIGHT);
            rail.watchTold = true;
        }

        private void readWord(String word) {
            if (fault == 0 && tape.isWord(word)) {
                tape.step();
            } else {
                fail(CAN_NOT_STAND);
            }
        }

        /** A word that may be there or not. */
        private boolean readIf(String word) {
            boolean isThere = fault == 0 && tape.isWord(word);
            if (isThere) {
                tape.step();
            }
            return isThere;
        }

        private void readSign() {
            if (fault == 0 && tape.kind == Tape.SIGN) {
                tape.step();
            } else {
                fail(CAN_NOT_STAND);
            }
        }

        private int readNumber(int least, int most) {
            if (tape.kind != Tape.NUMBER) {
                fail(CAN_NOT_STAND);
            } else if (tape.number < least || tape.number > most) {
                fail(NOT_AS_SAID);
            }
            if (fault != 0) {
                return least;
            }
            int number = tape.number;
            tape.step();
            return number;
        }

        /** Only the first FAULT counts: behind it nothing is read any more. */
        private void fail(int which) {
            if (fault == 0) {
                fault = which;
                faultAt = tape.spot;
            }
        }
    }

    private static final class Lamps {
        private int count;
        /** One more than can be told: the one that lamp and lit try. */
        private final int[] place = new int[MOST_LAMPS + 1];
        private final int[] bright = new int[MOST_LAMPS + 1];

        private void add(int at, int brightness) {
            if (count <= MOST_LAMPS) {
                place[count] = at;
                bright[count] = brightness;
                count++;
            }
        }

        private void copyFrom(Lamps other) {
            count = other.count;
            System.arraycopy(other.place, 0, place, 0, place.length);
            System.arraycopy(other.bright, 0, bright, 0, bright.length);
        }
    }

    private static final class Locks {
        private int count;
        private final int[] price = new int[MOST_LOCKS];
        /** Seconds of LOCK after LOCK, TOOL by TOOL. */
        private final int[] cuts = new int[MOST_LOCKS * TOOLS];

        private void add(int itsPrice, int first, int second, int third) {
            if (count < MOST_LOCKS) {
                price[count] = itsPrice;
                cuts[TOOLS * count] = first;
                cuts[TOOLS * count + 1] = second;
                cuts[TOOLS * count + 2] = third;
                count++;
            }
        }

        private void copyFrom(Locks other) {
            count = other.count;
            System.arraycopy(other.price, 0, price, 0, price.length);
            System.arraycopy(other.cuts, 0, cuts, 0, cuts.length);
        }
    }

    private static final class Bikes {
        private int count;
        private final int[] worth = new int[MOST_BIKES];
        private final int[] seems = new int[MOST_BIKES];
        private final int[] place = new int[MOST_BIKES];
        private final int[] lock = new int[MOST_BIKES];
        private final boolean[] marked = new boolean[MOST_BIKES];

        private void add(int itsWorth, int seemsSo, int at, int itsLock, boolean isMarked) {
            if (count < MOST_BIKES) {
                worth[count] = itsWorth;
                seems[count] = seemsSo;
                place[count] = at;
                lock[count] = itsLock;
                marked[count] = isMarked;
                count++;
            }
        }

        /** The BIKE that stands on a PLACE, or NONE. */
        private int standingAt(int at) {
            for (int bike = 0; bike < count; bike++) {
                if (place[bike] == at) {
                    return bike;
                }
            }
            return NONE;
        }

        private int markedOnes() {
            int found = 0;
            for (int bike = 0; bike < count; bike++) {
                if (marked[bike]) {
                    found++;
                }
            }
            return found;
        }

        /** Marks all but one, or none at all. */
        private void markOthers(int one, boolean mark) {
            for (int bike = 0; bike < count; bike++) {
                marked[bike] = mark && bike != one;
            }
        }

        private int optionOf(int bike) {
            return 2 * (lock[bike] + 1) + (marked[bike] ? 1 : 0);
        }

        private void setOption(int bike, int option) {
            lock[bike] = option / 2 - 1;
            marked[bike] = option % 2 == 1;
        }

        private void copyFrom(Bikes other) {
            count = other.count;
            System.arraycopy(other.worth, 0, worth, 0, worth.length);
            System.arraycopy(other.seems, 0, seems, 0, seems.length);
            System.arraycopy(other.place, 0, place, 0, place.length);
            System.arraycopy(other.lock, 0, lock, 0, lock.length);
            // One by one, as only arrays of numbers may be copied whole (rule 4 of LANGUAGE.md).
            for (int bike = 0; bike < MOST_BIKES; bike++) {
                marked[bike] = other.marked[bike];
            }
        }
    }

    private static final class Thieves {
        private static final int BEST = 0;
        private static final int ANY = 1;
        private static final int JUST = 2;

        private int count;
        private final int[] tool = new int[MOST_THIEVES];
        private final int[] comes = new int[MOST_THIEVES];
        private final int[] fears = new int[MOST_THIEVES];
        private final int[] kind = new int[MOST_THIEVES];
        private final int[] just = new int[MOST_THIEVES];

        private void add(int itsTool, int comesSo, int fearsSo, int itsKind, int justThat) {
            if (count < MOST_THIEVES) {
                tool[count] = itsTool;
                comes[count] = comesSo;
                fears[count] = fearsSo;
                kind[count] = itsKind;
                just[count] = justThat;
                count++;
            }
        }

        private void copyFrom(Thieves other) {
            count = other.count;
            System.arraycopy(other.tool, 0, tool, 0, tool.length);
            System.arraycopy(other.comes, 0, comes, 0, comes.length);
            System.arraycopy(other.fears, 0, fears, 0, fears.length);
            System.arraycopy(other.kind, 0, kind, 0, kind.length);
            System.arraycopy(other.just, 0, just, 0, just.length);
        }
    }

    /** How often each BIKE was taken, and how often each THIEF took one. */
    private static final class Year {
        private boolean isThere;
        private final int[] taken = new int[MOST_BIKES];
        private final int[] took = new int[MOST_THIEVES];

        private void begin() {
            isThere = true;
            for (int bike = 0; bike < MOST_BIKES; bike++) {
                taken[bike] = 0;
            }
            for (int thief = 0; thief < MOST_THIEVES; thief++) {
                took[thief] = 0;
            }
        }

        private void copyFrom(Year other) {
            isThere = other.isThere;
            System.arraycopy(other.taken, 0, taken, 0, taken.length);
            System.arraycopy(other.took, 0, took, 0, took.length);
        }
    }

    /** All that an IMAGE keeps: the RAIL as it stands, its watchman and its YEAR. */
    private static final class Rail {
        private int places;
        private int nights;
        private int lines;
        private final Lamps lamps = new Lamps();
        private final Locks locks = new Locks();
        private final Bikes bikes = new Bikes();
        private final Thieves thieves = new Thieves();
        private boolean markTold;
        private int markPrice;
        private int known;
        private boolean hidden;
        private boolean watchTold;
        private int wage;
        private int adds;
        private boolean watched;
        private final Year year = new Year();

        private void wipe() {
            places = 0;
            nights = 0;
            lines = 0;
            lamps.count = 0;
            locks.count = 0;
            bikes.count = 0;
            thieves.count = 0;
            markTold = false;
            markPrice = 0;
            known = 0;
            hidden = false;
            watchTold = false;
            wage = 0;
            adds = 0;
            watched = false;
            year.isThere = false;
        }

        private void copyFrom(Rail other) {
            places = other.places;
            nights = other.nights;
            lines = other.lines;
            lamps.copyFrom(other.lamps);
            locks.copyFrom(other.locks);
            bikes.copyFrom(other.bikes);
            thieves.copyFrom(other.thieves);
            markTold = other.markTold;
            markPrice = other.markPrice;
            known = other.known;
            hidden = other.hidden;
            watchTold = other.watchTold;
            wage = other.wage;
            adds = other.adds;
            watched = other.watched;
            year.copyFrom(other.year);
        }

        /** An empty text has no LINE at all, and so there is no RAIL. */
        private boolean isTold() {
            return lines > 0;
        }

        private boolean hasPlace(int place) {
            return place >= 0 && place < places;
        }

        private boolean hasLock(int lock) {
            return lock >= 0 && lock < locks.count;
        }

        private boolean hasBike(int bike) {
            return bike >= 0 && bike < bikes.count;
        }

        private boolean hasThief(int thief) {
            return thief >= 0 && thief < thieves.count;
        }

        private boolean hasOption(int option) {
            return option >= 0 && option < options();
        }

        private boolean hasSet(int set) {
            return set >= 0 && set < 1 << bikes.count;
        }

        private int options() {
            return isTold() ? 2 * (locks.count + 1) : 0;
        }

        private int lightOf(int place) {
            int light = watched ? adds : 0;
            for (int lamp = 0; lamp < lamps.count; lamp++) {
                light += Math.max(0, lamps.bright[lamp] - Math.abs(place - lamps.place[lamp]));
            }
            return light;
        }

        private int troubleOf(int thief, int bike, int light) {
            int lock = bikes.lock[bike];
            int seconds = lock == NONE ? 0 : locks.cuts[TOOLS * lock + thieves.tool[thief]];
            return seconds * thieves.fears[thief] * (1 + light) / 100;
        }

        private int gainOf(int bike, int markedOnes) {
            int seems = bikes.seems[bike];
            int hundreds = 100 * bikes.count;
            if (hidden && hundreds > 0) {
                return seems * (hundreds - known * markedOnes) / hundreds;
            }
            return bikes.marked[bike] ? seems * (100 - known) / 100 : seems;
        }

        private long paidFor(int bike) {
            int lock = bikes.lock[bike];
            int price = lock == NONE ? 0 : locks.price[lock];
            return 1000L * (price + (bikes.marked[bike] ? markPrice : 0));
        }

        private long wages() {
            return 1000L * wage * nights;
        }

        private long wageShare() {
            return watched && bikes.count > 0 ? wages() / bikes.count : 0;
        }

        private long worthTaken(Year inYear) {
            long together = 0;
            for (int bike = 0; bike < bikes.count; bike++) {
                together += (long) inYear.taken[bike] * bikes.worth[bike];
            }
            return together;
        }
    }

    /** PARTS by states, those of one state together, in the order in which the states came. */
    private static final class Spread {
        /**
         * Above all states that a night with a BAIT can have: a THIEF was caught ahead, comes or
         * does not (3 to the 6), and of those who come one at most is caught or not (twice that).
         */
        private static final int MOST_STATES = 1536;
        private static final int TABLE = 4096;
        private static final int TABLE_SHIFT = 20;
        private static final int MIX = 0x9E3779B1;

        private int size;
        private final int[] states = new int[MOST_STATES];
        private final long[] parts = new long[MOST_STATES];
        private final int[] slotOf = new int[MOST_STATES];
        /** Where a state stands in the rows above, and 1; 0 where there is none. */
        private final int[] table = new int[TABLE];

        private void wipe() {
            for (int i = 0; i < size; i++) {
                table[slotOf[i]] = 0;
            }
            size = 0;
        }

        private void put(int state, long more) {
            if (more == 0) {
                return;
            }
            int slot = state * MIX >>> TABLE_SHIFT;
            for (int tries = 0; tries < TABLE && table[slot] != 0; tries++) {
                int at = table[slot] - 1;
                if (states[at] == state) {
                    parts[at] += more;
                    return;
                }
                slot = slot + 1 & TABLE - 1;
            }
            if (size < MOST_STATES) {
                states[size] = state;
                parts[size] = more;
                slotOf[size] = slot;
                size++;
                table[slot] = size;
            }
        }
    }

    /** What THIEVES choose on a rail, and what comes of it in a NIGHT or, with a BAIT, in all. */
    private static final class Night {
        private static final int PAID = 0;
        private static final int LOSS = 1;
        private static final int COST = 2;
        private static final long ALL_PARTS = 1_000_000_000_000L;
        private static final long PARTS_OF_A_THOUSANDTH = 1_000_000_000L;
        /** All BIKES and a BAIT. */
        private static final int CHOICES = MOST_BIKES + 1;
        /** A state has those gone in its low bits and the THIEVES caught above them. */
        private static final int GONE = (1 << CHOICES) - 1;
        private static final long DRAW_TIMES = 1_103_515_245L;
        private static final long DRAW_MORE = 12_345L;
        private static final long DRAW_MASK = 0x7FFF_FFFFL;

        private final int[] light = new int[MOST_BIKES];
        private final int[] gain = new int[MOST_BIKES];
        /** Of each THIEF the BIKES he would take, the dearest to him first. */
        private final int[] order = new int[MOST_THIEVES * CHOICES];
        private final int[] ordered = new int[MOST_THIEVES];
        /** What the order goes by, the least first, of the THIEF whose order is made. */
        private final int[] rank = new int[CHOICES];
        private final long[] had = new long[MOST_THIEVES * MOST_BIKES];
        private Spread now = new Spread();
        private Spread then = new Spread();
        /** The BAIT's number among the choices: the one behind all BIKES. */
        private int bait;
        private int caughtOf100;

        private void lookAt(Rail rail) {
            lookAtBaited(rail, 0);
        }

        /**
         * Learns what each THIEF would take, and in which order. A BAIT that seems nothing is
         * wanted by none, just as if there were none.
         */
        private void lookAtBaited(Rail rail, int baitSeems) {
            bait = rail.bikes.count;
            int markedOnes = rail.bikes.markedOnes();
            for (int bike = 0; bike < rail.bikes.count; bike++) {
                light[bike] = rail.lightOf(rail.bikes.place[bike]);
                gain[bike] = rail.gainOf(bike, markedOnes);
            }
            for (int thief = 0; thief < rail.thieves.count; thief++) {
                orderFor(rail, thief, baitSeems);
            }
        }

        private void orderFor(Rail rail, int thief, int baitSeems) {
            ordered[thief] = 0;
            int kind = rail.thieves.kind[thief];
            for (int bike = 0; bike < rail.bikes.count; bike++) {
                int trouble = rail.troubleOf(thief, bike, light[bike]);
                int net = gain[bike] - trouble;
                boolean mayTake = kind != Thieves.JUST || bike == rail.thieves.just[thief];
                if (net > 0 && mayTake) {
                    putInOrder(thief, bike, kind == Thieves.BEST ? -net : trouble);
                }
            }
            if (baitSeems > 0 && kind != Thieves.JUST) {
                putInOrder(thief, bait, kind == Thieves.BEST ? -baitSeems : 0);
            }
        }

        /** Behind all of the same rank, so that the first of several stays the first. */
        private void putInOrder(int thief, int choice, int itsRank) {
            int first = thief * CHOICES;
            int at = ordered[thief];
            if (at >= CHOICES) {
                return;
            }
            for (; at > 0 && rank[at - 1] > itsRank; at--) {
                rank[at] = rank[at - 1];
                order[first + at] = order[first + at - 1];
            }
            rank[at] = itsRank;
            order[first + at] = choice;
            ordered[thief]++;
        }

        private int pick(int thief, int gone) {
            int first = thief * CHOICES;
            for (int i = 0; i < ordered[thief]; i++) {
                int choice = order[first + i];
                if ((gone >> choice & 1) == 0) {
                    return choice;
                }
            }
            return NONE;
        }

        private int netOf(Rail rail, int thief, int bike) {
            return gain[bike] - rail.troubleOf(thief, bike, light[bike]);
        }

        /** How many have a NET above 0, be he one who takes just one of them. */
        private int wantedBy(Rail rail, int thief) {
            int wanted = 0;
            for (int bike = 0; bike < rail.bikes.count; bike++) {
                if (netOf(rail, thief, bike) > 0) {
                    wanted++;
                }
            }
            return wanted;
        }

        private void play(Rail rail) {
            lookAtBaited(rail, 0);
            begin();
            for (int thief = 0; thief < rail.thieves.count; thief++) {
                letCome(thief, rail.thieves.comes[thief]);
            }
        }

        private void begin() {
            for (int i = 0; i < had.length; i++) {
                had[i] = 0;
            }
            now.wipe();
            now.put(0, ALL_PARTS);
        }

        private void letCome(int thief, int comes) {
            then.wipe();
            for (int i = 0; i < now.size; i++) {
                int state = now.states[i];
                long parts = now.parts[i];
                int choice = isCaught(state, thief) ? NONE : pick(thief, state & GONE);
                if (choice == NONE) {
                    then.put(state, parts);
                } else {
                    long come = parts * comes / 100;
                    then.put(state, parts - come);
                    letTake(state, thief, choice, come);
                }
            }
            turn();
        }

        private void letTake(int state, int thief, int choice, long come) {
            int after = state | 1 << choice;
            if (choice == bait) {
                long caught = come * caughtOf100 / 100;
                then.put(after | caughtBit(thief), caught);
                then.put(after, come - caught);
            } else {
                had[thief * MOST_BIKES + choice] += come;
                then.put(after, come);
            }
        }

        private void turn() {
            Spread before = now;
            now = then;
            then = before;
        }

        private static int caughtBit(int thief) {
            return 1 << CHOICES + thief;
        }

        private static boolean isCaught(int state, int thief) {
            return (state & caughtBit(thief)) != 0;
        }

        /** All NIGHTS with a BAIT; what is had is of all of them together. */
        private void playBaited(Rail rail, int seems, int caught) {
            lookAtBaited(rail, seems);
            caughtOf100 = caught;
            begin();
            for (int n = 0; n < rail.nights; n++) {
                for (int thief = 0; thief < rail.thieves.count; thief++) {
                    letCome(thief, rail.thieves.comes[thief]);
                }
                bringBack();
            }
        }

        /** Behind a NIGHT all are there again; who is caught stays so. */
        private void bringBack() {
            then.wipe();
            for (int i = 0; i < now.size; i++) {
                then.put(now.states[i] & ~GONE, now.parts[i]);
            }
            turn();
        }

        private long partsOf(int set) {
            long together = 0;
            for (int i = 0; i < now.size; i++) {
                if (now.states[i] == set) {
                    together += now.parts[i];
                }
            }
            return together;
        }

        private long partsOfMany(int n) {
            long together = 0;
            for (int i = 0; i < now.size; i++) {
                if (Integer.bitCount(now.states[i] & GONE) == n) {
                    together += now.parts[i];
                }
            }
            return together;
        }

        private long partsCaught(int thief) {
            long together = 0;
            for (int i = 0; i < now.size; i++) {
                if (isCaught(now.states[i], thief)) {
                    together += now.parts[i];
                }
            }
            return together;
        }

        private long hadBy(int thief, int bike) {
            return had[thief * MOST_BIKES + bike];
        }

        /** A BIKE is gone once a NIGHT at most, so its PARTS are those by which the THIEVES have it. */
        private long riskOf(int bike) {
            long together = 0;
            for (int thief = 0; thief < MOST_THIEVES; thief++) {
                together += hadBy(thief, bike);
            }
            return together;
        }

        private long costOf(Rail rail, int bike, int what) {
            long paid = rail.paidFor(bike);
            long loss = rail.nights * (long) rail.bikes.worth[bike] * riskOf(bike) / PARTS_OF_A_THOUSANDTH;
            switch (what) {
                case PAID:
                    return paid;
                case LOSS:
                    return loss;
                default:
                    return paid + loss + rail.wageShare();
            }
        }

        private long costOfAll(Rail rail, int what) {
            long together = 0;
            for (int bike = 0; bike < rail.bikes.count; bike++) {
                together += costOf(rail, bike, what);
            }
            return together;
        }

        private long baitedLoss(Rail rail) {
            long together = 0;
            for (int bike = 0; bike < rail.bikes.count; bike++) {
                together += rail.bikes.worth[bike] * riskOf(bike);
            }
            return together / PARTS_OF_A_THOUSANDTH;
        }

        /** The least a BAIT must seem so that a THIEF takes it; more than it can, if he never does. */
        private int leastLure(Rail rail, int thief) {
            int bike = pick(thief, 0);
            int kind = rail.thieves.kind[thief];
            if (kind == Thieves.JUST) {
                return MOST_WORTH + 1;
            }
            if (bike == NONE) {
                return 1;
            }
            if (kind == Thieves.BEST) {
                return netOf(rail, thief, bike) + 1;
            }
            return rail.troubleOf(thief, bike, light[bike]) == 0 ? MOST_WORTH + 1 : 1;
        }

        /** A YEAR drawn from a seed, by what was learnt of the rail: how many BIKES were taken. */
        private int drawYear(Rail rail, int seed, Year year) {
            year.begin();
            long x = seed;
            int taken = 0;
            for (int n = 0; n < rail.nights; n++) {
                int come = 0;
                for (int thief = 0; thief < rail.thieves.count; thief++) {
                    x = DRAW_TIMES * x + DRAW_MORE & DRAW_MASK;
                    if (x / 65536 % 100 < rail.thieves.comes[thief]) {
                        come |= 1 << thief;
                    }
                }
                taken += letAllCome(come, rail.thieves.count, year);
            }
            return taken;
        }

        /** One NIGHT of a YEAR in which just some THIEVES (bits) come: how many BIKES were taken. */
        private int letAllCome(int come, int thieves, Year year) {
            int gone = 0;
            for (int thief = 0; thief < thieves; thief++) {
                int bike = (come >> thief & 1) == 1 ? pick(thief, gone) : NONE;
                if (bike != NONE && bike != bait) {
                    gone |= 1 << bike;
                    year.taken[bike]++;
                    year.took[thief]++;
                }
            }
            return Integer.bitCount(gone);
        }
    }

    /** The SLOTS, each with a row of numbers or nothing. */
    private static final class Slots {
        private static final int MOST_SLOTS = 4;
        private static final int MOST_NUMBERS = 60;
        private static final int WIDTHS = 4;

        private final long[] numbers = new long[MOST_SLOTS * MOST_NUMBERS];
        private final int[] size = new int[MOST_SLOTS];
        /** WIDTH and 1; 0 where there is no row. */
        private final int[] widthAndOne = new int[MOST_SLOTS];

        private boolean isSlot(int slot) {
            return slot >= 0 && slot < MOST_SLOTS;
        }

        private boolean hasRow(int slot) {
            return widthAndOne[slot] > 0;
        }

        private boolean areAlike(int slot, int other) {
            return widthAndOne[slot] == widthAndOne[other];
        }

        private int sizeOf(int slot) {
            return size[slot];
        }

        private long numberAt(int slot, int i) {
            return numbers[slot * MOST_NUMBERS + i];
        }

        /** So many from one on; with none of them that one may be the row's end. */
        private boolean hasAll(int slot, int from, int n) {
            return from >= 0 && n >= 0 && (long) from + n <= size[slot];
        }

        private int rows() {
            int found = 0;
            for (int slot = 0; slot < MOST_SLOTS; slot++) {
                if (hasRow(slot)) {
                    found++;
                }
            }
            return found;
        }

        private void make(int slot, int width, int n) {
            widthAndOne[slot] = width + 1;
            size[slot] = n;
            for (int i = 0; i < n; i++) {
                numbers[slot * MOST_NUMBERS + i] = 0;
            }
        }

        private void put(int slot, int i, long v) {
            numbers[slot * MOST_NUMBERS + i] = cut(v, widthAndOne[slot] - 1);
        }

        private static long cut(long v, int width) {
            switch (width) {
                case 0:
                    return (byte) v;
                case 1:
                    return (short) v;
                case 2:
                    return (int) v;
                default:
                    return v;
            }
        }

        private void copy(int slot, int from, int to, int k, int n) {
            System.arraycopy(numbers, slot * MOST_NUMBERS + from, numbers, to * MOST_NUMBERS + k, n);
        }

        /** Whether a row can tell a YEAR: not too long, and of no THIEVES that there are not. */
        private boolean tellsNights(int slot, int nights, int thieves) {
            if (size[slot] > nights) {
                return false;
            }
            for (int i = 0; i < size[slot]; i++) {
                if (numberAt(slot, i) >> thieves != 0) {
                    return false;
                }
            }
            return true;
        }
    }
}
