import java.lang.reflect.Method;
import java.lang.reflect.Modifier;
import java.util.ArrayList;
import java.util.Arrays;
import java.util.Collections;
import java.util.HashMap;
import java.util.List;
import java.util.Map;
import java.util.Random;
import java.util.Set;

/** Long runs of chance calls, of all kinds, on LockRail and PlainModel side by side. */
public final class ModelTest {
    /** For each call what its arguments are about. */
    private static final String[] CALLS = {
        "light place", "bike bike five", "trouble thief bike", "gain bike", "takes thief set", "wants thief",
        "part set", "many upToBikes", "risk bike", "has thief bike", "cost bike three", "all three",
        "option bike option", "would bike option", "best bike", "restless", "settle rounds", "settles", "settled",
        "better changes", "good", "pair bike bike", "wasted", "beside bike option bike", "worse bike option",
        "next bike option", "move bike place", "swap bike bike", "where bike", "lamp bright", "lit place bright",
        "watch flag", "penny", "enough", "marks", "hides bike", "bait place seems hundred",
        "caught thief place seems hundred", "lures place", "cover bike seems hundred", "careless bike seems hundred",
        "law lock", "laws", "rather thief image", "run seed", "told slot", "taken bike", "took thief",
        "years seed years three", "count counts", "keep image", "back image", "row slot four length",
        "write slot index bits", "paste slot index slot index length", "fault three", "end bytes",
    };
    private static final Set<String> DEAR = Set.of("settle", "settles", "settled", "better", "good", "pair", "restless");

    private final Random random;
    private final Due due;
    private final Map<String, Method> ours = new HashMap<>();
    private final Map<String, Method> plain = new HashMap<>();
    private final LockRail x = new LockRail();
    private final PlainModel y = new PlainModel();
    private final boolean big;
    private final StringBuilder told = new StringBuilder();

    private ModelTest(long seed, Due due, boolean big) {
        this.random = new Random(seed);
        this.due = due;
        this.big = big;
        for (Method m : LockRail.class.getDeclaredMethods()) {
            if (Modifier.isPublic(m.getModifiers())) ours.put(m.getName(), m);
        }
        for (Method m : PlainModel.class.getDeclaredMethods()) {
            if (Modifier.isPublic(m.getModifiers())) plain.put(m.getName(), m);
        }
    }

    private int upTo(int most) { return random.nextInt(most + 1); }

    private int near(int size) {
        int c = random.nextInt(20);
        if (c == 0) return -1;
        if (c == 1) return size;
        if (c == 2) return random.nextInt();
        return size <= 0 ? 0 : random.nextInt(size);
    }

    /** Small numbers often, so that several are alike. */
    private int some(int most) {
        return switch (random.nextInt(4)) {
            case 0 -> upTo(Math.min(most, 3));
            case 1 -> most - upTo(Math.min(most, 2));
            case 2 -> upTo(Math.min(most, 60));
            default -> upTo(most);
        };
    }

    /** As many of everything as there can be, and a THIEF for most things: the longest NIGHTS there are. */
    private String fullRail() {
        StringBuilder s = new StringBuilder("rail places 20 nights 60;mark price 2 known 40;watch wage 3 adds 2;");
        for (int i = 0; i < 4; i++) s.append("lamp at ").append(random.nextInt(20)).append(" bright ").append(random.nextInt(5)).append(';');
        for (int i = 0; i < 5; i++) {
            s.append("lock price ").append(20 * i).append(" cuts ").append(between(1, 50)).append(' ');
            s.append(between(1, 50)).append(' ').append(between(1, 50)).append(';');
        }
        for (int i = 0; i < 10; i++) {
            s.append("bike worth ").append(between(0, 9999)).append(" seems ").append(between(1, 300)).append(" at ").append(2 * i);
            s.append(" lock ").append(random.nextInt(5)).append(random.nextInt(4) == 0 ? " marked;" : ";");
        }
        for (int i = 0; i < 6; i++) {
            s.append("thief tool ").append(random.nextInt(3)).append(" comes ").append(between(1, 99)).append(" fears ").append(between(1, 99));
            s.append(random.nextBoolean() ? " best;" : " any;");
        }
        return s.toString();
    }

    private void goFull() {
        tell(fullRail());
        for (String line : CALLS) {
            String[] words = line.split(" ");
            if (DEAR.contains(words[0])) continue;
            for (int i = 0; i < 3; i++) {
                Object[] args = new Object[words.length - 1];
                for (int j = 1; j < words.length; j++) args[j - 1] = argument(words[j]);
                call(words[0], args);
            }
        }
        for (int i = 0; i < 6; i++) {
            int seems = between(1, 400), caught = between(1, 99);
            call("bait", 1, seems, caught);
            call("caught", i, 1, seems, caught);
        }
        call("restless");
        call("settle", 2);
        call("better", 2);
        call("pair", 8, 9);
    }

    private int between(int least, int most) { return least + random.nextInt(most - least + 1); }

    private String railText() { return random.nextInt(3) == 0 ? anyRail() : livelyRail(); }

    /** A rail on which gains and troubles are of one size, so that most calls change something. */
    private String livelyRail() {
        StringBuilder s = new StringBuilder();
        int bikes = between(2, big ? 10 : 4), thieves = between(1, big ? 6 : 3), locks = between(1, big ? 5 : 2);
        int places = Math.min(20, bikes + between(1, 6));
        s.append("rail places ").append(places).append(" nights ").append(between(1, big ? 60 : 12)).append(';');
        List<Integer> free = new ArrayList<>();
        for (int p = 0; p < places; p++) free.add(p);
        Collections.shuffle(free, random);
        for (int i = between(0, 2); i > 0; i--) s.append("lamp at ").append(random.nextInt(places)).append(" bright ").append(between(1, 9)).append(';');
        for (int i = 0; i < locks; i++) {
            s.append("lock price ").append(between(1, 40 * (i + 1))).append(" cuts ").append(between(1, 90)).append(' ');
            s.append(between(1, 90 * (i + 1))).append(' ').append(between(1, 300)).append(';');
        }
        for (int i = 0; i < bikes; i++) {
            s.append("bike worth ").append(between(20, 400)).append(" seems ").append(between(2, 40) * 10).append(" at ").append(free.get(i));
            if (random.nextInt(3) > 0) s.append(" lock ").append(random.nextInt(locks));
            s.append(random.nextInt(3) == 0 ? " marked;" : ";");
        }
        for (int i = 0; i < thieves; i++) {
            s.append("thief tool ").append(random.nextInt(3)).append(" comes ").append(between(5, 100)).append(" fears ").append(between(5, 99));
            int kind = random.nextInt(5);
            s.append(kind < 2 ? " best;" : kind < 4 ? " any;" : " just " + random.nextInt(bikes) + ";");
        }
        s.append("mark price ").append(between(0, 30)).append(" known ").append(between(10, 90)).append(random.nextInt(3) == 0 ? " hidden;" : ";");
        s.append("watch wage ").append(between(0, 20)).append(" adds ").append(between(1, 9)).append(';');
        return s.toString();
    }

    private String anyRail() {
        StringBuilder s = new StringBuilder();
        int places = 1 + upTo(big ? 19 : 6);
        int nights = 1 + upTo(big ? 59 : 11);
        s.append("rail places ").append(places).append(" nights ").append(nights).append(';');
        int lamps = upTo(big ? 4 : 2), locks = upTo(big ? 5 : 2), thieves = upTo(big ? 6 : 3);
        int bikes = Math.min(places, upTo(big ? 10 : 4));
        List<Integer> free = new ArrayList<>();
        for (int p = 0; p < places; p++) free.add(p);
        Collections.shuffle(free, random);
        if (random.nextInt(4) > 0) {
            s.append("mark price ").append(some(999) / 10).append(" known ").append(some(100));
            s.append(random.nextInt(3) == 0 ? " hidden;" : ";");
        }
        if (random.nextInt(4) > 0) s.append("watch wage ").append(some(99)).append(" adds ").append(some(99)).append(";\n");
        for (int i = 0; i < lamps; i++) s.append(" lamp at ").append(random.nextInt(places)).append(" bright ").append(some(99)).append(';');
        for (int i = 0; i < locks; i++) {
            s.append("lock price ").append(some(999) / 5).append(" cuts ").append(1 + some(300)).append(' ');
            s.append(1 + some(300)).append(' ').append(1 + some(998)).append(';');
        }
        for (int i = 0; i < bikes; i++) {
            s.append("bike worth ").append(some(9999)).append(" seems ").append(random.nextBoolean() ? some(9999) : some(300));
            s.append(" at ").append(free.get(i));
            if (locks > 0 && random.nextBoolean()) s.append(" lock ").append(random.nextInt(locks));
            if (random.nextInt(3) == 0) s.append(" marked");
            s.append(';');
        }
        for (int i = 0; i < thieves; i++) {
            s.append("thief tool ").append(random.nextInt(3)).append(" comes ").append(some(100)).append(" fears ").append(some(99));
            int kind = random.nextInt(bikes > 0 ? 5 : 4);
            s.append(kind < 2 ? " best;" : kind < 4 ? " any;" : " just " + random.nextInt(Math.max(1, bikes)) + ";");
        }
        return s.toString();
    }

    /** Puts a chance sign or TOKEN somewhere, takes some away, or cuts the end off. */
    private String spoil(String text) {
        String[] bits = {";", " ", "\n", "lamp", "rail", "bike", "mark", "watch", "0", "99999999999999999999", "21", "\u0000",
            "A", "\u00e9", "just 0", "hidden", "marked", "lock 0", "lamp at 0 bright 1;", "watch wage 1 adds 1;", "mark price 1 known 1;",
            "lock price 1 cuts 1 1 1;", "thief tool 1 comes 1 fears 1 any;", "bike worth 1 seems 1 at 0;", "rail places 1 nights 1;"};
        StringBuilder s = new StringBuilder(text);
        int times = 1 + random.nextInt(2);
        for (int i = 0; i < times; i++) {
            int at = s.length() == 0 ? 0 : random.nextInt(s.length() + 1);
            switch (random.nextInt(4)) {
                case 0 -> s.setLength(at);
                case 1 -> s.delete(at, Math.min(s.length(), at + 1 + random.nextInt(8)));
                default -> {
                    String bit = bits[random.nextInt(bits.length)];
                    int often = random.nextInt(5) == 0 ? 7 : 1;
                    int place = random.nextBoolean() ? at : s.indexOf(";", at) < 0 ? at : s.indexOf(";", at) + 1;
                    s.insert(place, bit.repeat(often));
                }
            }
        }
        return s.toString();
    }

    private void tellRail(boolean spoilt) {
        String text = railText();
        tell(spoilt ? spoil(text) : text);
    }

    private void tell(String text) {
        int length = Math.min(text.length(), 1600);
        for (int at = 0; at < length; at += 20) {
            Object[] five = new Object[5];
            for (int i = 0; i < 5; i++) {
                int v = 0;
                for (int j = 0; j < 4; j++) {
                    int k = at + 4 * i + j;
                    v = v << 8 | (k < text.length() ? text.charAt(k) & 255 : 0);
                }
                five[i] = v;
            }
            call("feed", five);
        }
        call("end", length);
        call("rail");
        call("fault", 0);
        call("fault", 1);
    }

    private Object argument(String about) {
        return switch (about) {
            case "place" -> near(y.w.places);
            case "bike" -> near(y.w.bikes.size());
            case "thief" -> near(y.w.thieves.size());
            case "lock" -> near(y.w.locks.size());
            case "option" -> near(y.w.options());
            case "set" -> near(1 << y.w.bikes.size());
            case "upToBikes" -> near(y.w.bikes.size() + 1);
            case "three" -> near(3);
            case "four" -> near(4);
            case "five" -> near(5);
            case "rounds" -> near(random.nextBoolean() ? 31 : 3);
            case "changes" -> near(random.nextBoolean() ? 61 : 3);
            case "bright" -> near(100);
            case "flag" -> random.nextBoolean();
            case "seems" -> random.nextBoolean() ? near(10000) : near(300);
            case "hundred" -> near(101);
            case "image" -> near(3);
            case "seed" -> random.nextInt(9) == 0 ? 2_000_000_000 + random.nextInt(2) : near(2_000_000_001);
            case "years" -> near(big ? 10 : 101) + (random.nextBoolean() ? 1 : 0);
            case "slot" -> random.nextInt(15) == 0 ? near(4) : random.nextInt(4);
            case "counts" -> near(13);
            case "length" -> random.nextInt(6) == 0 ? near(61) : random.nextInt(8);
            case "index" -> random.nextInt(8) == 0 ? near(8) : random.nextInt(3);
            case "bits" -> (random.nextInt(3) > 0 ? random.nextInt(1 << y.w.thieves.size()) : random.nextInt(5) > 0
                ? (long) random.nextInt(8) << 8 * random.nextInt(8) : random.nextLong());
            case "bytes" -> near(30);
            default -> throw new IllegalStateException(about);
        };
    }

    private void call(String name, Object... args) {
        told.setLength(0);
        told.append(name).append(Arrays.toString(args));
        long want, got;
        try {
            want = ((Number) plain.get(name).invoke(y, args)).longValue();
            got = ((Number) ours.get(name).invoke(x, args)).longValue();
        } catch (ReflectiveOperationException e) {
            throw new IllegalStateException(told.toString(), e);
        }
        due.is(told.toString(), want, got);
    }

    private void chanceCall() {
        String[] words = CALLS[random.nextInt(CALLS.length)].split(" ");
        if (big && DEAR.contains(words[0]) && random.nextInt(20) > 0) return;
        Object[] args = new Object[words.length - 1];
        for (int i = 1; i < words.length; i++) args[i - 1] = argument(words[i]);
        call(words[0], args);
    }

    private void go(int calls) {
        tellRail(false);
        for (int slot = 0; slot < 4; slot++) {
            if (random.nextBoolean()) call("row", slot, random.nextInt(2), random.nextInt(6));
        }
        for (int i = 0; i < calls; i++) {
            if (random.nextInt(60) == 0) tellRail(random.nextInt(3) > 0);
            chanceCall();
        }
    }

    public static void main(String[] args) {
        int runs = args.length > 0 ? Integer.parseInt(args[0]) : 300;
        long from = args.length > 1 ? Long.parseLong(args[1]) : 0;
        Due due = new Due();
        for (int seed = 0; seed < runs; seed++) {
            new ModelTest(from + seed, due, seed % 10 == 9).go(seed % 10 == 9 ? 100 : 300);
        }
        for (int seed = 0; seed < runs; seed++) {
            ModelTest t = new ModelTest(from + 1_000_000 + seed, due, seed % 2 == 0);
            for (int i = 0; i < 20; i++) t.tellRail(i % 5 > 0);
        }
        for (int seed = 0; seed < 1 + runs / 60; seed++) {
            new ModelTest(from + 2_000_000 + seed, due, true).goFull();
        }
        due.close();
    }
}
