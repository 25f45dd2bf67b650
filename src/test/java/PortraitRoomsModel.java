import java.util.ArrayList;
import java.util.List;
import java.util.Random;

/** Long runs of mixed calls, each answer held against a second, naive telling of the document. */
public final class PortraitRoomsModel {
    private static final int RUNS = 1500;
    private static final int CALLS = 512;
    private static final int[] EDGES = {
        Integer.MIN_VALUE, -10000, -2, -1, 55, 60, 61, 99, 100, 1000, 1001, 9999, 10000,
        20000, 20001, 33333, 65535, 65536, 100000, Integer.MAX_VALUE};
    private static int wrong = 0;

    /** Events are kept as they happen, and every answer is found by going through them. */
    private static final class Model {
        int now = 0;
        int margin = 5;
        int hands = 1;
        final List<int[]> lists = new ArrayList<>();    // year, size, price
        final int[] dry = new int[5];
        final List<int[]> sitters = new ArrayList<>();  // from, to
        final List<int[]> pictures = new ArrayList<>(); // sitter, price, came, robe, five wants
        final List<int[]> sittings = new ArrayList<>(); // picture, day, hour, used
        final List<int[]> layers = new ArrayList<>();   // picture, part, hand, day
        final List<int[]> paid = new ArrayList<>();     // sitter, coins
        final Integer[] traces = new Integer[40];
        final String[] habits = new String[7];
        final String[][] strokes = new String[40][5];

        boolean isPicture(int p) {
            return p >= 0 && p < pictures.size();
        }

        boolean isSitter(int s) {
            return s >= 0 && s < sitters.size();
        }

        boolean isHand(int h) {
            return h >= 0 && h < hands;
        }

        boolean isPart(int p) {
            return p >= 0 && p < 5;
        }

        int lightOf(int day) {
            int d = day % 365;
            int differ = d > 182 ? d - 182 : 182 - d;
            int light = 6;
            while (differ >= 46) {
                differ -= 46;
                light--;
            }
            return light;
        }

        boolean list(int year, int size, int price) {
            if (year < 0 || year > 54 || size < 0 || size > 3 || price < 0 || price > 9999 || lists.size() == 60) {
                return false;
            }
            lists.add(new int[] {year, size, price});
            return true;
        }

        int priceNow(int size) {
            for (int year = now / 365; year >= 0; year--) {
                for (int i = lists.size() - 1; i >= 0; i--) {
                    if (lists.get(i)[0] == year && lists.get(i)[1] == size) {
                        return lists.get(i)[2];
                    }
                }
            }
            return 0;
        }

        boolean dry(int part, int days) {
            if (!isPart(part) || days < 0 || days > 60) {
                return false;
            }
            dry[part] = days;
            return true;
        }

        int hand() {
            return hands == 7 ? -1 : hands++;
        }

        int sitter(int from, int to) {
            if (from < 0 || to > 5 || from > to || sitters.size() == 20) {
                return -1;
            }
            sitters.add(new int[] {from, to});
            return sitters.size() - 1;
        }

        int picture(int sitter, int size, int layers, int robe) {
            String digits = Integer.toString(layers);
            if (!isSitter(sitter) || size < 0 || size > 3 || !digits.matches("[1-3][0-3]{4}")
                    || robe < -1 || robe > 4 || pictures.size() == 40) {
                return -1;
            }
            int[] row = new int[9];
            row[0] = sitter;
            row[1] = priceNow(size);
            row[2] = now;
            row[3] = robe;
            for (int part = 0; part < 5; part++) {
                row[4 + part] = digits.charAt(part) - '0';
            }
            pictures.add(row);
            return pictures.size() - 1;
        }

        int go(int n) {
            if (n < 0 || n > 1000) {
                return -1;
            }
            now = now + n > 20000 ? 20000 : now + n;
            return now;
        }

        int light(int day) {
            return day < 0 || day > 20000 ? -1 : lightOf(day);
        }

        List<int[]> layersOf(int picture, int part) {
            List<int[]> found = new ArrayList<>();
            for (int[] layer : layers) {
                if (layer[0] == picture && layer[1] == part) {
                    found.add(layer);
                }
            }
            return found;
        }

        int wantsYet(int picture, int part) {
            return pictures.get(picture)[4 + part] - layersOf(picture, part).size();
        }

        boolean done(int picture) {
            boolean all = true;
            for (int part = 0; part < 5; part++) {
                all &= wantsYet(picture, part) == 0;
            }
            return all;
        }

        int doneOn(int picture) {
            int latest = -1;
            for (int[] layer : layers) {
                if (layer[0] == picture) {
                    latest = Math.max(latest, layer[3]);
                }
            }
            return done(picture) ? latest : -1;
        }

        boolean hourTaken(int day, int hour) {
            return sittings.stream().anyMatch(s -> s[1] == day && s[2] == hour);
        }

        boolean comes(int sitter, int day) {
            return sittings.stream().anyMatch(s -> s[1] == day && pictures.get(s[0])[0] == sitter);
        }

        boolean canSit(int picture, int day, int hour) {
            int[] hours = sitters.get(pictures.get(picture)[0]);
            return hour >= 0 && hour < lightOf(day) && hour >= hours[0] && hour <= hours[1] && !hourTaken(day, hour);
        }

        boolean book(int picture, int day, int hour) {
            if (!isPicture(picture) || day < now || day > 20000 || done(picture) || !canSit(picture, day, hour)
                    || comes(pictures.get(picture)[0], day) || sittings.size() == 200) {
                return false;
            }
            sittings.add(new int[] {picture, day, hour, 0});
            return true;
        }

        int[] unused(int picture, int day) {
            for (int[] s : sittings) {
                if (s[0] == picture && s[1] == day && s[3] == 0) {
                    return s;
                }
            }
            return null;
        }

        boolean unbook(int picture, int day) {
            int[] s = unused(picture, day);
            if (s == null || day < now) {
                return false;
            }
            sittings.remove(s);
            return true;
        }

        boolean wet(int picture, int part) {
            return layersOf(picture, part).stream().anyMatch(l -> now - l[3] < dry[part]);
        }

        int paint(int picture, int part, int hand) {
            if (!isPicture(picture) || !isPart(part) || !isHand(hand)) {
                return -1;
            }
            int robe = pictures.get(picture)[3];
            int[] sitting = unused(picture, now);
            boolean[] against = {
                false,
                wantsYet(picture, part) <= 0,
                wet(picture, part),
                part == 0 && hand != 0,
                layers.stream().filter(l -> l[2] == hand && l[3] == now).count() >= 3,
                part == 0 && sitting == null,
                part == 2 && robe != -1 && layers.stream().anyMatch(l ->
                    l[1] == 2 && l[3] == now && l[0] != picture && pictures.get(l[0])[3] == robe)};
            for (int i = 1; i <= 6; i++) {
                if (against[i]) {
                    return i;
                }
            }
            if (part == 0) {
                sitting[3] = 1;
            }
            layers.add(new int[] {picture, part, hand, now});
            return 0;
        }

        int due(int sitter) {
            if (!isSitter(sitter)) {
                return -1;
            }
            int sum = 0;
            for (int p = 0; p < pictures.size(); p++) {
                int[] row = pictures.get(p);
                if (row[0] == sitter) {
                    sum += done(p) ? row[1] : row[1] / 2;
                }
            }
            for (int[] coins : paid) {
                sum -= coins[0] == sitter ? coins[1] : 0;
            }
            return sum;
        }

        int pay(int sitter, int n) {
            if (!isSitter(sitter) || n < 1 || n > due(sitter)) {
                return -1;
            }
            paid.add(new int[] {sitter, n});
            return due(sitter);
        }

        List<Integer> candidates(int day) {
            List<Integer> found = new ArrayList<>();
            for (int p = 0; p < pictures.size(); p++) {
                if (!done(p) && wantsYet(p, 0) > 0 && !comes(pictures.get(p)[0], day)) {
                    found.add(p);
                }
            }
            return found;
        }

        /** Every row of hours (6 is none) in the document's order: the first of the greatest sums. */
        int[] plan(int day) {
            if (day < now || day > 20000) {
                return null;
            }
            List<Integer> c = candidates(day);
            if (c.isEmpty() || c.size() > 5) {
                return null;
            }
            int rows = (int) Math.round(Math.pow(7, c.size()));
            int[] best = null;
            for (int row = 0; row < rows; row++) {
                int[] hours = new int[c.size() + 1];
                int rest = row;
                for (int i = c.size() - 1; i >= 0; i--) {
                    hours[i] = rest % 7;
                    rest /= 7;
                }
                int sum = sumOf(c, hours, day);
                if (sum >= 0 && (best == null || sum > best[c.size()])) {
                    hours[c.size()] = sum;
                    best = hours;
                }
            }
            return best;
        }

        int sumOf(List<Integer> c, int[] hours, int day) {
            int sum = 0;
            for (int i = 0; i < c.size(); i++) {
                if (hours[i] == 6) {
                    continue;
                }
                for (int j = 0; j < i; j++) {
                    boolean sameSitter = pictures.get(c.get(i))[0] == pictures.get(c.get(j))[0];
                    if (hours[j] == hours[i] || hours[j] != 6 && sameSitter) {
                        return -1;
                    }
                }
                if (!canSit(c.get(i), day, hours[i])) {
                    return -1;
                }
                sum += 1 + now - pictures.get(c.get(i))[2];
            }
            return sum;
        }

        int planned(int day, int picture) {
            int[] plan = plan(day);
            int place = plan == null ? -1 : candidates(day).indexOf(picture);
            return place < 0 || plan[place] == 6 ? -1 : plan[place];
        }

        int worth(int day) {
            int[] plan = plan(day);
            return plan == null ? -1 : plan[plan.length - 1];
        }

        boolean trace(int picture, int t) {
            if (!isPicture(picture) || t < 0 || t > 65535) {
                return false;
            }
            traces[picture] = t;
            return true;
        }

        List<Integer> sources(int picture) {
            List<Integer> found = new ArrayList<>();
            if (!isPicture(picture) || traces[picture] == null) {
                return found;
            }
            for (int bits = 0; bits <= 16 && found.isEmpty(); bits++) {
                for (int p = 0; p < picture; p++) {
                    if (traces[p] != null && differingBits(traces[p], traces[picture]) == bits) {
                        found.add(p);
                    }
                }
            }
            return found;
        }

        int differingBits(int a, int b) {
            int bits = 0;
            for (int i = 0; i < 16; i++) {
                bits += (a >> i & 1) != (b >> i & 1) ? 1 : 0;
            }
            return bits;
        }

        int from(int picture) {
            List<Integer> found = sources(picture);
            return found.isEmpty() ? -1 : found.get(0);
        }

        boolean doubt(int picture) {
            return sources(picture).size() > 1;
        }

        boolean habit(int hand, int digits) {
            if (!isHand(hand) || digits < 0 || digits > 9999) {
                return false;
            }
            habits[hand] = String.format("%04d", digits);
            return true;
        }

        boolean margin(int m) {
            if (m < 0 || m > 99) {
                return false;
            }
            margin = m;
            return true;
        }

        boolean strokes(int picture, int part, int digits) {
            if (!isPicture(picture) || !isPart(part) || digits < 0 || digits > 9999) {
                return false;
            }
            strokes[picture][part] = String.format("%04d", digits);
            return true;
        }

        int whose(int picture, int part) {
            if (!isPicture(picture) || !isPart(part) || strokes[picture][part] == null) {
                return -1;
            }
            int best = -1;
            int[] sums = new int[7];
            for (int h = 0; h < 7; h++) {
                for (int i = 0; i < 4 && habits[h] != null; i++) {
                    int differ = habits[h].charAt(i) - strokes[picture][part].charAt(i);
                    sums[h] += differ * differ;
                }
                if (habits[h] != null && (best < 0 || sums[h] < sums[best])) {
                    best = h;
                }
            }
            for (int h = 0; h < 7; h++) {
                if (h != best && habits[h] != null && sums[h] < sums[best] + margin) {
                    return -2;
                }
            }
            return best;
        }

        int told(int picture, int what) {
            if (!isPicture(picture) || what < 0 || what > 5) {
                return -1;
            }
            int booked = (int) sittings.stream().filter(s -> s[0] == picture).count();
            int used = (int) sittings.stream().filter(s -> s[0] == picture && s[3] == 1).count();
            int[] row = pictures.get(picture);
            return new int[] {done(picture) ? 1 : 0, row[1], row[2], doneOn(picture), booked, used}[what];
        }

        int part(int picture, int part, int what) {
            if (!isPicture(picture) || !isPart(part) || what < 0 || what > 4) {
                return -1;
            }
            List<int[]> painted = layersOf(picture, part);
            int n = painted.size();
            int day = n == 0 ? -1 : painted.get(n - 1)[3];
            int hand = n == 0 ? -1 : painted.get(n - 1)[2];
            return new int[] {n, wantsYet(picture, part), day, hand, wet(picture, part) ? 1 : 0}[what];
        }

        int count(int what) {
            int done = 0;
            int prices = 0;
            for (int p = 0; p < pictures.size(); p++) {
                done += done(p) ? 1 : 0;
                prices += pictures.get(p)[1];
            }
            int coins = paid.stream().mapToInt(c -> c[1]).sum();
            int[] all = {now, hands, sitters.size(), pictures.size(), done, sittings.size(), layers.size(), coins, prices};
            return what < 0 || what > 8 ? -1 : all[what];
        }
    }

    private static void same(int run, int call, String name, int[] a, int got, int want) {
        if (got != want && wrong++ < 20) {
            System.out.println("run " + run + " call " + call + ": " + name + java.util.Arrays.toString(a)
                + " answered " + got + ", due is " + want);
        }
    }

    private static int bit(boolean b) {
        return b ? 1 : 0;
    }

    /** A number of 0 .. below, now and then one next to it or an edge of some kind. */
    private static int some(Random r, int below) {
        int kind = r.nextInt(60);
        if (kind == 0) {
            return EDGES[r.nextInt(EDGES.length)];
        }
        if (kind == 1) {
            return below;
        }
        return below < 1 ? 0 : r.nextInt(below);
    }

    private static int someLayers(Random r, boolean small) {
        int layers = 1 + r.nextInt(small ? 1 : 3);
        for (int i = 0; i < 4; i++) {
            layers = layers * 10 + r.nextInt(r.nextInt(40) == 0 ? 5 : small ? 2 : 4);
        }
        return layers;
    }

    private static int someDay(Random r, Model m) {
        int kind = r.nextInt(12);
        if (kind == 0) {
            return some(r, 20001);
        }
        return kind == 1 ? m.now - r.nextInt(3) : m.now + r.nextInt(4);
    }

    private static void oneCall(PortraitRooms x, Model m, Random r, int run, int call) {
        boolean small = run % 2 == 0;
        int p = some(r, m.pictures.size());
        int s = some(r, m.sitters.size());
        int h = r.nextBoolean() ? 0 : some(r, m.hands);
        int part = some(r, 5);
        int digits = some(r, r.nextBoolean() ? 10000 : 30);
        int day = someDay(r, m);
        int[] a = {p, s, h, part, digits, day};
        switch (r.nextInt(34)) {
            case 0: a[0] = some(r, r.nextBoolean() ? 55 : 3); a[1] = some(r, 4);
                same(run, call, "list", a, bit(x.list(a[0], a[1], digits)), bit(m.list(a[0], a[1], digits))); break;
            case 1: a[0] = some(r, small ? 3 : 61);
                same(run, call, "dry", a, bit(x.dry(part, a[0])), bit(m.dry(part, a[0]))); break;
            case 2: same(run, call, "hand", a, x.hand(), m.hand()); break;
            case 3: a[0] = some(r, 6); a[1] = some(r, 6);
                same(run, call, "sitter", a, x.sitter(a[0], a[1]), m.sitter(a[0], a[1])); break;
            case 4: case 5: case 6: a[0] = some(r, 4); a[2] = someLayers(r, small); a[3] = some(r, 6) - 1;
                // Few pictures in every third run, so that plans can be asked for.
                if (run % 3 == 0 && m.candidates(m.now).size() >= 5) { break; }
                same(run, call, "picture", a, x.picture(s, a[0], a[2], a[3]), m.picture(s, a[0], a[2], a[3])); break;
            case 7: case 8: a[0] = r.nextInt(8) == 0 ? some(r, 1001) : r.nextInt(3);
                same(run, call, "go", a, x.go(a[0]), m.go(a[0])); break;
            case 9: a[0] = some(r, 20001);
                same(run, call, "light", a, x.light(a[0]), m.light(a[0])); break;
            case 10: case 11: case 12: case 13: a[0] = some(r, 6);
                same(run, call, "book", a, bit(x.book(p, day, a[0])), bit(m.book(p, day, a[0]))); break;
            case 14: same(run, call, "unbook", a, bit(x.unbook(p, day)), bit(m.unbook(p, day))); break;
            case 15: case 16: case 17: case 18: case 19:
                same(run, call, "paint", a, x.paint(p, part, h), m.paint(p, part, h)); break;
            case 20: a[0] = some(r, 1 + Math.max(0, m.due(s)));
                same(run, call, "pay", a, x.pay(s, a[0]), m.pay(s, a[0])); break;
            case 21: case 22: same(run, call, "planned", a, x.planned(day, p), m.planned(day, p)); break;
            case 23: same(run, call, "worth", a, x.worth(day), m.worth(day)); break;
            case 24: a[0] = some(r, r.nextBoolean() ? 65536 : 8);
                same(run, call, "trace", a, bit(x.trace(p, a[0])), bit(m.trace(p, a[0]))); break;
            case 25: same(run, call, "from", a, x.from(p), m.from(p)); break;
            case 26: same(run, call, "doubt", a, bit(x.doubt(p)), bit(m.doubt(p))); break;
            case 27: same(run, call, "habit", a, bit(x.habit(h, digits)), bit(m.habit(h, digits))); break;
            case 28: a[0] = some(r, r.nextBoolean() ? 100 : 6);
                same(run, call, "margin", a, bit(x.margin(a[0])), bit(m.margin(a[0]))); break;
            case 29: same(run, call, "strokes", a, bit(x.strokes(p, part, digits)), bit(m.strokes(p, part, digits))); break;
            case 30: same(run, call, "whose", a, x.whose(p, part), m.whose(p, part)); break;
            case 31: a[5] = some(r, 6);
                same(run, call, "told", a, x.told(p, a[5]), m.told(p, a[5])); break;
            case 32: a[5] = some(r, 5);
                same(run, call, "part", a, x.part(p, part, a[5]), m.part(p, part, a[5])); break;
            default: a[5] = some(r, 9);
                same(run, call, "due", a, x.due(s), m.due(s));
                same(run, call, "count", a, x.count(a[5]), m.count(a[5])); break;
        }
    }

    /**
     * All that can be asked of the state, so that a change by a refused call is seen. The document
     * leaves calls behind the 512th free; this class answers them as it does the others.
     */
    private static void wholeState(PortraitRooms x, Model m, int run) {
        for (int what = -1; what <= 9; what++) {
            same(run, CALLS, "count", new int[] {what}, x.count(what), m.count(what));
        }
        for (int s = 0; s < m.sitters.size(); s++) {
            same(run, CALLS, "due", new int[] {s}, x.due(s), m.due(s));
        }
        for (int p = 0; p < m.pictures.size(); p++) {
            for (int what = 0; what <= 5; what++) {
                same(run, CALLS, "told", new int[] {p, what}, x.told(p, what), m.told(p, what));
            }
            for (int part = 0; part < 5; part++) {
                for (int what = 0; what <= 4; what++) {
                    int[] a = {p, part, what};
                    same(run, CALLS, "part", a, x.part(p, part, what), m.part(p, part, what));
                }
                same(run, CALLS, "whose", new int[] {p, part}, x.whose(p, part), m.whose(p, part));
            }
            same(run, CALLS, "from", new int[] {p}, x.from(p), m.from(p));
            same(run, CALLS, "doubt", new int[] {p}, bit(x.doubt(p)), bit(m.doubt(p)));
        }
    }

    public static void main(String[] args) {
        for (int run = 0; run < RUNS; run++) {
            Random r = new Random(run);
            PortraitRooms x = new PortraitRooms();
            Model m = new Model();
            for (int call = 0; call < CALLS; call++) {
                oneCall(x, m, r, run, call);
            }
            wholeState(x, m, run);
        }
        System.out.println(wrong == 0 ? RUNS + " runs are as the model's" : wrong + " answers differ from the model's");
        if (wrong != 0) {
            System.exit(1);
        }
    }
}
