/** A painter's rooms; the promises that the comments name are those of DOC.md. */
public final class PortraitRooms {
    public static final int NONE = -1;
    public static final int DOUBT = -2;

    private static final int LAST_DAY = 20000;
    private static final int YEAR_DAYS = 365;
    private static final int LAST_YEAR = LAST_DAY / YEAR_DAYS;
    private static final int LONGEST_STEP = 1000;
    private static final int MIDSUMMER = 182;
    private static final int LIGHT_STEP = 46;
    private static final int HOURS = 6;
    private static final int SIZES = 4;
    private static final int TOP_PRICE = 9999;
    private static final int MOST_LISTS = 60;
    private static final int MOST_HANDS = 7;
    private static final int MASTER = 0;
    private static final int LAYERS_A_DAY = 3;
    private static final int MOST_SITTERS = 20;
    private static final int MOST_PICTURES = 40;
    private static final int MOST_SITTINGS = 200;
    private static final int MOST_PLANNED = 5;
    private static final int ROBES = 5;
    private static final int PARTS = 5;
    private static final int HEAD = 0;
    private static final int DRESS = 2;
    private static final int TOP_LAYERS = 3;
    private static final int HEAD_DIGIT = 10000;
    private static final int LONGEST_DRY = 60;
    private static final int TOP_TRACES = 65535;
    private static final int TOP_DIGITS = 9999;
    private static final int DIGITS = 4;
    private static final int TOP_MARGIN = 99;
    private static final int FIRST_MARGIN = 5;

    private final Lists lists;
    private final int[] dryDays;
    private final Hand[] hands;
    private final Sitter[] sitters;
    private final Picture[] pictures;
    private final Sittings sittings;
    private final Robes robes;
    private final Plan plan;
    private int now;
    private int handsHere;
    private int sittersHere;
    private int picturesHere;
    private int picturesDone;
    private int layersEver;
    private int coinsPaid;
    private int allPrices;
    private int marginNow;

    public PortraitRooms() {
        lists = new Lists();
        dryDays = new int[PARTS];
        hands = new Hand[MOST_HANDS];
        sitters = new Sitter[MOST_SITTERS];
        pictures = new Picture[MOST_PICTURES];
        sittings = new Sittings();
        robes = new Robes();
        plan = new Plan();
        hands[MASTER] = new Hand();
        handsHere = 1;
        marginNow = FIRST_MARGIN;
    }

    public boolean list(int year, int size, int price) {
        return within(year, LAST_YEAR) && within(size, SIZES - 1) && within(price, TOP_PRICE)
            && lists.add(year, size, price);
    }

    public boolean dry(int part, int days) {
        if (!within(part, PARTS - 1) || !within(days, LONGEST_DRY)) {
            return false;
        }
        dryDays[part] = days;
        return true;
    }

    public int hand() {
        if (handsHere >= MOST_HANDS) {
            return NONE;
        }
        hands[handsHere] = new Hand();
        handsHere++;
        return handsHere - 1;
    }

    public int sitter(int from, int to) {
        if (!within(from, to) || !within(to, HOURS - 1) || sittersHere >= MOST_SITTERS) {
            return NONE;
        }
        sitters[sittersHere] = new Sitter(from, to);
        sittersHere++;
        return sittersHere - 1;
    }

    public int picture(int sitter, int size, int layers, int robe) {
        Sitter owner = sitterAt(sitter);
        boolean robeCanBe = robe == NONE || within(robe, ROBES - 1);
        if (owner == null || !within(size, SIZES - 1) || !layersCanBe(layers) || !robeCanBe
                || picturesHere >= MOST_PICTURES) {
            return NONE;
        }
        int price = lists.priceIn(now / YEAR_DAYS, size);
        pictures[picturesHere] = new Picture(sitter, layers, robe, price, now);
        picturesHere++;
        allPrices += price;
        owner.owes += price / 2;
        return picturesHere - 1;
    }

    public int go(int n) {
        if (!within(n, LONGEST_STEP)) {
            return NONE;
        }
        now = Math.min(now + n, LAST_DAY);
        return now;
    }

    public int light(int day) {
        return within(day, LAST_DAY) ? lightHours(day) : NONE;
    }

    public boolean book(int picture, int day, int hour) {
        Picture shown = pictureAt(picture);
        if (shown == null || shown.isDone() || !isNowOrLater(day)) {
            return false;
        }
        Sitter owner = sitterAt(shown.sitter);
        if (owner == null || !within(hour, lightHours(day) - 1) || !owner.canCome(hour)
                || sittings.isTaken(day, hour) || sittings.hasSitter(day, shown.sitter)
                || !sittings.add(picture, shown.sitter, day, hour)) {
            return false;
        }
        shown.sittingsBooked++;
        return true;
    }

    public boolean unbook(int picture, int day) {
        Picture shown = pictureAt(picture);
        if (shown == null || !isNowOrLater(day)) {
            return false;
        }
        int place = sittings.unusedOf(picture, day);
        if (place == NONE) {
            return false;
        }
        sittings.remove(place);
        shown.sittingsBooked--;
        return true;
    }

    public int paint(int picture, int part, int hand) {
        int against = standsAgainst(picture, part, hand);
        if (against == 0) {
            addLayer(picture, part, hand);
        }
        return against;
    }

    public int pay(int sitter, int n) {
        Sitter payer = sitterAt(sitter);
        if (payer == null || n < 1 || n > payer.owes) {
            return NONE;
        }
        payer.owes -= n;
        coinsPaid += n;
        return payer.owes;
    }

    public int planned(int day, int picture) {
        return makePlan(day) ? plan.hourOf(picture) : NONE;
    }

    public int worth(int day) {
        return makePlan(day) ? plan.bestSum : NONE;
    }

    public boolean trace(int picture, int traces) {
        Picture shown = pictureAt(picture);
        if (shown == null || !within(traces, TOP_TRACES)) {
            return false;
        }
        shown.traces = traces;
        return true;
    }

    public int from(int picture) {
        return nearestTraced(picture, NONE);
    }

    public boolean doubt(int picture) {
        int nearest = nearestTraced(picture, NONE);
        int other = nearestTraced(picture, nearest);
        return nearest != NONE && other != NONE
            && traceDistance(picture, nearest) == traceDistance(picture, other);
    }

    public boolean habit(int hand, int digits) {
        Hand told = handAt(hand);
        if (told == null || !within(digits, TOP_DIGITS)) {
            return false;
        }
        told.habits = digits;
        return true;
    }

    public boolean margin(int margin) {
        if (!within(margin, TOP_MARGIN)) {
            return false;
        }
        marginNow = margin;
        return true;
    }

    public boolean strokes(int picture, int part, int digits) {
        Part touched = partAt(picture, part);
        if (touched == null || !within(digits, TOP_DIGITS)) {
            return false;
        }
        touched.strokes = digits;
        return true;
    }

    public int whose(int picture, int part) {
        Part touched = partAt(picture, part);
        if (touched == null || touched.strokes == NONE) {
            return NONE;
        }
        int nearest = nearestHand(touched.strokes, NONE);
        int other = nearestHand(touched.strokes, nearest);
        if (nearest == NONE || other == NONE) {
            return nearest;
        }
        int more = habitDistance(other, touched.strokes) - habitDistance(nearest, touched.strokes);
        return more < marginNow ? DOUBT : nearest;
    }

    public int told(int picture, int what) {
        Picture shown = pictureAt(picture);
        if (shown == null) {
            return NONE;
        }
        switch (what) {
            case 0: return shown.isDone() ? 1 : 0;
            case 1: return shown.price;
            case 2: return shown.cameOn;
            case 3: return shown.doneOn;
            case 4: return shown.sittingsBooked;
            case 5: return shown.sittingsUsed;
            default: return NONE;
        }
    }

    public int part(int picture, int part, int what) {
        Part asked = partAt(picture, part);
        if (asked == null) {
            return NONE;
        }
        switch (what) {
            case 0: return asked.painted;
            case 1: return asked.wanted - asked.painted;
            case 2: return asked.latestDay;
            case 3: return asked.latestHand;
            case 4: return asked.isWet(now, dryDays[part]) ? 1 : 0;
            default: return NONE;
        }
    }

    public int due(int sitter) {
        Sitter asked = sitterAt(sitter);
        return asked == null ? NONE : asked.owes;
    }

    public int count(int what) {
        switch (what) {
            case 0: return now;
            case 1: return handsHere;
            case 2: return sittersHere;
            case 3: return picturesHere;
            case 4: return picturesDone;
            case 5: return sittings.there;
            case 6: return layersEver;
            case 7: return coinsPaid;
            case 8: return allPrices;
            default: return NONE;
        }
    }

    private static boolean within(int value, int last) {
        return value >= 0 && value <= last;
    }

    private static int lightHours(int day) {
        return HOURS - Math.abs(day % YEAR_DAYS - MIDSUMMER) / LIGHT_STEP;
    }

    private static boolean layersCanBe(int layers) {
        if (layers < HEAD_DIGIT) {
            return false;
        }
        int rest = layers;
        for (int part = 0; part < PARTS; part++) {
            if (rest % 10 > TOP_LAYERS) {
                return false;
            }
            rest /= 10;
        }
        return rest == 0;
    }

    private boolean isNowOrLater(int day) {
        return day >= now && day <= LAST_DAY;
    }

    private Hand handAt(int number) {
        return number >= 0 && number < handsHere ? hands[number] : null;
    }

    private Sitter sitterAt(int number) {
        return number >= 0 && number < sittersHere ? sitters[number] : null;
    }

    private Picture pictureAt(int number) {
        return number >= 0 && number < picturesHere ? pictures[number] : null;
    }

    private Part partAt(int picture, int part) {
        Picture shown = pictureAt(picture);
        return shown != null && within(part, PARTS - 1) ? shown.parts[part] : null;
    }

    /** The numbers that paint answers (part 2 of the Terms): their order is the document's. */
    private int standsAgainst(int picture, int part, int hand) {
        Picture shown = pictureAt(picture);
        Part touched = partAt(picture, part);
        Hand painter = handAt(hand);
        if (shown == null || touched == null || painter == null) {
            return NONE;
        }
        if (!touched.wantsMore()) {
            return 1;
        }
        if (touched.isWet(now, dryDays[part])) {
            return 2;
        }
        if (part == HEAD && hand != MASTER) {
            return 3;
        }
        if (painter.layersOn(now) >= LAYERS_A_DAY) {
            return 4;
        }
        if (part == HEAD && sittings.unusedOf(picture, now) == NONE) {
            return 5;
        }
        if (part == DRESS && robes.isAway(shown.robe, picture, now)) {
            return 6;
        }
        return 0;
    }

    private void addLayer(int picture, int part, int hand) {
        Picture shown = pictureAt(picture);
        Part touched = partAt(picture, part);
        Hand painter = handAt(hand);
        if (shown == null || touched == null || painter == null) {
            return;
        }
        touched.painted++;
        touched.latestDay = now;
        touched.latestHand = hand;
        painter.addLayerOn(now);
        layersEver++;
        if (part == HEAD) {
            sittings.use(sittings.unusedOf(picture, now));
            shown.sittingsUsed++;
        }
        if (part == DRESS) {
            robes.take(shown.robe, picture, now);
        }
        shown.layersLeft--;
        if (shown.layersLeft == 0) {
            finish(shown);
        }
    }

    private void finish(Picture shown) {
        shown.doneOn = now;
        picturesDone++;
        Sitter owner = sitterAt(shown.sitter);
        if (owner != null) {
            owner.owes += shown.price - shown.price / 2;
        }
    }

    /** Whether there is a PLAN of the day; if so, it stands in the field plan. */
    private boolean makePlan(int day) {
        if (!isNowOrLater(day)) {
            return false;
        }
        plan.clear();
        for (int number = 0; number < picturesHere; number++) {
            Picture shown = pictureAt(number);
            if (shown != null && shown.wantsHead() && !sittings.hasSitter(day, shown.sitter)) {
                int weight = 1 + now - shown.cameOn;
                if (!plan.add(number, shown.sitter, hoursFor(shown.sitter, day), weight)) {
                    return false;
                }
            }
        }
        if (plan.size == 0) {
            return false;
        }
        search(plan, 0, 0, 0, plan.allWeights);
        return true;
    }

    /** A bit for each HOUR of the day that is LIGHT, free, and in which the sitter can come. */
    private int hoursFor(int sitter, int day) {
        Sitter owner = sitterAt(sitter);
        int bits = 0;
        int hours = lightHours(day);
        for (int hour = 0; hour < hours; hour++) {
            if (owner != null && owner.canCome(hour) && !sittings.isTaken(day, hour)) {
                bits |= 1 << hour;
            }
        }
        return bits;
    }

    /**
     * Tries the plans in the document's order, so that the first one found of like sums is kept;
     * a branch that can't pass the best sum with all weights that are left is not gone into.
     */
    private static void search(Plan plan, int place, int taken, int sum, int left) {
        if (sum + left <= plan.bestSum) {
            return;
        }
        if (place >= plan.size || place >= MOST_PLANNED) {
            plan.keep(sum);
            return;
        }
        int weight = plan.weights[place];
        int open = plan.sitterIsPlaced(place) ? 0 : plan.openHours[place] & ~taken;
        for (int hour = 0; hour < HOURS; hour++) {
            int bit = 1 << hour;
            if ((open & bit) != 0) {
                plan.tried[place] = hour;
                search(plan, place + 1, taken | bit, sum + weight, left - weight);
            }
        }
        plan.tried[place] = NONE;
        search(plan, place + 1, taken, sum, left - weight);
    }

    /** The PICTURE of a lesser number whose TRACES are nearest, the skipped one left out, or NONE. */
    private int nearestTraced(int picture, int skipped) {
        Picture shown = pictureAt(picture);
        if (shown == null || shown.traces == NONE) {
            return NONE;
        }
        int nearest = NONE;
        int least = 0;
        for (int number = 0; number < picture; number++) {
            int distance = traceDistance(picture, number);
            if (number != skipped && distance != NONE && (nearest == NONE || distance < least)) {
                nearest = number;
                least = distance;
            }
        }
        return nearest;
    }

    /** In how many bits the TRACES of two PICTURES differ; NONE if one has none. */
    private int traceDistance(int picture, int other) {
        Picture one = pictureAt(picture);
        Picture two = pictureAt(other);
        if (one == null || two == null || one.traces == NONE || two.traces == NONE) {
            return NONE;
        }
        return Integer.bitCount(one.traces ^ two.traces);
    }

    /** The HAND whose HABITS are nearest to the strokes, the skipped one left out, or NONE. */
    private int nearestHand(int strokes, int skipped) {
        int nearest = NONE;
        int least = 0;
        for (int number = 0; number < handsHere; number++) {
            int distance = habitDistance(number, strokes);
            if (number != skipped && distance != NONE && (nearest == NONE || distance < least)) {
                nearest = number;
                least = distance;
            }
        }
        return nearest;
    }

    /** The sum of squares by which strokes differ from a HAND's HABITS; NONE if it has none. */
    private int habitDistance(int hand, int strokes) {
        Hand known = handAt(hand);
        if (known == null || known.habits == NONE) {
            return NONE;
        }
        int sum = 0;
        int one = known.habits;
        int two = strokes;
        for (int digit = 0; digit < DIGITS; digit++) {
            int differ = one % 10 - two % 10;
            sum += differ * differ;
            one /= 10;
            two /= 10;
        }
        return sum;
    }

    /** The LISTS in the order in which they were told. */
    private static final class Lists {
        final int[] years;
        final int[] sizes;
        final int[] prices;
        int known;

        Lists() {
            years = new int[MOST_LISTS];
            sizes = new int[MOST_LISTS];
            prices = new int[MOST_LISTS];
        }

        boolean add(int year, int size, int price) {
            if (known >= MOST_LISTS) {
                return false;
            }
            years[known] = year;
            sizes[known] = size;
            prices[known] = price;
            known++;
            return true;
        }

        int priceIn(int year, int size) {
            int price = 0;
            int greatest = 0;
            for (int i = 0; i < known; i++) {
                if (sizes[i] == size && years[i] <= year && years[i] >= greatest) {
                    greatest = years[i];
                    price = prices[i];
                }
            }
            return price;
        }
    }

    private static final class Hand {
        int habits;
        int latestDay;
        int layersThen;

        Hand() {
            habits = NONE;
            latestDay = NONE;
        }

        int layersOn(int day) {
            return latestDay == day ? layersThen : 0;
        }

        void addLayerOn(int day) {
            layersThen = layersOn(day) + 1;
            latestDay = day;
        }
    }

    private static final class Sitter {
        final int first;
        final int last;
        int owes;

        Sitter(int first, int last) {
            this.first = first;
            this.last = last;
        }

        boolean canCome(int hour) {
            return hour >= first && hour <= last;
        }
    }

    private static final class Part {
        final int wanted;
        int painted;
        int latestDay;
        int latestHand;
        int strokes;

        Part(int wanted) {
            this.wanted = wanted;
            latestDay = NONE;
            latestHand = NONE;
            strokes = NONE;
        }

        boolean wantsMore() {
            return painted < wanted;
        }

        boolean isWet(int day, int dryDays) {
            return latestDay != NONE && day - latestDay < dryDays;
        }
    }

    private static final class Picture {
        final int sitter;
        final int robe;
        final int price;
        final int cameOn;
        final Part[] parts;
        int doneOn;
        int layersLeft;
        int sittingsBooked;
        int sittingsUsed;
        int traces;

        Picture(int sitter, int layers, int robe, int price, int cameOn) {
            this.sitter = sitter;
            this.robe = robe;
            this.price = price;
            this.cameOn = cameOn;
            parts = new Part[PARTS];
            int rest = layers;
            for (int part = PARTS - 1; part >= 0; part--) {
                parts[part] = new Part(rest % 10);
                layersLeft += rest % 10;
                rest /= 10;
            }
            doneOn = NONE;
            traces = NONE;
        }

        boolean isDone() {
            return doneOn != NONE;
        }

        boolean wantsHead() {
            Part head = parts[HEAD];
            return head != null && head.wantsMore();
        }
    }

    /** The SITTINGS that are there, used ones too, in no order. */
    private static final class Sittings {
        final int[] pictures;
        final int[] sitters;
        final int[] days;
        final int[] hours;
        final boolean[] used;
        int there;

        Sittings() {
            pictures = new int[MOST_SITTINGS];
            sitters = new int[MOST_SITTINGS];
            days = new int[MOST_SITTINGS];
            hours = new int[MOST_SITTINGS];
            used = new boolean[MOST_SITTINGS];
        }

        boolean add(int picture, int sitter, int day, int hour) {
            if (there >= MOST_SITTINGS) {
                return false;
            }
            pictures[there] = picture;
            sitters[there] = sitter;
            days[there] = day;
            hours[there] = hour;
            used[there] = false;
            there++;
            return true;
        }

        void remove(int place) {
            if (place < 0 || place >= there) {
                return;
            }
            there--;
            pictures[place] = pictures[there];
            sitters[place] = sitters[there];
            days[place] = days[there];
            hours[place] = hours[there];
            used[place] = used[there];
        }

        void use(int place) {
            if (place >= 0 && place < there) {
                used[place] = true;
            }
        }

        int unusedOf(int picture, int day) {
            for (int i = 0; i < there; i++) {
                if (pictures[i] == picture && days[i] == day && !used[i]) {
                    return i;
                }
            }
            return NONE;
        }

        boolean isTaken(int day, int hour) {
            for (int i = 0; i < there; i++) {
                if (days[i] == day && hours[i] == hour) {
                    return true;
                }
            }
            return false;
        }

        boolean hasSitter(int day, int sitter) {
            for (int i = 0; i < there; i++) {
                if (days[i] == day && sitters[i] == sitter) {
                    return true;
                }
            }
            return false;
        }
    }

    /** For each ROBE the PICTURE that had it last, and the DAY. */
    private static final class Robes {
        final int[] pictures;
        final int[] days;

        Robes() {
            pictures = new int[ROBES];
            days = new int[ROBES];
            for (int robe = 0; robe < ROBES; robe++) {
                pictures[robe] = NONE;
                days[robe] = NONE;
            }
        }

        boolean isAway(int robe, int picture, int day) {
            return within(robe, ROBES - 1) && days[robe] == day && pictures[robe] != picture;
        }

        void take(int robe, int picture, int day) {
            if (within(robe, ROBES - 1)) {
                pictures[robe] = picture;
                days[robe] = day;
            }
        }
    }

    /** The room in which the PLAN of a DAY is made; every asking fills it anew. */
    private static final class Plan {
        final int[] pictures;
        final int[] sitters;
        final int[] openHours;
        final int[] weights;
        final int[] tried;
        final int[] best;
        int size;
        int allWeights;
        int bestSum;

        Plan() {
            pictures = new int[MOST_PLANNED];
            sitters = new int[MOST_PLANNED];
            openHours = new int[MOST_PLANNED];
            weights = new int[MOST_PLANNED];
            tried = new int[MOST_PLANNED];
            best = new int[MOST_PLANNED];
        }

        void clear() {
            size = 0;
            allWeights = 0;
            // Below every sum, so that a plan without any HOUR is kept too.
            bestSum = NONE;
        }

        boolean add(int picture, int sitter, int hours, int weight) {
            if (size >= MOST_PLANNED) {
                return false;
            }
            pictures[size] = picture;
            sitters[size] = sitter;
            openHours[size] = hours;
            weights[size] = weight;
            allWeights += weight;
            size++;
            return true;
        }

        boolean sitterIsPlaced(int place) {
            for (int i = 0; i < place && i < MOST_PLANNED; i++) {
                if (sitters[i] == sitters[place] && tried[i] != NONE) {
                    return true;
                }
            }
            return false;
        }

        void keep(int sum) {
            bestSum = sum;
            for (int i = 0; i < size; i++) {
                best[i] = tried[i];
            }
        }

        int hourOf(int picture) {
            for (int i = 0; i < size; i++) {
                if (pictures[i] == picture) {
                    return best[i];
                }
            }
            return NONE;
        }
    }
}
