/** One method for each promise of DOC.md: ordinary calls, the edges it names, and wrong ones. */
public final class PortraitRoomsPromises {
    private static final int NONE = PortraitRooms.NONE;
    private static final int[] FAR = {Integer.MIN_VALUE, -2, Integer.MAX_VALUE};
    private static int wrong = 0;

    private static void due(String call, int got, int want) {
        if (got != want) {
            wrong++;
            System.out.println(call + " answered " + got + ", due is " + want);
        }
    }

    private static void yes(String call, boolean got) {
        due(call, got ? 1 : 0, 1);
    }

    private static void no(String call, boolean got) {
        due(call, got ? 1 : 0, 0);
    }

    private static void goTo(PortraitRooms x, int day) {
        for (int i = 0; i < 40 && x.count(0) < day; i++) {
            x.go(Math.min(1000, day - x.count(0)));
        }
    }

    /** Rooms with a sitter of all hours (0) and one of the first alone (1). */
    private static PortraitRooms twoSitters() {
        PortraitRooms x = new PortraitRooms();
        x.sitter(0, 5);
        x.sitter(0, 0);
        return x;
    }

    private static void promise1New() {
        PortraitRooms x = new PortraitRooms();
        due("1 NONE", PortraitRooms.NONE, -1);
        due("1 DOUBT", PortraitRooms.DOUBT, -2);
        for (int what = 0; what <= 8; what++) {
            due("1 new count(" + what + ")", x.count(what), what == 1 ? 1 : 0);
        }
        due("1 new sitter's due", x.due(0), NONE);
        due("1 new told", x.told(0, 0), NONE);
        yes("1 the master is there", x.habit(0, 0));
        no("1 no other hand is there", x.habit(1, 0));
    }

    private static void promise2List() {
        PortraitRooms x = twoSitters();
        for (int far : FAR) {
            no("2 year " + far, x.list(far, 0, 1));
            no("2 size " + far, x.list(0, far, 1));
            no("2 price " + far, x.list(0, 0, far));
        }
        no("2 year -1", x.list(-1, 0, 1));
        no("2 year 55", x.list(55, 0, 1));
        no("2 size -1", x.list(0, -1, 1));
        no("2 size 4", x.list(0, 4, 1));
        no("2 price -1", x.list(0, 0, -1));
        no("2 price 10000", x.list(0, 0, 10000));
        due("2 no price without a list", x.told(x.picture(0, 0, 10000, NONE), 1), 0);
        yes("2 year 2", x.list(2, 0, 30));
        yes("2 year 1", x.list(1, 0, 20));
        yes("2 another size", x.list(1, 3, 9999));
        due("2 before the first year", x.told(x.picture(0, 0, 10000, NONE), 1), 0);
        goTo(x, 364);
        due("2 last day of year 0", x.told(x.picture(0, 0, 10000, NONE), 1), 0);
        goTo(x, 365);
        due("2 first day of year 1", x.told(x.picture(0, 0, 10000, NONE), 1), 20);
        due("2 the other size", x.told(x.picture(0, 3, 10000, NONE), 1), 9999);
        due("2 a size without list", x.told(x.picture(0, 1, 10000, NONE), 1), 0);
        yes("2 year 1 again", x.list(1, 0, 21));
        yes("2 year 0 later told", x.list(0, 0, 7));
        due("2 latest told of a year", x.told(x.picture(0, 0, 10000, NONE), 1), 21);
        yes("2 down to 0", x.list(1, 0, 0));
        due("2 a price of 0 is in force", x.told(x.picture(0, 0, 10000, NONE), 1), 0);
        due("2 told prices stay", x.told(4, 1), 9999);
        goTo(x, 365 * 5);
        due("2 the greatest year", x.told(x.picture(0, 0, 10000, NONE), 1), 30);
        PortraitRooms y = twoSitters();
        for (int i = 0; i < 60; i++) {
            yes("2 list " + i, y.list(54, 0, i));
        }
        no("2 60 were told", y.list(0, 0, 1));
        goTo(y, 19709);
        due("2 year 53 has none", y.told(y.picture(0, 0, 10000, NONE), 1), 0);
        goTo(y, 19710);
        due("2 year 54", y.told(y.picture(0, 0, 10000, NONE), 1), 59);
    }

    private static void promise3Dry() {
        PortraitRooms x = twoSitters();
        for (int far : FAR) {
            no("3 part " + far, x.dry(far, 1));
            no("3 days " + far, x.dry(0, far));
        }
        no("3 part -1", x.dry(-1, 1));
        no("3 part 5", x.dry(5, 1));
        no("3 days -1", x.dry(0, -1));
        no("3 days 61", x.dry(4, 61));
        x.picture(0, 0, 11112, NONE);
        due("3 dog", x.paint(0, 4, 0), 0);
        due("3 dry at first", x.part(0, 4, 4), 0);
        yes("3 days 60", x.dry(4, 60));
        due("3 wet", x.part(0, 4, 4), 1);
        due("3 another part", x.part(0, 3, 4), 0);
        no("3 refused", x.dry(4, 61));
        x.go(59);
        due("3 wet for 59", x.paint(0, 4, 0), 2);
        x.go(1);
        due("3 dry after 60", x.part(0, 4, 4), 0);
        due("3 painted after 60", x.paint(0, 4, 0), 0);
        due("3 a part that wants no more is wet too", x.part(0, 4, 4), 1);
        yes("3 days 0", x.dry(4, 0));
        due("3 never wet", x.part(0, 4, 4), 0);
    }

    private static void promise4Hand() {
        PortraitRooms x = new PortraitRooms();
        for (int i = 1; i <= 6; i++) {
            no("4 not yet", x.habit(i, 1));
            due("4 hand", x.hand(), i);
            yes("4 there", x.habit(i, 1));
        }
        due("4 6 came", x.hand(), NONE);
        due("4 hands", x.count(1), 7);
        no("4 there is no hand 7", x.habit(7, 1));
    }

    private static void promise5Sitter() {
        PortraitRooms x = new PortraitRooms();
        for (int far : FAR) {
            due("5 from " + far, x.sitter(far, 3), NONE);
            due("5 to " + far, x.sitter(0, far), NONE);
        }
        due("5 from -1", x.sitter(-1, 3), NONE);
        due("5 to 6", x.sitter(0, 6), NONE);
        due("5 from 6", x.sitter(6, 6), NONE);
        due("5 from above to", x.sitter(2, 1), NONE);
        due("5 -1 to -1", x.sitter(-1, -1), NONE);
        due("5 none came", x.count(2), 0);
        due("5 one hour", x.sitter(5, 5), 0);
        for (int i = 1; i < 20; i++) {
            due("5 sitter", x.sitter(0, 5), i);
        }
        due("5 20 came", x.sitter(0, 5), NONE);
        due("5 sitters", x.count(2), 20);
        due("5 the last is there", x.due(19), 0);
        due("5 there is no sitter 20", x.due(20), NONE);
        due("5 sitter 20 has no picture", x.picture(20, 0, 10000, NONE), NONE);
    }

    private static void promise6Picture() {
        PortraitRooms x = twoSitters();
        x.list(0, 0, 7);
        for (int far : FAR) {
            due("6 sitter " + far, x.picture(far, 0, 10000, NONE), NONE);
            due("6 size " + far, x.picture(0, far, 10000, NONE), NONE);
            due("6 layers " + far, x.picture(0, 0, far, NONE), NONE);
            due("6 robe " + far, x.picture(0, 0, 10000, far), NONE);
        }
        int[] layers = {0, -10000, 3333, 40000, 14000, 10400, 10040, 10004, 9999, 100000, 110000, 90000};
        for (int bad : layers) {
            due("6 layers " + bad, x.picture(0, 0, bad, NONE), NONE);
        }
        due("6 sitter -1", x.picture(-1, 0, 10000, NONE), NONE);
        due("6 sitter 2", x.picture(2, 0, 10000, NONE), NONE);
        due("6 size -1", x.picture(0, -1, 10000, NONE), NONE);
        due("6 size 4", x.picture(0, 4, 10000, NONE), NONE);
        due("6 robe 5", x.picture(0, 0, 10000, 5), NONE);
        due("6 nothing is due", x.due(0), 0);
        due("6 none came", x.count(3), 0);
        due("6 first", x.picture(0, 0, 12301, 4), 0);
        int[] wants = {1, 2, 3, 0, 1};
        for (int part = 0; part < 5; part++) {
            due("6 wants of part " + part, x.part(0, part, 1), wants[part]);
            due("6 painted of part " + part, x.part(0, part, 0), 0);
        }
        due("6 half is cut", x.due(0), 3);
        for (int i = 1; i < 40; i++) {
            due("6 picture", x.picture(1, 3, 33333, i % 6 - 1), i);
        }
        due("6 40 came", x.picture(0, 0, 10000, NONE), NONE);
        due("6 nothing more is due", x.due(0), 3);
        due("6 pictures", x.count(3), 40);
        due("6 there is no picture 40", x.told(40, 1), NONE);
        no("6 picture 40 has no traces", x.trace(40, 1));
    }

    private static void promise7Go() {
        PortraitRooms x = new PortraitRooms();
        for (int far : FAR) {
            due("7 go " + far, x.go(far), NONE);
        }
        due("7 go -1", x.go(-1), NONE);
        due("7 go 1001", x.go(1001), NONE);
        due("7 unmoved", x.count(0), 0);
        due("7 go 0", x.go(0), 0);
        due("7 go 1", x.go(1), 1);
        for (int i = 1; i < 20; i++) {
            due("7 go 1000", x.go(1000), 1 + 1000 * i);
        }
        due("7 20000 at most", x.go(1000), 20000);
        due("7 at the end", x.go(1), 20000);
        due("7 wrong at the end", x.go(1001), NONE);
        due("7 now", x.count(0), 20000);
    }

    private static void promise8Light() {
        PortraitRooms x = new PortraitRooms();
        for (int far : FAR) {
            due("8 light " + far, x.light(far), NONE);
        }
        due("8 light -1", x.light(-1), NONE);
        due("8 light 20001", x.light(20001), NONE);
        int[] days = {0, 44, 45, 90, 91, 136, 137, 182, 227, 228, 273, 274, 319, 320, 364, 365, 547};
        int[] light = {3, 3, 4, 4, 5, 5, 6, 6, 6, 5, 5, 4, 4, 3, 3, 3, 6};
        for (int i = 0; i < days.length; i++) {
            due("8 light " + days[i], x.light(days[i]), light[i]);
        }
        due("8 last day", x.light(20000), 4);
        x.go(500);
        due("8 a day that is over", x.light(182), 6);
    }

    private static void promise9Book() {
        PortraitRooms x = twoSitters();
        x.sitter(1, 2);
        x.picture(0, 0, 10000, NONE);
        x.picture(1, 0, 10000, NONE);
        x.picture(2, 0, 10000, NONE);
        x.picture(0, 0, 10000, NONE);
        for (int far : FAR) {
            no("9 picture " + far, x.book(far, 10, 0));
            no("9 day " + far, x.book(0, far, 0));
            no("9 hour " + far, x.book(0, 10, far));
        }
        no("9 picture 4", x.book(4, 10, 0));
        no("9 picture -1", x.book(-1, 10, 0));
        no("9 day 20001", x.book(0, 20001, 0));
        no("9 hour -1", x.book(0, 10, -1));
        no("9 hour 3 is dark", x.book(0, 10, 3));
        no("9 too early", x.book(2, 10, 0));
        no("9 too late", x.book(1, 10, 1));
        due("9 none there", x.count(5), 0);
        due("9 none booked", x.told(0, 4), 0);
        yes("9 booked", x.book(0, 10, 1));
        no("9 the hour is taken", x.book(2, 10, 1));
        no("9 the picture has one", x.book(0, 10, 2));
        no("9 the sitter comes already", x.book(3, 10, 2));
        yes("9 another hour", x.book(2, 10, 2));
        yes("9 another day", x.book(3, 11, 1));
        yes("9 the last day", x.book(0, 20000, 3));
        yes("9 midsummer", x.book(0, 182, 5));
        due("9 there", x.count(5), 5);
        due("9 booked for 0", x.told(0, 4), 3);
        x.go(10);
        no("9 yesterday", x.book(1, 9, 0));
        due("9 head", x.paint(0, 0, 0), 0);
        due("9 done", x.told(0, 0), 1);
        no("9 a done one", x.book(0, 100, 0));
        no("9 the used hour stays taken", x.book(3, 10, 1));
        no("9 who sat today doesn't twice", x.book(3, 10, 0));
        due("9 sittings of a done one stay", x.count(5), 5);
        yes("9 today", x.book(1, 10, 0));
        PortraitRooms y = twoSitters();
        y.picture(0, 0, 20000, NONE);
        for (int day = 0; day < 200; day++) {
            yes("9 day " + day, y.book(0, day, 0));
        }
        no("9 200 are there", y.book(0, 200, 0));
        yes("9 one goes", y.unbook(0, 7));
        yes("9 199 were there", y.book(0, 200, 0));
        no("9 200 again", y.book(0, 201, 0));
        due("9 200", y.count(5), 200);
    }

    private static void promise10Unbook() {
        PortraitRooms x = twoSitters();
        x.picture(0, 0, 20000, NONE);
        x.picture(0, 0, 20000, NONE);
        x.book(0, 0, 0);
        x.book(0, 5, 1);
        x.book(1, 6, 2);
        for (int far : FAR) {
            no("10 picture " + far, x.unbook(far, 5));
            no("10 day " + far, x.unbook(0, far));
        }
        no("10 picture -1", x.unbook(-1, 5));
        no("10 picture 2", x.unbook(2, 5));
        no("10 another day", x.unbook(0, 6));
        no("10 another picture", x.unbook(1, 5));
        x.paint(0, 0, 0);
        no("10 it was used", x.unbook(0, 0));
        due("10 all there", x.count(5), 3);
        yes("10 goes", x.unbook(0, 5));
        no("10 gone", x.unbook(0, 5));
        due("10 two there", x.count(5), 2);
        due("10 booked", x.told(0, 4), 1);
        due("10 used", x.told(0, 5), 1);
        yes("10 the hour is free again", x.book(1, 5, 1));
        x.go(6);
        no("10 a day that is over", x.unbook(1, 5));
        yes("10 today", x.unbook(1, 6));
        due("10 no sitting now", x.paint(1, 0, 0), 5);
        due("10 booked for 1", x.told(1, 4), 1);
    }

    /** What goes must leave the other sittings as they were, wherever the class keeps them. */
    private static void promise10UnbookLeavesOthers() {
        PortraitRooms x = twoSitters();
        x.picture(0, 0, 30000, NONE);
        x.picture(1, 0, 30000, NONE);
        x.book(0, 9, 1);
        x.book(1, 0, 0);
        due("10 the second sitting is used", x.paint(1, 0, 0), 0);
        yes("10 the first goes", x.unbook(0, 9));
        due("10 the used one stays used", x.paint(1, 0, 0), 5);
        no("10 the used one can't go", x.unbook(1, 0));
        no("10 its sitter came", x.book(1, 0, 0));
        no("10 its hour is taken", x.book(0, 0, 0));
        yes("10 a new one", x.book(0, 0, 1));
        due("10 the new one is unused", x.paint(0, 0, 0), 0);
        x.book(0, 5, 1);
        x.book(1, 5, 0);
        yes("10 the one before goes", x.unbook(0, 5));
        no("10 the other sitter comes", x.book(1, 5, 0));
        yes("10 the hour that went is free", x.book(0, 5, 1));
        due("10 there", x.count(5), 4);
        PortraitRooms y = twoSitters();
        y.picture(0, 0, 10000, NONE);
        y.book(0, 0, 0);
        yes("10 the only one goes", y.unbook(0, 0));
        due("10 none there", y.count(5), 0);
        due("10 none to use", y.paint(0, 0, 0), 5);
    }

    private static void promise11PaintRefusals() {
        PortraitRooms x = twoSitters();
        x.hand();
        x.picture(0, 0, 20100, 3);
        for (int far : FAR) {
            due("11 picture " + far, x.paint(far, 0, 0), NONE);
            due("11 part " + far, x.paint(0, far, 0), NONE);
            due("11 hand " + far, x.paint(0, 0, far), NONE);
        }
        due("11 picture 1", x.paint(1, 0, 0), NONE);
        due("11 picture -1", x.paint(-1, 0, 0), NONE);
        due("11 part 5", x.paint(0, 5, 0), NONE);
        due("11 part -1", x.paint(0, -1, 0), NONE);
        due("11 hand 2", x.paint(0, 0, 2), NONE);
        due("11 hand -1", x.paint(0, 0, -1), NONE);
        due("11 wants none", x.paint(0, 1, 0), 1);
        due("11 not the master", x.paint(0, 0, 1), 3);
        due("11 no sitting", x.paint(0, 0, 0), 5);
        x.book(0, 1, 0);
        due("11 a sitting tomorrow", x.paint(0, 0, 0), 5);
        due("11 no layer", x.count(6), 0);
        x.go(1);
        due("11 head", x.paint(0, 0, 0), 0);
        due("11 one sitting for one layer", x.paint(0, 0, 0), 5);
        x.dry(0, 1);
        due("11 wet before the hand", x.paint(0, 0, 1), 2);
        x.go(1);
        due("11 dry, but no sitting", x.paint(0, 0, 0), 5);
        x.book(0, 2, 0);
        due("11 the last of the head", x.paint(0, 0, 0), 0);
        due("11 wants no more, though wet", x.paint(0, 0, 1), 1);
        due("11 layers", x.count(6), 2);
        due("11 used", x.told(0, 5), 2);
    }

    private static void promise11PaintDay() {
        PortraitRooms x = twoSitters();
        x.hand();
        x.picture(0, 0, 10333, 3);
        x.picture(1, 0, 10333, 3);
        x.picture(1, 0, 10333, 2);
        x.picture(1, 0, 10333, NONE);
        x.picture(1, 0, 10333, NONE);
        for (int i = 0; i < 3; i++) {
            due("11 dress", x.paint(0, 2, 1), 0);
        }
        due("11 three layers", x.paint(0, 3, 1), 4);
        due("11 three layers before the robe", x.paint(1, 2, 1), 4);
        due("11 the robe is away", x.paint(1, 2, 0), 6);
        due("11 another robe", x.paint(2, 2, 0), 0);
        due("11 no robe", x.paint(3, 2, 0), 0);
        due("11 no robe either", x.paint(4, 2, 0), 0);
        due("11 the master's three", x.paint(4, 3, 0), 4);
        due("11 the head, three before the sitting", x.paint(4, 0, 0), 4);
        due("11 the head, not the master before three", x.paint(4, 0, 1), 3);
        x.go(1);
        due("11 the robe for another one", x.paint(1, 2, 1), 0);
        due("11 the same again", x.paint(1, 2, 1), 0);
        x.dry(2, 5);
        due("11 wet before the robe", x.paint(2, 2, 0), 2);
        due("11 the ground needs no robe", x.paint(0, 3, 1), 0);
        due("11 three on another day", x.paint(0, 3, 1), 4);
        due("11 layers", x.count(6), 9);
    }

    private static void promise11PaintRobes() {
        for (int robe = 0; robe < 5; robe++) {
            PortraitRooms x = twoSitters();
            x.picture(0, 0, 10200, robe);
            x.picture(1, 0, 10200, robe);
            due("11 robe " + robe, x.paint(1, 2, 0), 0);
            due("11 away is robe " + robe, x.paint(0, 2, 0), 6);
            due("11 the same picture has robe " + robe, x.paint(1, 2, 0), 0);
            x.go(1);
            due("11 back is robe " + robe, x.paint(0, 2, 0), 0);
        }
    }

    private static void promise12Pay() {
        PortraitRooms x = twoSitters();
        x.list(0, 2, 9);
        x.picture(0, 2, 10000, NONE);
        for (int far : FAR) {
            due("12 sitter " + far, x.pay(far, 1), NONE);
            due("12 n " + far, x.pay(0, far), NONE);
        }
        due("12 sitter 2", x.pay(2, 1), NONE);
        due("12 sitter -1", x.pay(-1, 1), NONE);
        due("12 n 0", x.pay(0, 0), NONE);
        due("12 n -1", x.pay(0, -1), NONE);
        due("12 too much", x.pay(0, 5), NONE);
        due("12 who owes nothing", x.pay(1, 1), NONE);
        due("12 none paid", x.count(7), 0);
        due("12 one", x.pay(0, 1), 3);
        due("12 the rest", x.pay(0, 3), 0);
        due("12 nothing is due", x.pay(0, 1), NONE);
        due("12 paid", x.count(7), 4);
        x.book(0, 0, 0);
        x.paint(0, 0, 0);
        due("12 the other half", x.pay(0, 2), 3);
        due("12 all paid", x.count(7), 6);
        due("12 the price stays", x.count(8), 9);
    }

    private static void promise13Planned() {
        PortraitRooms x = new PortraitRooms();
        x.sitter(0, 2);
        x.sitter(0, 1);
        x.sitter(0, 0);
        x.picture(0, 0, 10000, NONE);
        x.picture(1, 0, 10000, NONE);
        x.picture(2, 0, 10000, NONE);
        due("13 moved behind", x.planned(0, 0), 2);
        due("13 moved behind", x.planned(0, 1), 1);
        due("13 narrowest", x.planned(0, 2), 0);
        for (int far : FAR) {
            due("13 day " + far, x.planned(far, 0), NONE);
            due("13 picture " + far, x.planned(0, far), NONE);
        }
        due("13 picture 3", x.planned(0, 3), NONE);
        due("13 picture -1", x.planned(0, -1), NONE);
        due("13 day 20001", x.planned(20001, 0), NONE);
        due("13 the last day", x.planned(20000, 2), 0);
        x.book(1, 0, 0);
        due("13 its sitter comes already", x.planned(0, 1), NONE);
        due("13 the hour isn't free", x.planned(0, 2), NONE);
        due("13 the first free hour", x.planned(0, 0), 1);
        x.go(1);
        due("13 yesterday", x.planned(0, 0), NONE);
        PortraitRooms y = twoSitters();
        y.picture(1, 0, 10000, NONE);
        y.picture(1, 0, 10000, NONE);
        due("13 like ones: the first picture", y.planned(0, 0), 0);
        due("13 like ones: the second none", y.planned(0, 1), NONE);
        PortraitRooms z = new PortraitRooms();
        z.sitter(0, 0);
        z.sitter(0, 1);
        z.sitter(1, 1);
        z.picture(0, 0, 10000, NONE);
        z.go(1);
        z.picture(1, 0, 10000, NONE);
        z.go(1);
        z.picture(2, 0, 10000, NONE);
        due("13 the greatest weight", z.planned(2, 0), 0);
        due("13 the next weight", z.planned(2, 1), 1);
        due("13 the least weight", z.planned(2, 2), NONE);
        due("13 worth", z.worth(2), 5);
    }

    private static void promise14Worth() {
        PortraitRooms x = new PortraitRooms();
        due("14 no picture", x.worth(0), NONE);
        x.sitter(0, 5);
        x.sitter(5, 5);
        x.picture(1, 0, 10000, NONE);
        due("14 no hour", x.worth(0), 0);
        due("14 no hour planned", x.planned(0, 0), NONE);
        due("14 midsummer", x.worth(182), 1);
        for (int far : FAR) {
            due("14 day " + far, x.worth(far), NONE);
        }
        due("14 day -1", x.worth(-1), NONE);
        due("14 day 20001", x.worth(20001), NONE);
        due("14 day 20000", x.worth(20000), 0);
        x.go(3);
        for (int i = 0; i < 4; i++) {
            x.picture(0, 0, 10000, NONE);
        }
        due("14 five, two sitters", x.worth(182), 5);
        due("14 by now, not by the day", x.worth(190), 5);
        due("14 without the first", x.worth(3), 1);
        x.picture(0, 0, 10000, NONE);
        due("14 six", x.worth(3), NONE);
        due("14 six planned", x.planned(3, 1), NONE);
        x.book(0, 182, 5);
        due("14 five again", x.worth(182), 1);
        x.book(1, 3, 0);
        due("14 one without a sitting", x.worth(3), 0);
        x.paint(1, 0, 0);
        due("14 it is done", x.told(1, 0), 1);
        due("14 a used sitting counts", x.worth(3), 0);
        due("14 five aren't done", x.worth(4), 1);
        PortraitRooms y = twoSitters();
        y.picture(0, 0, 10001, NONE);
        y.book(0, 0, 0);
        due("14 its sitter comes", y.worth(0), NONE);
        y.paint(0, 0, 0);
        due("14 the head wants no more", y.worth(1), NONE);
        due("14 though it isn't done", y.told(0, 0), 0);
    }

    private static void promise15Trace() {
        PortraitRooms x = twoSitters();
        x.picture(0, 0, 10000, NONE);
        x.picture(0, 0, 10000, NONE);
        for (int far : FAR) {
            no("15 picture " + far, x.trace(far, 0));
            no("15 traces " + far, x.trace(0, far));
        }
        no("15 picture 2", x.trace(2, 0));
        no("15 picture -1", x.trace(-1, 0));
        no("15 traces -1", x.trace(0, -1));
        no("15 traces 65536", x.trace(0, 65536));
        yes("15 traces 0", x.trace(1, 0));
        due("15 the refused left none", x.from(1), NONE);
        yes("15 traces 65535", x.trace(0, 65535));
        due("15 far, but the nearest", x.from(1), 0);
    }

    private static void promise16From() {
        PortraitRooms x = twoSitters();
        for (int i = 0; i < 5; i++) {
            x.picture(0, 0, 10000, NONE);
        }
        for (int far : FAR) {
            due("16 picture " + far, x.from(far), NONE);
        }
        due("16 picture 5", x.from(5), NONE);
        due("16 picture -1", x.from(-1), NONE);
        due("16 no traces", x.from(4), NONE);
        x.trace(4, 255);
        due("16 none before", x.from(4), NONE);
        x.trace(1, 0);
        x.trace(3, 127);
        x.trace(2, 32768 + 255);
        due("16 like ones: the least", x.from(4), 2);
        x.trace(3, 255);
        due("16 told anew", x.from(4), 3);
        due("16 later ones don't count", x.from(3), 2);
        due("16 the first with traces", x.from(1), NONE);
        due("16 nothing else before", x.from(2), 1);
        due("16 no traces of its own", x.from(0), NONE);
    }

    private static void promise17Doubt() {
        PortraitRooms x = twoSitters();
        for (int i = 0; i < 4; i++) {
            x.picture(0, 0, 10000, NONE);
        }
        for (int far : FAR) {
            no("17 picture " + far, x.doubt(far));
        }
        no("17 picture 4", x.doubt(4));
        no("17 no traces", x.doubt(3));
        x.trace(3, 6);
        no("17 none before", x.doubt(3));
        x.trace(2, 7);
        no("17 one", x.doubt(3));
        x.trace(0, 5);
        no("17 the other is farther", x.doubt(3));
        x.trace(1, 2);
        yes("17 two as near", x.doubt(3));
        due("17 the least all the same", x.from(3), 1);
        x.trace(0, 6);
        no("17 a nearer one", x.doubt(3));
        no("17 a later one doesn't count", x.doubt(1));
    }

    private static void promise18Habit() {
        PortraitRooms x = twoSitters();
        x.picture(0, 0, 10000, NONE);
        x.strokes(0, 0, 0);
        for (int far : FAR) {
            no("18 hand " + far, x.habit(far, 0));
            no("18 digits " + far, x.habit(0, far));
        }
        no("18 hand 1", x.habit(1, 0));
        no("18 hand -1", x.habit(-1, 0));
        no("18 digits -1", x.habit(0, -1));
        no("18 digits 10000", x.habit(0, 10000));
        due("18 none has habits", x.whose(0, 0), NONE);
        yes("18 digits 9999", x.habit(0, 9999));
        due("18 the master", x.whose(0, 0), 0);
        x.hand();
        yes("18 digits 0", x.habit(1, 0));
        due("18 the other", x.whose(0, 0), 1);
        yes("18 told anew", x.habit(1, 9999));
        due("18 both", x.whose(0, 0), PortraitRooms.DOUBT);
    }

    private static void promise19Margin() {
        PortraitRooms x = twoSitters();
        x.picture(0, 0, 10000, NONE);
        x.hand();
        x.habit(0, 3);
        x.habit(1, 2);
        x.strokes(0, 0, 0);
        for (int far : FAR) {
            no("19 margin " + far, x.margin(far));
        }
        no("19 margin -1", x.margin(-1));
        no("19 margin 100", x.margin(100));
        due("19 5 at first: 9 isn't less than 4 and 5", x.whose(0, 0), 1);
        x.strokes(0, 1, 1000);
        x.habit(0, 1002);
        x.habit(1, 1000);
        due("19 5 at first: 4 is less than 0 and 5", x.whose(0, 1), PortraitRooms.DOUBT);
        x.habit(0, 3);
        x.habit(1, 2);
        yes("19 margin 6", x.margin(6));
        due("19 6", x.whose(0, 0), PortraitRooms.DOUBT);
        yes("19 margin 0", x.margin(0));
        x.habit(1, 3);
        due("19 no doubt with 0", x.whose(0, 0), 0);
        yes("19 margin 1", x.margin(1));
        due("19 like ones with 1", x.whose(0, 0), PortraitRooms.DOUBT);
        x.habit(0, 777);
        x.habit(1, 0);
        yes("19 margin 99", x.margin(99));
        due("19 147 is 99 more at least", x.whose(0, 0), 1);
        x.habit(0, 77);
        due("19 98 is less than 99", x.whose(0, 0), PortraitRooms.DOUBT);
        no("19 refused", x.margin(100));
        due("19 unchanged", x.whose(0, 0), PortraitRooms.DOUBT);
    }

    private static void promise20Strokes() {
        PortraitRooms x = twoSitters();
        x.picture(0, 0, 10000, NONE);
        x.habit(0, 0);
        for (int far : FAR) {
            no("20 picture " + far, x.strokes(far, 0, 0));
            no("20 part " + far, x.strokes(0, far, 0));
            no("20 digits " + far, x.strokes(0, 0, far));
        }
        no("20 picture 1", x.strokes(1, 0, 0));
        no("20 picture -1", x.strokes(-1, 0, 0));
        no("20 part 5", x.strokes(0, 5, 0));
        no("20 part -1", x.strokes(0, -1, 0));
        no("20 digits -1", x.strokes(0, 0, -1));
        no("20 digits 10000", x.strokes(0, 0, 10000));
        due("20 none told", x.whose(0, 0), NONE);
        yes("20 digits 9999", x.strokes(0, 4, 9999));
        due("20 told", x.whose(0, 4), 0);
        due("20 of this part alone", x.whose(0, 3), NONE);
        x.hand();
        x.habit(1, 9999);
        due("20 the nearer hand", x.whose(0, 4), 1);
        yes("20 digits 0", x.strokes(0, 4, 0));
        due("20 told anew", x.whose(0, 4), 0);
    }

    private static void promise21Whose() {
        PortraitRooms x = twoSitters();
        x.picture(0, 0, 10000, NONE);
        for (int i = 0; i < 6; i++) {
            x.hand();
        }
        x.strokes(0, 2, 5050);
        due("21 no habits", x.whose(0, 2), NONE);
        for (int far : FAR) {
            due("21 picture " + far, x.whose(far, 2), NONE);
            due("21 part " + far, x.whose(0, far), NONE);
        }
        x.habit(6, 5950);
        due("21 the only one", x.whose(0, 2), 6);
        due("21 picture 1", x.whose(1, 2), NONE);
        due("21 picture -1", x.whose(-1, 2), NONE);
        due("21 part 5", x.whose(0, 5), NONE);
        due("21 part -1", x.whose(0, -1), NONE);
        due("21 no strokes", x.whose(0, 1), NONE);
        x.habit(3, 9050);
        due("21 squares of digits", x.whose(0, 2), 3);
        x.habit(2, 5059);
        due("21 81 is far from 16", x.whose(0, 2), 3);
        x.habit(5, 3030);
        due("21 8 is nearer than 16", x.whose(0, 2), 5);
        x.margin(9);
        due("21 16 is less than 8 and 9", x.whose(0, 2), PortraitRooms.DOUBT);
        x.margin(8);
        due("21 16 isn't less than 8 and 8", x.whose(0, 2), 5);
        x.habit(1, 7070);
        x.margin(0);
        due("21 like ones: the least", x.whose(0, 2), 1);
        x.margin(1);
        due("21 like ones in doubt", x.whose(0, 2), PortraitRooms.DOUBT);
    }

    private static void promise22Told() {
        PortraitRooms x = twoSitters();
        x.list(0, 0, 101);
        x.go(3);
        x.picture(0, 0, 11000, NONE);
        int[] came = {0, 101, 3, NONE, 0, 0};
        for (int what = 0; what < 6; what++) {
            due("22 new told " + what, x.told(0, what), came[what]);
        }
        for (int far : FAR) {
            due("22 picture " + far, x.told(far, 1), NONE);
            due("22 what " + far, x.told(0, far), NONE);
        }
        due("22 picture 1", x.told(1, 1), NONE);
        due("22 picture -1", x.told(-1, 1), NONE);
        due("22 what 6", x.told(0, 6), NONE);
        due("22 what -1", x.told(0, -1), NONE);
        x.book(0, 4, 0);
        x.book(0, 5, 0);
        x.book(0, 6, 0);
        x.unbook(0, 5);
        x.go(1);
        x.paint(0, 0, 0);
        due("22 not done yet", x.told(0, 0), 0);
        due("22 half is due", x.due(0), 50);
        x.go(1);
        x.paint(0, 1, 0);
        x.list(0, 0, 5);
        x.go(9);
        int[] done = {1, 101, 3, 5, 2, 1};
        for (int what = 0; what < 6; what++) {
            due("22 done told " + what, x.told(0, what), done[what]);
        }
        due("22 all is due", x.due(0), 101);
    }

    private static void promise23Part() {
        PortraitRooms x = twoSitters();
        x.hand();
        x.dry(1, 2);
        x.picture(0, 0, 12000, NONE);
        int[] unpainted = {0, 2, NONE, NONE, 0};
        for (int what = 0; what < 5; what++) {
            due("23 new part " + what, x.part(0, 1, what), unpainted[what]);
        }
        for (int far : FAR) {
            due("23 picture " + far, x.part(far, 1, 0), NONE);
            due("23 part " + far, x.part(0, far, 0), NONE);
            due("23 what " + far, x.part(0, 1, far), NONE);
        }
        due("23 picture 1", x.part(1, 1, 0), NONE);
        due("23 picture -1", x.part(-1, 1, 0), NONE);
        due("23 part 5", x.part(0, 5, 0), NONE);
        due("23 part -1", x.part(0, -1, 0), NONE);
        due("23 what 5", x.part(0, 1, 5), NONE);
        due("23 what -1", x.part(0, 1, -1), NONE);
        x.go(4);
        x.paint(0, 1, 1);
        x.go(1);
        int[] once = {1, 1, 4, 1, 1};
        for (int what = 0; what < 5; what++) {
            due("23 part with a layer " + what, x.part(0, 1, what), once[what]);
        }
        x.go(1);
        due("23 dry", x.part(0, 1, 4), 0);
        x.paint(0, 1, 0);
        int[] twice = {2, 0, 6, 0, 1};
        for (int what = 0; what < 5; what++) {
            due("23 part with two " + what, x.part(0, 1, what), twice[what]);
        }
    }

    private static void promise24Due() {
        PortraitRooms x = twoSitters();
        x.list(0, 0, 9999);
        x.list(0, 1, 1);
        for (int far : FAR) {
            due("24 sitter " + far, x.due(far), NONE);
        }
        due("24 sitter 2", x.due(2), NONE);
        due("24 sitter -1", x.due(-1), NONE);
        x.picture(0, 0, 10000, NONE);
        x.picture(0, 0, 10000, NONE);
        x.picture(1, 1, 10000, NONE);
        due("24 two halves, each cut", x.due(0), 9998);
        due("24 half of 1 is 0", x.due(1), 0);
        x.book(0, 0, 1);
        x.book(2, 0, 0);
        x.paint(0, 0, 0);
        x.paint(2, 0, 0);
        due("24 the rest of one", x.due(0), 14998);
        due("24 the rest of 1", x.due(1), 1);
    }

    private static void promise25Count() {
        PortraitRooms x = twoSitters();
        x.list(0, 0, 11);
        x.hand();
        x.picture(0, 0, 11000, NONE);
        x.picture(1, 0, 20000, NONE);
        x.picture(1, 0, 10000, NONE);
        x.go(2);
        x.book(0, 2, 1);
        x.book(1, 2, 0);
        x.book(1, 3, 0);
        x.unbook(1, 3);
        x.paint(0, 0, 0);
        x.paint(0, 1, 1);
        x.paint(1, 0, 0);
        x.pay(0, 7);
        x.pay(1, 2);
        int[] counts = {2, 2, 2, 3, 1, 2, 3, 9, 33};
        for (int what = 0; what < 9; what++) {
            due("25 count " + what, x.count(what), counts[what]);
        }
        for (int far : FAR) {
            due("25 count " + far, x.count(far), NONE);
        }
        due("25 count 9", x.count(9), NONE);
        due("25 count -1", x.count(-1), NONE);
    }

    public static void main(String[] args) {
        promise1New();
        promise2List();
        promise3Dry();
        promise4Hand();
        promise5Sitter();
        promise6Picture();
        promise7Go();
        promise8Light();
        promise9Book();
        promise10Unbook();
        promise10UnbookLeavesOthers();
        promise11PaintRefusals();
        promise11PaintDay();
        promise11PaintRobes();
        promise12Pay();
        promise13Planned();
        promise14Worth();
        promise15Trace();
        promise16From();
        promise17Doubt();
        promise18Habit();
        promise19Margin();
        promise20Strokes();
        promise21Whose();
        promise22Told();
        promise23Part();
        promise24Due();
        promise25Count();
        System.out.println(wrong == 0 ? "all promises hold" : wrong + " answers are not as due");
        if (wrong != 0) {
            System.exit(1);
        }
    }
}
