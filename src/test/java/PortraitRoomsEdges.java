/**
 * Each sentence of DOC.md that names a boundary case, with runs of calls that stand on both sides
 * of the boundary; every run begins with new rooms and stays within 512 calls.
 */
public final class PortraitRoomsEdges {
    private static final int MOST_CALLS = 512;
    private static int wrong = 0;

    /** Lines hold calls with the answers that are due, parted by ";"; how many calls these were. */
    private static int sentence(String words, String... lines) {
        PortraitRooms x = new PortraitRooms();
        int calls = 0;
        for (String line : String.join(";", lines).split(";")) {
            if (line.isBlank()) {
                continue;
            }
            calls++;
            String[] callAndDue = line.split("=");
            int got = Words.of(callAndDue[0]).answer(x);
            if (got != Words.number(callAndDue[1].trim())) {
                wrong++;
                System.out.println("\"" + words + "\": call " + calls + ", " + line.trim() + ", but it answered " + got);
            }
        }
        if (calls > MOST_CALLS) {
            wrong++;
            System.out.println("\"" + words + "\": " + calls + " calls are too many for a test");
        }
        return calls;
    }

    /** The line once for each number from .. to, which stands where the line has "#". */
    private static String each(int from, int to, String line) {
        StringBuilder all = new StringBuilder();
        for (int i = from; i <= to; i++) {
            all.append(line.replace("#", Integer.toString(i))).append(';');
        }
        return all.toString();
    }

    /** Goes in the longest steps from the one day to the other. */
    private static String go(int from, int to) {
        StringBuilder all = new StringBuilder();
        int day = from;
        while (day < to) {
            int step = Math.min(1000, to - day);
            day += step;
            all.append("go " + step + " = " + day + ";");
        }
        return all.toString();
    }

    /** A sitter of all hours with a picture that wants a head alone. */
    private static String onePicture() {
        return "sitter 0 5 = 0; picture 0 0 10000 NONE = 0;";
    }

    private static void days() {
        sentence("DAYS are 0 .. 20000 (light)",
            "light MIN = NONE; light -1 = NONE; light 0 = 3",
            "light 20000 = 4; light 20001 = NONE; light MAX = NONE");
        sentence("DAYS are 0 .. 20000 (book, unbook)", onePicture(),
            "book 0 MIN 0 = 0; book 0 -1 0 = 0; book 0 20001 0 = 0; book 0 MAX 0 = 0; count 5 = 0",
            "book 0 0 0 = 1; book 0 20000 0 = 1; count 5 = 2",
            "unbook 0 MIN = 0; unbook 0 -1 = 0; unbook 0 20001 = 0; unbook 0 MAX = 0; count 5 = 2",
            "unbook 0 20000 = 1; unbook 0 0 = 1; count 5 = 0");
        sentence("DAYS are 0 .. 20000 (planned, worth)", onePicture(),
            "planned MIN 0 = NONE; planned -1 0 = NONE; planned 0 0 = 0",
            "planned 20000 0 = 0; planned 20001 0 = NONE; planned MAX 0 = NONE",
            "worth MIN = NONE; worth -1 = NONE; worth 0 = 1",
            "worth 20000 = 1; worth 20001 = NONE; worth MAX = NONE");
        sentence("NOW is one (0 at first)", "count 0 = 0; go 0 = 0; count 0 = 0");
        sentence("20000 at most", go(0, 19999), "go 2 = 20000; count 0 = 20000; go 1 = 20000; go 1000 = 20000",
            "go 0 = 20000; go 1001 = NONE; go -1 = NONE; count 0 = 20000");
        sentence("20000 at most (just so)", go(0, 19000), "go 1000 = 20000; count 0 = 20000");
        sentence("the last DAY is a DAY as the others", "sitter 0 5 = 0; picture 0 0 11000 NONE = 0", go(0, 20000),
            "planned 19999 0 = NONE; worth 19999 = NONE; planned 20000 0 = 0; worth 20000 = 20001",
            "book 0 19999 0 = 0; book 0 20000 0 = 1; paint 0 0 0 = 0; unbook 0 20000 = 0",
            "picture 0 0 10000 NONE = 1; told 1 2 = 20000; paint 0 1 0 = 0; told 0 3 = 20000");
    }

    private static void years() {
        sentence("the YEAR is the DAY by 365 (cut)", "sitter 0 5 = 0; list 1 0 10 = 1; list 2 0 20 = 1",
            go(0, 364), "picture 0 0 10000 NONE = 0; told 0 1 = 0",
            go(364, 365), "picture 0 0 10000 NONE = 1; told 1 1 = 10",
            go(365, 729), "picture 0 0 10000 NONE = 2; told 2 1 = 10",
            go(729, 730), "picture 0 0 10000 NONE = 3; told 3 1 = 20; count 8 = 40");
        sentence("no such YEAR (0 .. 54)", "sitter 0 5 = 0",
            "list MIN 0 1 = 0; list -1 0 1 = 0; list 55 0 1 = 0; list MAX 0 1 = 0",
            "picture 0 0 10000 NONE = 0; told 0 1 = 0; list 0 0 7 = 1; list 54 0 8 = 1",
            "picture 0 0 10000 NONE = 1; told 1 1 = 7",
            go(0, 19709), "picture 0 0 10000 NONE = 2; told 2 1 = 7",
            go(19709, 19710), "picture 0 0 10000 NONE = 3; told 3 1 = 8",
            go(19710, 20000), "picture 0 0 10000 NONE = 4; told 4 1 = 8");
    }

    private static int lightOfRest(int d) {
        if (d <= 44 || d >= 320) {
            return 3;
        }
        if (d <= 90 || d >= 274) {
            return 4;
        }
        return d <= 136 || d >= 228 ? 5 : 6;
    }

    private static void light() {
        for (int first = 0; first <= 20000; first += MOST_CALLS) {
            StringBuilder all = new StringBuilder();
            for (int day = first; day <= 20000 && day < first + MOST_CALLS; day++) {
                all.append("light " + day + " = " + lightOfRest(day % 365) + ";");
            }
            sentence("LIGHT of a DAY, whose rest by 365 is d", all.toString());
        }
        sentence("LIGHT doesn't go by NOW", go(0, 400), "light 0 = 3; light 182 = 6; light 399 = 3");
        int[] days = {0, 44, 45, 90, 91, 136, 137, 182, 227, 228, 273, 274, 319, 320, 364, 365, 409, 410, 20000};
        for (int day : days) {
            int hours = lightOfRest(day % 365);
            String at = "book 0 " + day + " ";
            sentence("so many HOURS, 0 the first, can be used, day " + day, onePicture(),
                at + "MIN = 0;" + at + "-1 = 0;" + at + hours + " = 0;" + at + "6 = 0;" + at + "MAX = 0",
                "count 5 = 0;" + at + (hours - 1) + " = 1; unbook 0 " + day + " = 1;" + at + "0 = 1; count 5 = 1");
            sentence("so many HOURS can be planned, day " + day,
                "sitter 1 1 = 0; sitter 2 2 = 1; sitter 3 3 = 2; sitter 4 4 = 3; sitter 5 5 = 4",
                each(0, 4, "picture # 0 10000 NONE = #"),
                "worth " + day + " = " + (hours - 1),
                "planned " + day + " " + (hours - 2) + " = " + (hours - 1),
                "planned " + day + " " + (hours - 1) + " = NONE");
        }
    }

    private static void hands() {
        sentence("others have numbers as they come, 1 .. 6; NONE if 6 came",
            "count 1 = 1", onePicture(), "strokes 0 0 0 = 1",
            each(1, 6, "habit # 0 = 0; paint 0 4 # = NONE; hand = #; paint 0 4 # = 1; habit # 9999 = 1"),
            "hand = NONE; hand = NONE; count 1 = 7; habit 7 0 = 0; paint 0 4 7 = NONE",
            "margin 0 = 1; whose 0 0 = 1");
        sentence("the 7th HAND that doesn't come leaves the 6th as it was", "sitter 0 5 = 0; picture 0 0 10003 NONE = 0",
            each(1, 6, "hand = #"), "habit 6 5 = 1; strokes 0 4 5 = 1; paint 0 4 6 = 0; paint 0 4 6 = 0; hand = NONE; whose 0 4 = 6",
            "paint 0 4 6 = 0; hand = NONE; picture 0 0 10003 NONE = 1; paint 1 4 6 = 4; paint 1 4 5 = 0");
        sentence("no such HAND", onePicture(), "hand = 1",
            "paint 0 4 MIN = NONE; paint 0 4 -1 = NONE; paint 0 4 0 = 1; paint 0 4 1 = 1",
            "paint 0 4 2 = NONE; paint 0 4 MAX = NONE",
            "habit MIN 1 = 0; habit -1 1 = 0; habit 2 1 = 0; habit MAX 1 = 0; habit 0 1 = 1; habit 1 1 = 1");
    }

    private static void sitters() {
        sentence("HOURS from .. to (0 .. 5); NONE if HOURS can't be (from above to, too)",
            "sitter MIN 5 = NONE; sitter -1 5 = NONE; sitter -1 -1 = NONE; sitter 0 -1 = NONE; sitter 0 MIN = NONE",
            "sitter 0 6 = NONE; sitter 5 6 = NONE; sitter 6 6 = NONE; sitter 0 MAX = NONE; sitter MAX MAX = NONE",
            "sitter 6 5 = NONE; sitter 5 4 = NONE; sitter 1 0 = NONE; sitter 5 0 = NONE; sitter MAX MIN = NONE",
            "count 2 = 0; due 0 = NONE; sitter 0 0 = 0; sitter 5 5 = 1; sitter 0 5 = 2; sitter 2 3 = 3; count 2 = 4");
        sentence("or 20 came", each(0, 19, "due # = NONE; sitter 0 5 = #; due # = 0"),
            "sitter 0 5 = NONE; sitter 0 0 = NONE; count 2 = 20; due 20 = NONE; pay 20 1 = NONE",
            "picture 20 0 10000 NONE = NONE; picture 19 0 10000 NONE = 0");
        sentence("no such SITTER", "list 0 0 10 = 1; sitter 0 5 = 0; sitter 0 5 = 1",
            "picture MIN 0 10000 NONE = NONE; picture -1 0 10000 NONE = NONE; picture 2 0 10000 NONE = NONE",
            "picture MAX 0 10000 NONE = NONE; count 3 = 0; picture 0 0 10000 NONE = 0; picture 1 0 10000 NONE = 1",
            "due MIN = NONE; due -1 = NONE; due 0 = 5; due 1 = 5; due 2 = NONE; due MAX = NONE",
            "pay MIN 1 = NONE; pay -1 1 = NONE; pay 2 1 = NONE; pay MAX 1 = NONE; count 7 = 0; pay 1 1 = 4");
    }

    private static void lists() {
        sentence("a price (0 .. 9999)", "sitter 0 5 = 0; list 0 0 5 = 1",
            "list 0 0 MIN = 0; list 0 0 -1 = 0; list 0 0 10000 = 0; list 0 0 MAX = 0",
            "picture 0 0 10000 NONE = 0; told 0 1 = 5; list 0 0 9999 = 1; picture 0 0 10000 NONE = 1; told 1 1 = 9999",
            "list 0 0 0 = 1; picture 0 0 10000 NONE = 2; told 2 1 = 0; count 8 = 10004");
        sentence("of a SIZE (0 .. 3)", "sitter 0 5 = 0",
            "list 0 MIN 1 = 0; list 0 -1 1 = 0; list 0 4 1 = 0; list 0 MAX 1 = 0",
            each(0, 3, "list 0 # 1# = 1"),
            "picture 0 MIN 10000 NONE = NONE; picture 0 -1 10000 NONE = NONE",
            "picture 0 4 10000 NONE = NONE; picture 0 MAX 10000 NONE = NONE; count 3 = 0; count 8 = 0; due 0 = 0",
            each(0, 3, "picture 0 # 10000 NONE = #; told # 1 = 1#"));
        sentence("the one of the greatest YEAR that isn't above it", "sitter 0 5 = 0",
            "list 2 0 20 = 1; list 0 0 5 = 1; list 1 0 10 = 1; list 3 0 30 = 1", go(0, 730),
            "picture 0 0 10000 NONE = 0; told 0 1 = 20", go(730, 1094), "picture 0 0 10000 NONE = 1; told 1 1 = 20",
            go(1094, 1095), "picture 0 0 10000 NONE = 2; told 2 1 = 30");
        sentence("of like ones the latest told", "sitter 0 5 = 0; list 0 0 9 = 1; list 0 0 4 = 1; list 0 0 6 = 1",
            "picture 0 0 10000 NONE = 0; told 0 1 = 6; list 0 0 8 = 1; list 0 1 3 = 1",
            "picture 0 0 10000 NONE = 1; told 1 1 = 8; told 0 1 = 6");
        sentence("0 without", "sitter 0 5 = 0; list 0 1 9 = 1; list 1 0 9 = 1",
            "picture 0 0 10000 NONE = 0; told 0 1 = 0; due 0 = 0; count 8 = 0");
        sentence("or 60 were told", "sitter 0 5 = 0; list 55 0 1 = 0", each(1, 59, "list 0 0 # = 1"),
            "list 0 4 1 = 0; list 0 0 60 = 1; list 0 0 61 = 0; list 1 3 61 = 0; list 54 2 0 = 0",
            "picture 0 0 10000 NONE = 0; told 0 1 = 60", go(0, 365), "picture 0 3 10000 NONE = 1; told 1 1 = 0");
    }

    private static void pictures() {
        sentence("or 40 came", "sitter 0 5 = 0; list 0 0 10 = 1",
            each(0, 39, "told # 0 = NONE; picture 0 0 10000 NONE = #; told # 0 = 0"),
            "picture 0 0 10000 NONE = NONE; picture 0 1 33333 4 = NONE; count 3 = 40; count 8 = 400; due 0 = 200",
            "told 40 0 = NONE; part 40 0 0 = NONE; paint 40 0 0 = NONE; book 40 0 0 = 0; unbook 40 0 = 0",
            "planned 0 40 = NONE; trace 40 0 = 0; from 40 = NONE; doubt 40 = 0; strokes 40 0 0 = 0; whose 40 0 = NONE",
            "book 39 0 0 = 1; paint 39 0 0 = 0; told 39 0 = 1; trace 39 5 = 1; strokes 39 4 5 = 1; part 39 0 0 = 1");
        sentence("no such PICTURE", "sitter 0 5 = 0; sitter 0 5 = 1; picture 0 0 10000 NONE = 0",
            "picture 1 0 10000 NONE = 1; habit 0 0 = 1; trace 0 1 = 1; trace 1 1 = 1; strokes 1 0 0 = 1",
            "book -1 0 0 = 0; book 2 0 0 = 0; book MIN 0 0 = 0; book MAX 0 0 = 0; count 5 = 0; book 1 0 0 = 1",
            "unbook -1 0 = 0; unbook 2 0 = 0; unbook MIN 0 = 0; unbook MAX 0 = 0; count 5 = 1",
            "paint -1 0 0 = NONE; paint 2 0 0 = NONE; paint MIN 0 0 = NONE; paint MAX 0 0 = NONE; count 6 = 0",
            "planned 0 -1 = NONE; planned 0 2 = NONE; planned 0 MIN = NONE; planned 0 MAX = NONE; planned 0 0 = 1",
            "trace -1 0 = 0; trace 2 0 = 0; trace MIN 0 = 0; trace MAX 0 = 0",
            "from -1 = NONE; from 2 = NONE; from MIN = NONE; from MAX = NONE; from 1 = 0",
            "doubt -1 = 0; doubt 2 = 0; doubt MIN = 0; doubt MAX = 0",
            "strokes -1 0 0 = 0; strokes 2 0 0 = 0; strokes MIN 0 0 = 0; strokes MAX 0 0 = 0",
            "whose -1 0 = NONE; whose 2 0 = NONE; whose MIN 0 = NONE; whose MAX 0 = NONE; whose 1 0 = 0",
            "told -1 1 = NONE; told 2 1 = NONE; told MIN 1 = NONE; told MAX 1 = NONE",
            "part -1 0 0 = NONE; part 2 0 0 = NONE; part MIN 0 0 = NONE; part MAX 0 0 = NONE");
        sentence("how many LAYERS (0 .. 3) each PART wants; a digit is above 3", "sitter 0 5 = 0; list 0 0 10 = 1",
            "picture 0 0 40000 NONE = NONE; picture 0 0 14000 NONE = NONE; picture 0 0 10400 NONE = NONE",
            "picture 0 0 10040 NONE = NONE; picture 0 0 10004 NONE = NONE; picture 0 0 10009 NONE = NONE",
            "picture 0 0 99999 NONE = NONE; count 3 = 0; due 0 = 0; picture 0 0 33333 NONE = 0",
            each(0, 4, "part 0 # 1 = 3"), "picture 0 0 10000 NONE = 1; part 1 0 1 = 1", each(1, 4, "part 1 # 1 = 0"),
            "picture 0 0 13201 NONE = 2; part 2 0 1 = 1; part 2 1 1 = 3; part 2 2 1 = 2; part 2 3 1 = 0; part 2 4 1 = 1");
        sentence("the head: 1 at least; the head's is 0", "sitter 0 5 = 0",
            "picture 0 0 0 NONE = NONE; picture 0 0 1 NONE = NONE; picture 0 0 3333 NONE = NONE",
            "picture 0 0 9999 NONE = NONE; count 3 = 0; picture 0 0 10000 NONE = 0");
        sentence("Layers are five digits", "sitter 0 5 = 0",
            "picture 0 0 100000 NONE = NONE; picture 0 0 110000 NONE = NONE; picture 0 0 333333 NONE = NONE",
            "picture 0 0 -1 NONE = NONE; picture 0 0 -10000 NONE = NONE; picture 0 0 -13333 NONE = NONE",
            "picture 0 0 MIN NONE = NONE; picture 0 0 MAX NONE = NONE; picture 0 0 1000010000 NONE = NONE; count 3 = 0");
        sentence("no such ROBE (NONE may be)", "sitter 0 5 = 0",
            "picture 0 0 10000 MIN = NONE; picture 0 0 10000 -2 = NONE; picture 0 0 10000 5 = NONE",
            "picture 0 0 10000 MAX = NONE; count 3 = 0; picture 0 0 10000 -1 = 0; picture 0 0 10000 0 = 1",
            "picture 0 0 10000 4 = 2; count 3 = 3");
    }

    private static void accounts() {
        sentence("half of it (cut) is DUE at once, the rest when it is DONE", "sitter 0 5 = 0",
            "list 0 0 9999 = 1; picture 0 0 11000 NONE = 0; due 0 = 4999; book 0 0 0 = 1; due 0 = 4999",
            "paint 0 0 0 = 0; due 0 = 4999; paint 0 1 0 = 0; due 0 = 9999; paint 0 1 0 = 1; due 0 = 9999");
        sentence("half (cut) of 1, of 0 and of 2", "sitter 0 5 = 0; sitter 0 5 = 1; sitter 0 5 = 2",
            "list 0 0 1 = 1; list 0 1 0 = 1; list 0 2 2 = 1; picture 0 0 10000 NONE = 0; picture 1 1 10000 NONE = 1",
            "picture 2 2 10000 NONE = 2; due 0 = 0; due 1 = 0; due 2 = 1; pay 0 1 = NONE; pay 1 1 = NONE",
            "book 0 0 0 = 1; book 1 0 1 = 1; book 2 0 2 = 1; paint 0 0 0 = 0; paint 1 0 0 = 0; paint 2 0 0 = 0",
            "due 0 = 1; due 1 = 0; due 2 = 2; pay 1 1 = NONE; pay 0 1 = 0; count 7 = 1");
        sentence("halves of two PICTURES are cut one by one", "sitter 0 5 = 0; list 0 0 3 = 1",
            "picture 0 0 10000 NONE = 0; picture 0 0 10000 NONE = 1; due 0 = 2; count 8 = 6");
        sentence("n isn't 1 .. as much", "sitter 0 5 = 0; list 0 0 20 = 1; picture 0 0 10000 NONE = 0",
            "pay 0 MIN = NONE; pay 0 -1 = NONE; pay 0 0 = NONE; pay 0 11 = NONE; pay 0 MAX = NONE",
            "due 0 = 10; count 7 = 0; pay 0 1 = 9; pay 0 10 = NONE; pay 0 9 = 0; due 0 = 0; pay 0 1 = NONE",
            "pay 0 0 = NONE; count 7 = 10");
        sentence("DONE: all LAYERS are painted, one of one", onePicture(), "told 0 0 = 0; told 0 3 = NONE",
            "book 0 0 0 = 1; paint 0 0 0 = 0; told 0 0 = 1; told 0 3 = 0; count 4 = 1");
        sentence("DONE: all LAYERS are painted, fifteen of fifteen", "sitter 0 5 = 0; picture 0 0 33333 4 = 0",
            "book 0 0 0 = 1; book 0 1 0 = 1; book 0 2 0 = 1",
            "paint 0 0 0 = 0; paint 0 1 0 = 0; paint 0 1 0 = 0; go 1 = 1",
            "paint 0 0 0 = 0; paint 0 1 0 = 0; paint 0 2 0 = 0; go 1 = 2",
            "paint 0 0 0 = 0; paint 0 2 0 = 0; paint 0 2 0 = 0; go 1 = 3",
            "paint 0 3 0 = 0; paint 0 3 0 = 0; paint 0 3 0 = 0; go 1 = 4",
            "paint 0 4 0 = 0; paint 0 4 0 = 0; told 0 0 = 0; told 0 3 = NONE; count 4 = 0; paint 0 4 0 = 0",
            "told 0 0 = 1; told 0 3 = 4; count 4 = 1; count 6 = 15", each(0, 4, "paint 0 # 0 = 1; part 0 # 1 = 0"),
            "go 1 = 5; told 0 3 = 4; count 6 = 15");
    }

    private static void sittings() {
        sentence("for a PICTURE that isn't DONE", onePicture(), "book 0 0 0 = 1; book 0 7 0 = 1; paint 0 0 0 = 0",
            "book 0 1 0 = 0; book 0 5 2 = 0; count 5 = 2; told 0 4 = 2; unbook 0 7 = 1; count 5 = 1");
        sentence("a head that wants no more may be booked yet", "sitter 0 5 = 0; picture 0 0 11000 NONE = 0",
            "book 0 0 0 = 1; paint 0 0 0 = 0; book 0 1 0 = 1; count 5 = 2");
        sentence("a DAY (NOW or behind it)", onePicture(), "go 5 = 5; book 0 4 0 = 0; book 0 0 0 = 0; count 5 = 0",
            "book 0 5 0 = 1; book 0 6 0 = 1; count 5 = 2");
        sentence("in which its SITTER can come", "sitter 1 1 = 0; sitter 0 2 = 1; sitter 2 4 = 2",
            "picture 0 0 10000 NONE = 0; picture 1 0 10000 NONE = 1; picture 2 0 10000 NONE = 2",
            "book 0 182 0 = 0; book 0 182 2 = 0; book 0 182 1 = 1; book 1 183 3 = 0; book 1 183 2 = 1; book 1 184 0 = 1",
            "book 2 182 5 = 0; book 2 182 4 = 1; book 2 185 1 = 0; book 2 185 2 = 1; count 5 = 5");
        sentence("no two in one HOUR of a DAY", "sitter 0 5 = 0; sitter 0 5 = 1; picture 0 0 10000 NONE = 0",
            "picture 1 0 10000 NONE = 1; book 0 3 1 = 1; book 1 3 1 = 0; told 1 4 = 0; book 1 4 1 = 1; book 1 3 2 = 1",
            "unbook 0 3 = 1; unbook 1 3 = 1; book 1 3 1 = 1; count 5 = 2");
        sentence("no SITTER twice a DAY", "sitter 0 5 = 0; picture 0 0 10000 NONE = 0; picture 0 0 10000 NONE = 1",
            "book 0 3 1 = 1; book 0 3 1 = 0; book 0 3 0 = 0; book 1 3 0 = 0; book 1 3 2 = 0; book 1 2 0 = 1",
            "unbook 0 3 = 1; book 1 3 0 = 1; book 0 3 2 = 0; count 5 = 2");
        sentence("at most 200", "sitter 0 5 = 0; sitter 0 5 = 1; picture 0 0 20000 NONE = 0; picture 1 0 10000 NONE = 1",
            each(0, 198, "book 0 # 0 = 1"), "book 1 0 1 = 1; count 5 = 200",
            "book 0 199 0 = 0; book 1 1 1 = 0; count 5 = 200; told 0 4 = 199; told 1 4 = 1",
            "paint 1 0 0 = 0; count 5 = 200; book 0 199 0 = 0; unbook 0 5 = 1; count 5 = 199",
            "book 0 199 0 = 1; count 5 = 200; book 0 200 0 = 0; unbook 0 200 = 0; unbook 0 199 = 1; unbook 0 198 = 1");
        sentence("The SITTING on a DAY (NOW or behind it) that wasn't used goes; false if there is none",
            "sitter 0 5 = 0; picture 0 0 20000 NONE = 0; picture 0 0 20000 NONE = 1; unbook 0 0 = 0",
            "book 0 0 0 = 1; book 0 1 0 = 1; book 0 2 0 = 1; book 0 3 0 = 1; unbook 1 1 = 0; unbook 0 4 = 0",
            "paint 0 0 0 = 0; unbook 0 0 = 0; go 2 = 2; unbook 0 1 = 0; count 5 = 4; told 0 4 = 4; told 0 5 = 1",
            "unbook 0 2 = 1; unbook 0 2 = 0; unbook 0 3 = 1; unbook 0 3 = 0; count 5 = 2; told 0 4 = 2; told 0 5 = 1");
    }

    private static void layers() {
        sentence("no such PART", onePicture(), "habit 0 0 = 1",
            "paint 0 -1 0 = NONE; paint 0 5 0 = NONE; paint 0 MIN 0 = NONE; paint 0 MAX 0 = NONE; count 6 = 0",
            "dry -1 1 = 0; dry 5 1 = 0; dry MIN 1 = 0; dry MAX 1 = 0; dry 0 1 = 1; dry 4 1 = 1",
            "strokes 0 -1 0 = 0; strokes 0 5 0 = 0; strokes 0 MIN 0 = 0; strokes 0 MAX 0 = 0; strokes 0 4 0 = 1",
            "whose 0 -1 = NONE; whose 0 5 = NONE; whose 0 MIN = NONE; whose 0 MAX = NONE; whose 0 4 = 0",
            "part 0 -1 0 = NONE; part 0 5 0 = NONE; part 0 MIN 0 = NONE; part 0 MAX 0 = NONE; part 0 4 0 = 0");
        sentence("1 the PART wants no more", "sitter 0 5 = 0; picture 0 0 10203 NONE = 0; paint 0 1 0 = 1; paint 0 3 0 = 1",
            "paint 0 2 0 = 0; paint 0 2 0 = 0; paint 0 2 0 = 1; go 1 = 1; paint 0 2 0 = 1",
            "paint 0 4 0 = 0; paint 0 4 0 = 0; paint 0 4 0 = 0; paint 0 4 0 = 1; part 0 4 0 = 3; count 6 = 5",
            "hand = 1; go 1 = 2; paint 0 4 1 = 1; part 0 4 2 = 1; part 0 4 3 = 0");
        for (int part = 1; part < 5; part++) {
            sentence("2 its latest LAYER was painted less than DRY DAYS ago, part " + part,
                "sitter 0 5 = 0; picture 0 0 13333 NONE = 0; paint 0 P 0 = 0; part 0 P 4 = 0; dry P 1 = 1".replace("P", "" + part),
                "part 0 P 4 = 1; paint 0 P 0 = 2; go 1 = 1; part 0 P 4 = 0; paint 0 P 0 = 0; dry P 60 = 1".replace("P", "" + part),
                "go 59 = 60; part 0 P 4 = 1; paint 0 P 0 = 2; go 1 = 61; part 0 P 4 = 0; paint 0 P 0 = 0".replace("P", "" + part),
                "part 0 P 4 = 1; dry P 0 = 1; part 0 P 4 = 0; count 6 = 3".replace("P", "" + part));
        }
        sentence("2 it is wet, the head", "sitter 0 5 = 0; picture 0 0 20000 NONE = 0; dry 0 2 = 1; book 0 0 0 = 1",
            "book 0 1 0 = 1; book 0 2 0 = 1; paint 0 0 0 = 0; go 1 = 1; paint 0 0 0 = 2; told 0 5 = 1; unbook 0 1 = 1",
            "go 1 = 2; paint 0 0 0 = 0; told 0 5 = 2");
        sentence("0 .. 60 for each PART; 0 at first", "sitter 0 5 = 0; picture 0 0 10033 NONE = 0; paint 0 3 0 = 0",
            "paint 0 4 0 = 0; dry 4 MIN = 0; dry 4 -1 = 0; dry 4 61 = 0; dry 4 MAX = 0; part 0 4 4 = 0",
            "dry 4 60 = 1; part 0 4 4 = 1; part 0 3 4 = 0; dry 4 61 = 0; dry 4 -1 = 0; go 59 = 59; part 0 4 4 = 1",
            "go 1 = 60; part 0 4 4 = 0; dry 4 0 = 1");
        sentence("a PART without LAYERS isn't wet", "sitter 0 5 = 0; picture 0 0 10001 NONE = 0; dry 4 60 = 1; part 0 4 4 = 0",
            "part 0 4 2 = NONE; part 0 4 3 = NONE; paint 0 4 0 = 0; part 0 4 2 = 0; part 0 4 3 = 0; part 0 4 4 = 1");
        sentence("3 it is the head, and the HAND isn't the MASTER", onePicture(), each(1, 6, "hand = #"), "book 0 0 0 = 1",
            each(1, 6, "paint 0 0 # = 3"), "told 0 5 = 0; count 6 = 0; paint 0 0 0 = 0");
        sentence("4 the HAND painted 3 LAYERS on this DAY", "sitter 0 5 = 0; picture 0 0 10033 NONE = 0; hand = 1",
            "picture 0 0 10300 NONE = 1; paint 0 3 1 = 0; paint 0 1 1 = 1; paint 0 0 1 = 3; paint 1 2 1 = 0; paint 0 4 1 = 0",
            "paint 0 3 1 = 4; paint 1 2 1 = 4; part 0 3 0 = 1; paint 0 3 0 = 0; paint 0 4 0 = 0; paint 1 2 0 = 0; paint 1 2 0 = 4",
            "count 6 = 6; go 0 = 0; paint 0 3 1 = 4; go 1 = 1; paint 0 3 1 = 0; paint 0 4 1 = 0; paint 1 2 1 = 0",
            "hand = 2; picture 0 0 10003 NONE = 2; paint 2 4 1 = 4; paint 2 4 2 = 0; count 6 = 10");
        sentence("4 the head counts for the MASTER's three", "sitter 0 5 = 0; picture 0 0 10003 NONE = 0; book 0 0 0 = 1",
            "paint 0 4 0 = 0; paint 0 4 0 = 0; paint 0 0 0 = 0; paint 0 4 0 = 4; go 1 = 1; paint 0 4 0 = 0; told 0 0 = 1");
        sentence("5 no SITTING on this DAY that wasn't used (each is used by one LAYER)",
            "sitter 0 5 = 0; sitter 0 5 = 1; picture 0 0 30000 NONE = 0; picture 1 0 10000 NONE = 1; picture 0 0 10000 NONE = 2",
            "paint 0 0 0 = 5; book 0 1 0 = 1; book 1 0 0 = 1; paint 0 0 0 = 5; paint 2 0 0 = 5; go 1 = 1; paint 2 0 0 = 5",
            "paint 1 0 0 = 5; paint 0 0 0 = 0; paint 0 0 0 = 5; told 0 5 = 1; go 1 = 2; paint 0 0 0 = 5; book 0 2 0 = 1",
            "unbook 0 2 = 1; paint 0 0 0 = 5; book 0 2 0 = 1; paint 0 0 0 = 0; told 0 5 = 2; told 0 4 = 2; told 1 5 = 0");
    }

    private static void robes() {
        sentence("6 that was used for another PICTURE on this DAY", "sitter 0 5 = 0; picture 0 0 10300 2 = 0",
            "picture 0 0 10300 2 = 1; picture 0 0 10300 3 = 2; picture 0 0 10300 NONE = 3; picture 0 0 10300 NONE = 4; hand = 1",
            "paint 0 2 0 = 0; paint 1 2 0 = 6; part 1 2 0 = 0; paint 0 2 1 = 0; paint 1 2 1 = 6; paint 2 2 0 = 0",
            "paint 3 2 1 = 0; paint 4 2 1 = 0; count 6 = 5; go 1 = 1; paint 1 2 0 = 0; paint 0 2 0 = 6; paint 1 2 0 = 0");
        sentence("a refused LAYER uses no ROBE", "sitter 0 5 = 0; picture 0 0 10300 0 = 0; picture 0 0 10000 0 = 1",
            "picture 0 0 10300 0 = 2; dry 2 1 = 1; paint 1 2 0 = 1; paint 0 2 0 = 0; paint 2 2 0 = 6; go 1 = 1",
            "paint 1 2 0 = 1; paint 2 2 0 = 0; paint 2 2 0 = 2; paint 0 2 0 = 6");
        sentence("a LAYER refused by 2 or by 4 uses no ROBE", "sitter 0 5 = 0; hand = 1; picture 0 0 10303 0 = 0",
            "picture 0 0 10300 0 = 1; paint 0 2 0 = 0; dry 2 2 = 1; go 1 = 1; paint 0 2 0 = 2; paint 1 2 0 = 0; go 5 = 6",
            "paint 0 4 1 = 0; paint 0 4 1 = 0; paint 0 4 1 = 0; paint 0 2 1 = 4; paint 1 2 0 = 0; paint 0 2 0 = 6");
        sentence("(by a LAYER of its dress)", "sitter 0 5 = 0; picture 0 0 11111 4 = 0; picture 0 0 10100 4 = 1; hand = 1",
            "book 0 0 0 = 1; paint 0 0 0 = 0; paint 0 1 1 = 0; paint 0 3 1 = 0; paint 0 4 1 = 0; paint 1 2 0 = 0",
            "paint 0 2 0 = 6; paint 0 2 1 = 4");
        sentence("other PARTS want no ROBE", "sitter 0 5 = 0; picture 0 0 10100 1 = 0; picture 0 0 11011 1 = 1; hand = 1",
            "paint 0 2 1 = 0; book 1 0 0 = 1; paint 1 0 0 = 0; paint 1 1 0 = 0; paint 1 3 0 = 0; paint 1 4 1 = 0; told 1 0 = 1");
    }

    private static void firstOf() {
        String dogs = "sitter 0 5 = 0; hand = 1; picture 0 0 20033 0 = 0; picture 0 0 10300 0 = 1; picture 0 0 10300 0 = 2;";
        String head = "book 0 0 0 = 1; paint 0 0 0 = 0;";
        String three = "paint 0 4 1 = 0; paint 0 4 1 = 0; paint 0 3 1 = 0;";
        String masters = "paint 0 4 0 = 0; paint 0 4 0 = 0; paint 0 3 0 = 0;";
        String robe = "paint 1 2 0 = 0;";
        sentence("NONE before 1 .. 6", dogs, "paint 0 1 2 = NONE; paint 3 1 0 = NONE; paint 0 5 0 = NONE");
        sentence("the first one of: 1 before 2", dogs, three, "paint 0 4 0 = 0; dry 4 5 = 1; part 0 4 4 = 1; paint 0 4 0 = 1");
        sentence("the first one of: 1 before 3", onePicture(), "hand = 1", head, "paint 0 0 1 = 1");
        sentence("the first one of: 1 before 4", dogs, three, "paint 0 1 1 = 1");
        sentence("the first one of: 1 before 5", onePicture(), head, "paint 0 0 0 = 1");
        sentence("the first one of: 1 before 6", dogs, robe, "paint 0 2 0 = 1; paint 2 2 0 = 6");
        sentence("the first one of: 2 before 3", dogs, head, "dry 0 1 = 1; paint 0 0 1 = 2; dry 0 0 = 1; paint 0 0 1 = 3");
        sentence("the first one of: 2 before 4", dogs, three, "dry 4 1 = 1; paint 0 4 1 = 2; dry 4 0 = 1; paint 0 4 1 = 4");
        sentence("the first one of: 2 before 5", dogs, head, "dry 0 1 = 1; paint 0 0 0 = 2; dry 0 0 = 1; paint 0 0 0 = 5");
        sentence("the first one of: 2 before 6", dogs, robe, "go 1 = 1; paint 2 2 0 = 0; dry 2 2 = 1; paint 1 2 0 = 2",
            "dry 2 1 = 1; paint 1 2 0 = 6");
        sentence("the first one of: 3 before 4", dogs, three, "book 0 0 0 = 1; paint 0 0 1 = 3");
        sentence("the first one of: 3 before 5", dogs, "paint 0 0 1 = 3; paint 0 0 0 = 5");
        sentence("the first one of: 4 before 5", dogs, masters, "paint 0 0 0 = 4; go 1 = 1; paint 0 0 0 = 5");
        sentence("the first one of: 4 before 6", dogs, three, robe, "paint 2 2 1 = 4; paint 2 2 0 = 6");
    }

    private static void steps() {
        sentence("0 .. 1000; NONE for another n", "go MIN = NONE; go -1000 = NONE; go -1 = NONE; go 1001 = NONE; go MAX = NONE",
            "count 0 = 0; go 0 = 0; go 1 = 1; go 1000 = 1001; go -1 = NONE; go 1001 = NONE; count 0 = 1001; go 999 = 2000");
    }

    private static void plans() {
        sentence("if these are 1 to 5: none", "worth 0 = NONE; planned 0 0 = NONE; sitter 0 5 = 0; worth 0 = NONE");
        sentence("if these are 1 to 5: one to six", each(0, 4, "sitter 0 5 = #"),
            "picture 0 0 10000 NONE = 0; worth 182 = 1; planned 182 0 = 0",
            "picture 1 0 10000 NONE = 1; worth 182 = 2; planned 182 1 = 1",
            "picture 2 0 10000 NONE = 2; worth 182 = 3; planned 182 2 = 2",
            "picture 3 0 10000 NONE = 3; worth 182 = 4; planned 182 3 = 3",
            "picture 4 0 10000 NONE = 4; worth 182 = 5; planned 182 4 = 4; planned 182 0 = 0",
            "picture 0 0 10000 NONE = 5; worth 182 = NONE", each(0, 5, "planned 182 # = NONE"));
        String six = "sitter 0 5 = 0; sitter 0 5 = 1;" + each(0, 4, "picture 0 0 11000 NONE = #")
            + "picture 1 0 11000 NONE = 5; worth 0 = NONE; worth 1 = NONE;";
        sentence("PICTURES that aren't DONE", six, "book 5 0 2 = 1; worth 0 = 1; worth 1 = NONE; paint 5 0 0 = 0",
            "paint 5 1 0 = 0; told 5 0 = 1; worth 1 = 1; planned 1 0 = 0; planned 1 5 = NONE");
        sentence("want a LAYER of the head yet", six, "book 5 0 2 = 1; paint 5 0 0 = 0; told 5 0 = 0; worth 1 = 1",
            "planned 1 0 = 0; planned 1 1 = NONE; planned 1 5 = NONE");
        sentence("a head that wants another LAYER is planned", "sitter 0 5 = 0; picture 0 0 20000 NONE = 0; book 0 0 0 = 1",
            "paint 0 0 0 = 0; worth 0 = NONE; worth 1 = 1; planned 1 0 = 0");
        sentence("whose SITTER has no SITTING on it", six, "book 0 1 0 = 1; worth 1 = 1; planned 1 5 = 1; planned 1 0 = NONE",
            "planned 1 3 = NONE; worth 0 = NONE; worth 2 = NONE; book 5 1 1 = 1; worth 1 = NONE; planned 1 5 = NONE",
            "unbook 5 1 = 1; worth 1 = 1; unbook 0 1 = 1; worth 1 = NONE");
        sentence("The PLAN of a DAY (NOW or behind it)", onePicture(), "go 3 = 3; worth 2 = NONE; planned 2 0 = NONE",
            "worth 3 = 4; planned 3 0 = 0; worth 4 = 4; planned 4 0 = 0");
        sentence("one HOUR that is LIGHT, or none", "sitter 3 5 = 0; picture 0 0 10000 NONE = 0; worth 0 = 0; planned 0 0 = NONE",
            "worth 44 = 0; planned 44 0 = NONE; worth 45 = 1; planned 45 0 = 3");
        sentence("free", "sitter 0 1 = 0; sitter 0 5 = 1; sitter 0 5 = 2; picture 0 0 10000 NONE = 0; picture 1 0 10000 NONE = 1",
            "picture 2 0 20000 NONE = 2; book 1 0 0 = 1; planned 0 0 = 1; planned 0 2 = 2; worth 0 = 2; book 2 0 1 = 1",
            "planned 0 0 = NONE; worth 0 = 0; paint 2 0 0 = 0; planned 0 0 = NONE; worth 0 = 0; unbook 1 0 = 1",
            "planned 0 0 = 0; planned 0 1 = 2; worth 0 = 2");
        sentence("in which its SITTER can come", "sitter 1 1 = 0; picture 0 0 10000 NONE = 0; planned 0 0 = 1; sitter 1 2 = 1",
            "picture 1 0 10000 NONE = 1; planned 0 0 = 1; planned 0 1 = 2; worth 0 = 2");
        sentence("no two the same", "sitter 2 2 = 0; sitter 2 2 = 1; picture 0 0 10000 NONE = 0; picture 1 0 10000 NONE = 1",
            "planned 0 0 = 2; planned 0 1 = NONE; worth 0 = 1");
        sentence("of one SITTER one at most", "sitter 0 5 = 0; picture 0 0 10000 NONE = 0; go 1 = 1; picture 0 0 10000 NONE = 1",
            "planned 1 0 = 0; planned 1 1 = NONE; worth 1 = 2");
        sentence("so that the sum of WEIGHTS is greatest", "sitter 0 1 = 0; sitter 0 0 = 1; picture 0 0 10000 NONE = 0",
            "picture 1 0 10000 NONE = 1; planned 0 0 = 1; planned 0 1 = 0; worth 0 = 2; sitter 1 1 = 2; go 2 = 2",
            "picture 2 0 10000 NONE = 2; planned 2 0 = 1; planned 2 1 = 0; planned 2 2 = NONE; worth 2 = 6");
        sentence("of like ones the first one (PICTURES by numbers, HOURS from 0 on, none behind all)",
            "sitter 0 2 = 0; sitter 0 2 = 1; sitter 0 2 = 2; sitter 0 2 = 3", each(0, 3, "picture # 0 10000 NONE = #"),
            "planned 0 0 = 0; planned 0 1 = 1; planned 0 2 = 2; planned 0 3 = NONE; worth 0 = 3");
        sentence("the first one goes by the first PICTURE before the second",
            "sitter 0 2 = 0; sitter 1 1 = 1; sitter 0 1 = 2", each(0, 2, "picture # 0 10000 NONE = #"),
            "planned 0 0 = 2; planned 0 1 = 1; planned 0 2 = 0; worth 0 = 3");
        sentence("WEIGHT is 1 and the DAYS from its coming to NOW", onePicture(), "worth 0 = 1; worth 1000 = 1; go 1 = 1; worth 1 = 2",
            "go 999 = 1000; worth 1000 = 1001; worth 20000 = 1001; sitter 0 5 = 1; picture 1 0 10000 NONE = 1; worth 1000 = 1002");
    }

    private static void traces() {
        sentence("TRACES are a number of 16 bits (0 .. 65535)", "sitter 0 5 = 0", each(0, 2, "picture 0 0 10000 NONE = #"),
            "trace 0 MIN = 0; trace 0 -1 = 0; trace 0 65536 = 0; trace 0 MAX = 0; trace 2 0 = 1; from 2 = NONE",
            "trace 0 65535 = 1; from 2 = 0; trace 1 32767 = 1; from 2 = 1; trace 1 65536 = 0; trace 1 -1 = 0; from 2 = 1",
            "trace 1 65535 = 1; from 2 = 0; doubt 2 = 1; trace 1 32768 = 1; from 2 = 1; doubt 2 = 0");
        sentence("NONE if there is none, it has no TRACES", "sitter 0 5 = 0", each(0, 2, "picture 0 0 10000 NONE = #; from # = NONE; doubt # = 0"),
            "trace 0 0 = 1; from 0 = NONE; doubt 0 = 0; from 1 = NONE; from 2 = NONE; trace 2 9 = 1; from 2 = 0; doubt 2 = 0",
            "from 1 = NONE; doubt 1 = 0");
        sentence("that PICTURE of a lesser number", "sitter 0 5 = 0", each(0, 2, "picture 0 0 10000 NONE = #"),
            "trace 2 7 = 1; trace 1 7 = 1; from 1 = NONE; doubt 1 = 0; trace 0 65528 = 1; from 1 = 0; doubt 1 = 0; from 2 = 1",
            "from 0 = NONE; doubt 2 = 0");
        sentence("in the fewest bits, of like ones the least number; in DOUBT, if another one differs in as few",
            "sitter 0 5 = 0", each(0, 3, "picture 0 0 10000 NONE = #"), "trace 3 12 = 1; trace 2 8 = 1; from 3 = 2; doubt 3 = 0",
            "trace 1 4 = 1; from 3 = 1; doubt 3 = 1; trace 0 3 = 1; from 3 = 1; doubt 3 = 1; trace 0 13 = 1; from 3 = 0",
            "doubt 3 = 1; trace 0 12 = 1; from 3 = 0; doubt 3 = 0; trace 2 12 = 1; from 3 = 0; doubt 3 = 1");
    }

    private static void habitsAndStrokes() {
        sentence("HABITS are four digits (0 .. 9999)", onePicture(), "strokes 0 0 0 = 1; habit 0 MIN = 0; habit 0 -1 = 0",
            "habit 0 10000 = 0; habit 0 MAX = 0; whose 0 0 = NONE; habit 0 9999 = 1; whose 0 0 = 0; hand = 1; habit 1 0 = 1",
            "whose 0 0 = 1; habit 1 10000 = 0; habit 1 -1 = 0; whose 0 0 = 1; habit 0 0 = 1; whose 0 0 = DOUBT");
        sentence("STROKES are four digits (0 .. 9999)", onePicture(), "habit 0 0 = 1; hand = 1; habit 1 9999 = 1; strokes 0 0 MIN = 0",
            "strokes 0 0 -1 = 0; strokes 0 0 10000 = 0; strokes 0 0 MAX = 0; whose 0 0 = NONE; strokes 0 0 9999 = 1; whose 0 0 = 1",
            "strokes 0 0 10000 = 0; strokes 0 0 -1 = 0; whose 0 0 = 1; strokes 0 0 0 = 1; whose 0 0 = 0");
        sentence("NONE if they weren't told, no HAND has HABITS", onePicture(), "whose 0 0 = NONE; strokes 0 0 0 = 1; whose 0 0 = NONE",
            "habit 0 5 = 1; whose 0 0 = 0", each(1, 4, "whose 0 # = NONE; strokes 0 # # = 1; whose 0 # = 0"));
        sentence("of those with HABITS", onePicture(), "hand = 1; hand = 2; strokes 0 0 0 = 1; habit 2 9999 = 1; whose 0 0 = 2",
            "margin 99 = 1; whose 0 0 = 2");
        sentence("of like ones the least number", onePicture(), "hand = 1; hand = 2; strokes 0 0 5555 = 1; margin 0 = 1; habit 2 5554 = 1",
            "habit 1 5556 = 1; whose 0 0 = 1; habit 0 4555 = 1; whose 0 0 = 0; habit 0 3555 = 1; whose 0 0 = 1");
        sentence("the sum of the squares of what digits differ", onePicture(), "hand = 1; margin 0 = 1; strokes 0 0 0 = 1; habit 0 3 = 1",
            "habit 1 2222 = 1; whose 0 0 = 0; habit 0 3000 = 1; whose 0 0 = 0; habit 0 5 = 1; whose 0 0 = 1; strokes 0 0 9 = 1; whose 0 0 = 0");
        sentence("MARGIN (0 .. 99; 5 at first); less than MARGIN more", onePicture(), "hand = 1; strokes 0 0 0 = 1; habit 0 0 = 1",
            "habit 1 2 = 1; whose 0 0 = DOUBT; habit 1 12 = 1; whose 0 0 = 0; margin 6 = 1; whose 0 0 = DOUBT; margin 5 = 1; whose 0 0 = 0",
            "margin MIN = 0; margin -1 = 0; margin 100 = 0; margin MAX = 0; whose 0 0 = 0; habit 1 2 = 1; whose 0 0 = DOUBT",
            "margin 0 = 1; whose 0 0 = 0; habit 1 0 = 1; whose 0 0 = 0; margin 1 = 1; whose 0 0 = DOUBT; habit 1 1 = 1; whose 0 0 = 0",
            "margin 99 = 1; habit 1 77 = 1; whose 0 0 = DOUBT; margin 98 = 1; whose 0 0 = 0; margin 99 = 1; habit 1 771 = 1; whose 0 0 = 0",
            "margin 100 = 0; habit 1 77 = 1; whose 0 0 = DOUBT");
        sentence("less than MARGIN more than the least sum, not than 0", onePicture(), "hand = 1; strokes 0 0 0 = 1; habit 0 9000 = 1",
            "habit 1 9001 = 1; whose 0 0 = DOUBT; habit 1 9002 = 1; whose 0 0 = DOUBT; habit 1 9012 = 1; whose 0 0 = 0",
            "margin 0 = 1; habit 1 9 = 1; whose 0 0 = 0; margin 1 = 1; whose 0 0 = DOUBT");
        sentence("if another one's, a later or an earlier one", onePicture(), "hand = 1; hand = 2; strokes 0 0 0 = 1; habit 1 0 = 1",
            "habit 0 2 = 1; whose 0 0 = DOUBT; habit 0 9 = 1; whose 0 0 = 1; habit 2 2 = 1; whose 0 0 = DOUBT");
    }

    private static void askedOthers() {
        sentence("told: NONE for others", onePicture(), "told 0 MIN = NONE; told 0 -1 = NONE; told 0 0 = 0; told 0 1 = 0; told 0 2 = 0",
            "told 0 3 = NONE; told 0 4 = 0; told 0 5 = 0; told 0 6 = NONE; told 0 MAX = NONE");
        sentence("part: NONE for others", onePicture(), "part 0 0 MIN = NONE; part 0 0 -1 = NONE; part 0 0 0 = 0; part 0 0 1 = 1",
            "part 0 0 2 = NONE; part 0 0 3 = NONE; part 0 0 4 = 0; part 0 0 5 = NONE; part 0 0 MAX = NONE");
        sentence("count: NONE for others", "count MIN = NONE; count -1 = NONE; count 9 = NONE; count MAX = NONE",
            "count 0 = 0; count 1 = 1", each(2, 8, "count # = 0"));
        sentence("SITTINGS booked ever (but those that went), of these used", "sitter 0 5 = 0; picture 0 0 20000 NONE = 0",
            "book 0 0 0 = 1; book 0 0 1 = 0; book 0 1 0 = 1; book 0 2 0 = 1; told 0 4 = 3; unbook 0 1 = 1; unbook 0 1 = 0",
            "told 0 4 = 2; paint 0 0 0 = 0; told 0 4 = 2; told 0 5 = 1; go 5 = 5; told 0 4 = 2; told 0 5 = 1; count 5 = 2");
        sentence("the DAY and the HAND of the latest", "sitter 0 5 = 0; picture 0 0 10003 NONE = 0; hand = 1; paint 0 4 1 = 0; go 2 = 2",
            "part 0 4 2 = 0; part 0 4 3 = 1; paint 0 4 2 = NONE; paint 0 4 0 = 0; part 0 4 2 = 2; part 0 4 3 = 0; dry 4 1 = 1",
            "paint 0 4 1 = 2; part 0 4 3 = 0; part 0 4 0 = 2; part 0 4 1 = 1");
    }

    /** All limits of the document in one run of just as many calls as are promised. */
    private static void fullRooms() {
        int calls = sentence("at most 512 calls", each(0, 59, "list 0 1 # = 1"), each(1, 6, "hand = #"),
            each(0, 19, "sitter 0 5 = #"), each(0, 19, "picture # 1 33333 NONE = #"), each(20, 39, "picture 0 1 33333 4 = #"),
            each(0, 199, "book 0 # 0 = 1"),
            "list 0 1 1 = 0; hand = NONE; sitter 0 5 = NONE; picture 0 1 10000 NONE = NONE; book 1 0 1 = 0; count 5 = 200",
            each(1, 19, "due # = 29; pay # 29 = 0"), "due 0 = 609; count 8 = 2360; count 7 = 551",
            "unbook 0 199 = 1; count 5 = 199; book 1 199 5 = 1; book 1 198 5 = 0; count 5 = 200",
            "paint 0 0 0 = 0; paint 0 0 0 = 5; paint 1 0 0 = 5",
            each(0, 39, "trace # # = 1"), "from 39 = 7; doubt 39 = 1",
            each(0, 39, "strokes # 4 # = 1"), "habit 6 99 = 1", each(0, 39, "whose # 4 = 6"),
            "count 0 = 0; count 1 = 7; count 2 = 20; count 3 = 40; count 4 = 0; count 5 = 200; count 6 = 1; count 7 = 551");
        if (calls != MOST_CALLS) {
            wrong++;
            System.out.println("the full rooms were asked " + calls + " calls");
        }
    }

    public static void main(String[] args) {
        days();
        years();
        light();
        steps();
        hands();
        sitters();
        lists();
        pictures();
        accounts();
        sittings();
        layers();
        robes();
        firstOf();
        plans();
        traces();
        habitsAndStrokes();
        askedOthers();
        fullRooms();
        System.out.println(wrong == 0 ? "all edges hold" : wrong + " answers are not as due");
        if (wrong != 0) {
            System.exit(1);
        }
    }
}
