/** A call in words, so that a test can be read beside the document: "book 0 3 1" is book(0, 3, 1). */
final class Words {
    final String name;
    private final int[] a;

    private Words(String name, int[] a) {
        this.name = name;
        this.a = a;
    }

    static Words of(String call) {
        String[] words = call.trim().split(" +");
        int[] a = new int[words.length - 1];
        for (int i = 0; i < a.length; i++) {
            a[i] = number(words[i + 1]);
        }
        return new Words(words[0], a);
    }

    static int number(String word) {
        switch (word) {
            case "MIN": return Integer.MIN_VALUE;
            case "MAX": return Integer.MAX_VALUE;
            case "NONE": return PortraitRooms.NONE;
            case "DOUBT": return PortraitRooms.DOUBT;
            default: return Integer.parseInt(word);
        }
    }

    /** What the call answers; a boolean counts 1 or 0. */
    int answer(PortraitRooms x) {
        switch (name) {
            case "list": return bit(x.list(a[0], a[1], a[2]));
            case "dry": return bit(x.dry(a[0], a[1]));
            case "hand": return x.hand();
            case "sitter": return x.sitter(a[0], a[1]);
            case "picture": return x.picture(a[0], a[1], a[2], a[3]);
            case "go": return x.go(a[0]);
            case "light": return x.light(a[0]);
            case "book": return bit(x.book(a[0], a[1], a[2]));
            case "unbook": return bit(x.unbook(a[0], a[1]));
            case "paint": return x.paint(a[0], a[1], a[2]);
            case "pay": return x.pay(a[0], a[1]);
            case "planned": return x.planned(a[0], a[1]);
            case "worth": return x.worth(a[0]);
            case "trace": return bit(x.trace(a[0], a[1]));
            case "from": return x.from(a[0]);
            case "doubt": return bit(x.doubt(a[0]));
            case "habit": return bit(x.habit(a[0], a[1]));
            case "margin": return bit(x.margin(a[0]));
            case "strokes": return bit(x.strokes(a[0], a[1], a[2]));
            case "whose": return x.whose(a[0], a[1]);
            case "told": return x.told(a[0], a[1]);
            case "part": return x.part(a[0], a[1], a[2]);
            case "due": return x.due(a[0]);
            case "count": return x.count(a[0]);
            default: throw new IllegalArgumentException(name);
        }
    }

    private static int bit(boolean b) {
        return b ? 1 : 0;
    }

    @Override
    public String toString() {
        StringBuilder all = new StringBuilder(name);
        for (int argument : a) {
            all.append(' ').append(argument);
        }
        return all.toString();
    }
}
