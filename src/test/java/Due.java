import java.util.ArrayList;
import java.util.List;
import java.util.function.Supplier;
import java.util.function.ToIntFunction;

/** What the tests share: answers held to those that are due, houses to begin with, and twins. */
final class Due {
    private static final int NOBODY = -1;
    private static final int ROOM = -6;

    private static int wrong = 0;
    private static int rows = 0;
    private static String sentence = "";

    private Due() {
    }

    /** The promise and the words of the document that the next rows are held to. */
    static void by(String words) {
        sentence = words;
    }

    static void is(String call, int got, int want) {
        rows++;
        if (got != want) {
            wrong++;
            System.out.println(sentence + ": " + call + " answered " + got + ", due is " + want);
        }
    }

    static void end(String test) {
        System.out.println(wrong == 0 ? test + ": " + rows + " answers as due" : test + ": " + wrong + " not as due");
        if (wrong != 0) {
            System.exit(1);
        }
    }

    // Houses to begin with

    static GalleryRows house(int members) {
        GalleryRows x = new GalleryRows();
        for (int m = 0; m < members; m++) {
            x.member(0, 99);
        }
        return x;
    }

    /** Some of everything: the row at hand and the text are begun, and the image is of an earlier time. */
    static GalleryRows begun() {
        GalleryRows x = new GalleryRows();
        x.member(10, 20);
        x.member(0, 99);
        x.member(15, 60);
        x.member(0, 99);
        x.party(1, 2);
        x.place(3, 4, 1);
        x.vote(15, 3, 12);
        x.hold(1, -1);
        x.image();
        x.vote(20, 5, 10);
        x.vote(50, 8, 4);
        x.party(2, 3);
        x.place(0, 2, 3);
        x.hold(0, 1);
        x.put(2);
        x.put(0);
        feedText(x, "v9:aya");
        return x;
    }

    /** As begun, and the row at hand has all members. */
    static GalleryRows wholeRow() {
        GalleryRows x = begun();
        x.put(3);
        x.put(1);
        return x;
    }

    /** Four members who can not stand as they are held. */
    static GalleryRows withoutBest() {
        GalleryRows x = house(4);
        x.vote(10, 1, 6);
        x.vote(20, 5, 10);
        x.hold(0, 1);
        x.hold(0, 2);
        x.hold(0, 3);
        x.put(1);
        return x;
    }

    static GalleryRows sevenMembers() {
        GalleryRows x = house(7);
        x.vote(10, 85, 42);
        x.put(6);
        return x;
    }

    static GalleryRows fullOfVotes() {
        GalleryRows x = house(2);
        for (int v = 0; v < 24; v++) {
            x.vote(v, v % 3, 0);
        }
        return x;
    }

    /** Seven neighbours in a ring and three ends: ten are held. */
    static GalleryRows tenHeld() {
        GalleryRows x = house(7);
        for (int m = 0; m < 7; m++) {
            x.hold(m, (m + 1) % 7);
        }
        x.hold(0, -1);
        x.hold(1, -1);
        x.hold(2, -1);
        return x;
    }

    static GalleryRows ninetyBytes() {
        GalleryRows x = house(1);
        feedText(x, "v1:y;".repeat(18));
        return x;
    }

    // Texts and rows

    static void feedText(GalleryRows x, String text) {
        for (int at = 0; at < text.length(); at += 8) {
            int n = Math.min(8, text.length() - at);
            long bytes = 0;
            for (int i = n - 1; i >= 0; i--) {
                bytes = bytes << 8 | text.charAt(at + i);
            }
            x.feed(n, bytes);
        }
    }

    static int readText(GalleryRows x, String text) {
        feedText(x, text);
        return x.read();
    }

    static void read(GalleryRows x, String text, int want) {
        is("read of '" + text + "'", readText(x, text), want);
    }

    static void put(GalleryRows x, int... members) {
        for (int m : members) {
            x.put(m);
        }
    }

    static void row(GalleryRows x, int i, int... members) {
        for (int place = 0; place < members.length; place++) {
            is("row(" + i + ", " + place + ")", x.row(i, place), members[place]);
        }
    }

    // Twins: of two objects begun alike one is asked, and behind that both must be the same

    /** The call is refused by this number, and nothing changes but how many of these there were. */
    static void refused(Supplier<GalleryRows> begin, String call, ToIntFunction<GalleryRows> run, int want) {
        twins(begin, call, run, want, want);
    }

    /** The call answers this, changes nothing, and is no refusal. */
    static void still(Supplier<GalleryRows> begin, String call, ToIntFunction<GalleryRows> run, int want) {
        twins(begin, call, run, want, 0);
    }

    /** All that can be asked without a change: what is remembered of it must not last too long. */
    static void askAll(GalleryRows x) {
        List<String> calls = new ArrayList<>();
        List<Integer> got = new ArrayList<>();
        counts(x, calls, got);
        votes(x, calls, got);
        bestRows(x, calls, got);
        x.sheet();
    }

    /** Two objects that came there by other ways answer alike, but for refusals and the image. */
    static void alike(String ways, GalleryRows one, GalleryRows other) {
        List<String> calls = new ArrayList<>();
        List<Integer> due = new ArrayList<>();
        List<Integer> got = new ArrayList<>();
        counts(other, calls, due);
        votes(other, calls, due);
        rowAtHand(other, calls, due);
        bestRows(other, calls, due);
        rest(other, calls, due);
        counts(one, new ArrayList<>(), got);
        votes(one, new ArrayList<>(), got);
        rowAtHand(one, new ArrayList<>(), got);
        bestRows(one, new ArrayList<>(), got);
        rest(one, new ArrayList<>(), got);
        is("answers behind " + ways, got.size(), due.size());
        for (int i = 0; i < Math.min(got.size(), due.size()); i++) {
            is(calls.get(i) + " behind " + ways, got.get(i), due.get(i));
        }
    }

    private static void twins(Supplier<GalleryRows> begin, String call, ToIntFunction<GalleryRows> run, int want,
            int refusal) {
        GalleryRows asked = begin.get();
        GalleryRows other = begin.get();
        is(call, run.applyAsInt(asked), want);
        for (int number = NOBODY; number >= ROOM; number--) {
            int more = number == refusal ? 1 : 0;
            is("count(" + (10 - number) + ") behind " + call, asked.count(10 - number), other.count(10 - number) + more);
        }
        List<String> calls = new ArrayList<>();
        List<Integer> due = new ArrayList<>();
        everything(other, calls, due);
        List<Integer> got = new ArrayList<>();
        everything(asked, new ArrayList<>(), got);
        for (int i = 0; i < due.size(); i++) {
            is(calls.get(i) + " behind " + call, got.get(i), due.get(i));
        }
    }

    /** All that can be asked, and what can only be seen by changing it behind that. */
    private static void everything(GalleryRows x, List<String> calls, List<Integer> got) {
        counts(x, calls, got);
        votes(x, calls, got);
        rowAtHand(x, calls, got);
        bestRows(x, calls, got);
        rest(x, calls, got);
        tell(calls, got, "read()", x.read());
        counts(x, calls, got);
        tell(calls, got, "restore()", x.restore());
        counts(x, calls, got);
        votes(x, calls, got);
        rest(x, calls, got);
    }

    private static void tell(List<String> calls, List<Integer> got, String call, int answer) {
        calls.add(call);
        got.add(answer);
    }

    private static void counts(GalleryRows x, List<String> calls, List<Integer> got) {
        for (int what = 0; what <= 5; what++) {
            tell(calls, got, "count(" + what + ")", x.count(what));
        }
    }

    private static void votes(GalleryRows x, List<String> calls, List<Integer> got) {
        int votes = x.count(1);
        for (int v = 0; v < votes; v++) {
            tell(calls, got, "of(" + v + ", 0)", x.of(v, 0));
            tell(calls, got, "of(" + v + ", 1)", x.of(v, 1));
            tell(calls, got, "of(" + v + ", 2)", x.of(v, 2));
        }
    }

    private static void rowAtHand(GalleryRows x, List<String> calls, List<Integer> got) {
        for (int v = 0; v < Math.min(6, x.count(1)); v++) {
            tell(calls, got, "cut(" + v + ")", x.cut(v));
            tell(calls, got, "wrong(" + v + ")", x.wrong(v));
        }
        for (int m = 0; m < x.count(0); m++) {
            tell(calls, got, "put(" + m + ")", x.put(m));
        }
        for (int v = 0; v < Math.min(6, x.count(1)); v++) {
            tell(calls, got, "cut(" + v + ") of all", x.cut(v));
            tell(calls, got, "wrong(" + v + ") of all", x.wrong(v));
        }
        tell(calls, got, "judge()", x.judge());
    }

    private static void bestRows(GalleryRows x, List<String> calls, List<Integer> got) {
        tell(calls, got, "best(0)", x.best(0));
        tell(calls, got, "best(1)", x.best(1));
        for (int place = 0; place < x.count(0); place++) {
            tell(calls, got, "row(0, " + place + ")", x.row(0, place));
            tell(calls, got, "row(1, " + place + ")", x.row(1, place));
        }
        tell(calls, got, "open()", x.open());
        tell(calls, got, "knot()", x.knot());
        tell(calls, got, "chance(5, 9)", x.chance(5, 9));
        tell(calls, got, "odd(1)", x.odd(1));
        tell(calls, got, "second(1)", x.second(1));
        for (int what = 0; what <= 3; what++) {
            tell(calls, got, "move(" + what + ")", x.move(what));
        }
    }

    // What is held, a party, and a point can be seen only by changing it.
    private static void rest(GalleryRows x, List<String> calls, List<Integer> got) {
        tell(calls, got, "sheet()", x.sheet());
        int members = x.count(0);
        for (int m = 0; m < members; m++) {
            tell(calls, got, "party(" + m + ", 0)", x.party(m, 0));
            tell(calls, got, "place(" + m + ", 0, 0)", x.place(m, 0, 0));
            for (int b = -1; b < m; b++) {
                tell(calls, got, "hold(" + m + ", " + b + ")", x.hold(m, b));
            }
        }
        tell(calls, got, "free()", x.free());
    }
}
