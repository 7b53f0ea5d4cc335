/** The edges of rows and cuts: promises 12 to 19, 25 and 26, and in the Terms II and "ODD", "SECOND". */
public final class RowEdgesTest {
    public static void main(String[] args) {
        rowAtHandOfNobody();
        rowAtHandOfOne();
        rowAtHandOfSeven();
        rowAtHandStays();
        memberBehindAWholeRow();
        rowAtHandIsNotAsHeld();
        cutOfNobody();
        cutOfOneSide();
        cutAtEachPlace();
        leastPlaceOfCuts();
        cutOfMostWrong();
        judgeOfMost();
        judgeOfNoVotes();
        wrongOfEachSide();
        wrongByTheLeastPlace();
        bestRowsOfNoVotes();
        rowsTurnedAboutAreOne();
        rowsAreInOrder();
        rowsOfHeld();
        bestOfHeldIsNotBestOfAll();
        bestOfMost();
        noBestRow();
        bestIsAsThingsAreNow();
        rowPlaces();
        openOnes();
        openOfHeld();
        noKnotOfFew();
        knotOfTwo();
        knotOfThree();
        knotOfFourIsNone();
        fewestVotesAheadOfLeast();
        leastKnotAsBits();
        knotOfTheLastVotes();
        knotHeldOrNot();
        oddOfOneToThree();
        oddOfFirst();
        oddOfTheLastVote();
        secondOfNone();
        secondOfOdd();
        secondHeldOrNot();
        secondOfMost();
        Due.end("RowEdgesTest");
    }

    /** A vote by a word for each member. */
    private static int vote(GalleryRows x, String words) {
        int yes = 0;
        int no = 0;
        for (int m = 0; m < words.length(); m++) {
            yes |= words.charAt(m) == 'y' ? 1 << m : 0;
            no |= words.charAt(m) == 'n' ? 1 << m : 0;
        }
        return x.vote(50, yes, no);
    }

    private static GalleryRows votes(int members, String... votes) {
        GalleryRows x = Due.house(members);
        for (String words : votes) {
            vote(x, words);
        }
        return x;
    }

    /** Held in the order of their numbers: the one row that is so. */
    private static GalleryRows chained(int members, String... votes) {
        GalleryRows x = votes(members, votes);
        for (int m = 1; m < members; m++) {
            x.hold(m - 1, m);
        }
        return x;
    }

    private static void putAll(GalleryRows x, int members) {
        for (int m = 0; m < members; m++) {
            x.put(m);
        }
    }

    private static void cutOf(String words, int code, int wrong) {
        GalleryRows x = votes(words.length(), words);
        putAll(x, words.length());
        Due.is("cut of " + words, x.cut(0), code);
        Due.is("wrong of " + words, x.wrong(0), wrong);
        Due.is("judge() of " + words, x.judge(), code / 100);
    }

    private static void rowAtHandOfNobody() {
        Due.by("promise 13, without MEMBERS the ROW at hand has all");
        GalleryRows x = new GalleryRows();
        Due.is("judge()", x.judge(), 0);
        x.vote(5, 0, 0);
        Due.is("cut(0)", x.cut(0), 0);
        Due.is("wrong(0)", x.wrong(0), 0);
        Due.is("cut(1)", x.cut(1), -1);
        Due.is("judge()", x.judge(), 0);
        Due.is("put(0)", x.put(0), -1);
    }

    private static void rowAtHandOfOne() {
        Due.by("promise 12 and 13, of one MEMBER");
        GalleryRows x = votes(1, "y", "n", "a");
        Due.is("judge()", x.judge(), -3);
        Due.is("put(0)", x.put(0), 1);
        Due.is("put(0)", x.put(0), -3);
        Due.is("cut(0)", x.cut(0), 1);
        Due.is("cut(1)", x.cut(1), 0);
        Due.is("cut(2)", x.cut(2), 0);
        Due.is("wrong(0)", x.wrong(0), 0);
        Due.is("judge()", x.judge(), 0);
        Due.is("judge()", x.judge(), -3);
    }

    private static void rowAtHandOfSeven() {
        Due.by("promise 12, how many");
        GalleryRows x = Due.house(7);
        int[] order = {3, 6, 0, 5, 1, 4, 2};
        for (int i = 0; i < 7; i++) {
            Due.is("judge()", x.judge(), -3);
            Due.is("put(" + order[i] + ")", x.put(order[i]), i + 1);
            Due.is("count(3)", x.count(3), i + 1);
        }
        for (int m = 0; m < 7; m++) {
            Due.is("put(" + m + ")", x.put(m), -3);
        }
        Due.is("put(7)", x.put(7), -1);
        Due.is("judge()", x.judge(), 0);
        Due.is("count(3)", x.count(3), 0);
        Due.is("put(2)", x.put(2), 1);
    }

    private static void rowAtHandStays() {
        Due.by("promise 13, -3 it has not all (it stays)");
        GalleryRows x = votes(3, "yny");
        Due.put(x, 1, 0);
        Due.is("judge()", x.judge(), -3);
        Due.is("cut(0)", x.cut(0), -3);
        Due.is("wrong(0)", x.wrong(0), -3);
        Due.is("count(3)", x.count(3), 2);
        Due.is("put(1)", x.put(1), -3);
        Due.is("put(2)", x.put(2), 3);
        Due.is("cut(0)", x.cut(0), 3);
        Due.is("count(3) behind cut", x.count(3), 3);
        Due.is("judge()", x.judge(), 0);
        Due.is("count(3) behind judge", x.count(3), 0);
    }

    private static void memberBehindAWholeRow() {
        Due.by("promise 13, a MEMBER more, and it has not all");
        GalleryRows x = votes(2, "yn");
        Due.put(x, 1, 0);
        Due.is("cut(0)", x.cut(0), 3);
        x.member(0, 99);
        Due.is("cut(0)", x.cut(0), -3);
        Due.is("judge()", x.judge(), -3);
        Due.is("count(3)", x.count(3), 2);
        Due.is("put(2)", x.put(2), 3);
        Due.is("cut(0)", x.cut(0), 3);
    }

    private static void rowAtHandIsNotAsHeld() {
        Due.by("promise 13, A ROW: all MEMBERS in an order, as HELD or not");
        GalleryRows x = Due.withoutBest();
        Due.put(x, 0, 2, 3);
        Due.is("cut(0)", x.cut(0), 100);
        Due.is("wrong(1)", x.wrong(1), 8);
        Due.is("judge()", x.judge(), 2);
        Due.is("best(0)", x.best(0), -9);
    }

    private static void cutOfNobody() {
        Due.by("BEST CUT: the least place, then side 0, of a VOTE in which nobody voted");
        cutOf("", 0, 0);
        cutOf("a", 0, 0);
        cutOf("aaaaaaa", 0, 0);
    }

    private static void cutOfOneSide() {
        Due.by("BEST CUT of place 0: all are right of it");
        cutOf("y", 1, 0);
        cutOf("n", 0, 0);
        cutOf("yyyyyyy", 1, 0);
        cutOf("nnnnnnn", 0, 0);
        cutOf("aayaaaa", 1, 0);
        cutOf("aaaaaan", 0, 0);
    }

    private static void cutAtEachPlace() {
        Due.by("a place c: those ahead of it are left; a side: 0 yes is left, 1 yes is right");
        for (int c = 1; c < 7; c++) {
            cutOf("y".repeat(c) + "n".repeat(7 - c), 2 * c, 0);
            cutOf("n".repeat(c) + "y".repeat(7 - c), 2 * c + 1, 0);
        }
        cutOf("yn", 2, 0);
        cutOf("ny", 3, 0);
        cutOf("ayaana", 4, 0);
        cutOf("anaaya", 5, 0);
    }

    private static void leastPlaceOfCuts() {
        Due.by("BEST CUT: of several the least place, then side 0");
        cutOf("yny", 101, 2);
        cutOf("nyn", 100, 2);
        cutOf("ynyn", 102, 4);
        cutOf("nyny", 103, 4);
        cutOf("yynyyn", 110, 4);
        cutOf("ynynyn", 202, 20);
        cutOf("ynaayn", 102, 16);
        cutOf("nnynyy", 105, 8);
    }

    private static void cutOfMostWrong() {
        Due.by("BEST CUT, the most WRONG of seven");
        cutOf("ynynyny", 301, 42);
        cutOf("nynynyn", 300, 42);
    }

    private static void judgeOfMost() {
        Due.by("WRONG of a ROW: of all VOTES together, 24 at most");
        GalleryRows x = Due.house(7);
        for (int v = 0; v < 24; v++) {
            vote(x, v % 2 == 0 ? "ynynyny" : "nynynyn");
        }
        putAll(x, 7);
        Due.is("cut(23)", x.cut(23), 300);
        Due.is("cut(24)", x.cut(24), -1);
        Due.is("judge()", x.judge(), 72);
        Due.put(x, 0, 2, 4, 6, 1, 3, 5);
        Due.is("cut(22)", x.cut(22), 8);
        Due.is("judge()", x.judge(), 0);
        Due.put(x, 0, 2, 4, 1, 6, 3, 5);
        Due.is("judge()", x.judge(), 24);
        Due.put(x, 0, 2, 1, 4, 3, 6, 5);
        Due.is("judge()", x.judge(), 48);
    }

    private static void judgeOfNoVotes() {
        Due.by("WRONG of a ROW without VOTES");
        GalleryRows x = Due.house(7);
        putAll(x, 7);
        Due.is("cut(0)", x.cut(0), -1);
        Due.is("wrong(0)", x.wrong(0), -1);
        Due.is("judge()", x.judge(), 0);
    }

    private static void wrongOfEachSide() {
        Due.by("WRONG: those who voted and stand on the other side");
        cutOf("yyyny", 101, 8);
        cutOf("nnnyn", 100, 8);
        cutOf("yyynnyn", 106, 32);
        cutOf("nnnyyny", 107, 32);
        cutOf("ynynnnn", 102, 4);
        cutOf("aynayan", 104, 16);
    }

    private static void wrongByTheLeastPlace() {
        Due.by("promise 15, by the BEST CUT");
        GalleryRows x = votes(4, "ynyn", "ynyn");
        Due.put(x, 3, 2, 1, 0);
        Due.is("cut(0)", x.cut(0), 103);
        Due.is("wrong(0)", x.wrong(0), 2);
        Due.is("wrong(1)", x.wrong(1), 2);
        x.judge();
        Due.put(x, 0, 2, 1, 3);
        Due.is("wrong(1)", x.wrong(1), 0);
    }

    private static void bestRowsOfNoVotes() {
        Due.by("BEST ROWS without VOTES: all ROWS, turned about counted once");
        int[] due = {1, 1, 1, 3, 12, 60, 360, 2520};
        for (int members = 0; members <= 7; members++) {
            GalleryRows x = Due.house(members);
            Due.is("best(0) of " + members, x.best(0), 0);
            Due.is("best(1) of " + members, x.best(1), due[members]);
            for (int place = 0; place < members; place++) {
                Due.is("row(0, " + place + ")", x.row(0, place), place);
            }
            Due.is("row(0, " + members + ")", x.row(0, members), -9);
            Due.is("row(" + due[members] + ", 0)", x.row(due[members], 0), -9);
        }
    }

    private static void rowsTurnedAboutAreOne() {
        Due.by("of these the one with the lesser first MEMBER counts");
        GalleryRows x = Due.house(7);
        x.hold(6, -1);
        Due.is("best(1)", x.best(1), 720);
        Due.row(x, 0, 0, 1, 2, 3, 4, 5, 6);
        Due.row(x, 719, 5, 4, 3, 2, 1, 0, 6);
        x.hold(5, -1);
        Due.is("best(1)", x.best(1), 120);
        Due.row(x, 0, 5, 0, 1, 2, 3, 4, 6);
        Due.row(x, 119, 5, 4, 3, 2, 1, 0, 6);
        GalleryRows two = Due.house(2);
        two.hold(1, -1);
        Due.is("best(1)", two.best(1), 1);
        Due.row(two, 0, 0, 1);
    }

    private static void rowsAreInOrder() {
        Due.by("promise 17, by MEMBERS in order");
        GalleryRows x = Due.house(4);
        int[][] due = {{0, 1, 2, 3}, {0, 1, 3, 2}, {0, 2, 1, 3}, {0, 2, 3, 1}, {0, 3, 1, 2}, {0, 3, 2, 1},
            {1, 0, 2, 3}, {1, 0, 3, 2}, {1, 2, 0, 3}, {1, 3, 0, 2}, {2, 0, 1, 3}, {2, 1, 0, 3}};
        for (int i = 0; i < due.length; i++) {
            Due.row(x, i, due[i]);
        }
        Due.is("row(12, 0)", x.row(12, 0), -9);
        vote(x, "nyyn");
        Due.is("best(1)", x.best(1), 4);
        Due.row(x, 0, 0, 3, 1, 2);
        Due.row(x, 1, 0, 3, 2, 1);
        Due.row(x, 2, 1, 2, 0, 3);
        Due.row(x, 3, 2, 1, 0, 3);
        Due.is("row(4, 0)", x.row(4, 0), -9);
    }

    private static void rowsOfHeld() {
        Due.by("ROWS in which all that is HELD is so");
        GalleryRows x = Due.house(5);
        x.hold(0, 4);
        Due.is("best(1)", x.best(1), 24);
        x.hold(4, -1);
        Due.is("best(1)", x.best(1), 6);
        Due.row(x, 0, 1, 2, 3, 0, 4);
        Due.row(x, 5, 3, 2, 1, 0, 4);
        x.hold(3, -1);
        Due.is("best(1)", x.best(1), 2);
        Due.row(x, 0, 3, 1, 2, 0, 4);
        x.hold(2, 3);
        Due.is("best(1)", x.best(1), 1);
        Due.row(x, 0, 3, 2, 1, 0, 4);
        x.hold(2, 0);
        Due.is("best(1)", x.best(1), -9);
    }

    private static void bestOfHeldIsNotBestOfAll() {
        Due.by("of those, the ones with the least WRONG");
        GalleryRows x = votes(4, "yynn", "yynn", "ynyn");
        Due.is("best(0)", x.best(0), 1);
        Due.is("best(1)", x.best(1), 4);
        x.hold(0, 2);
        Due.is("best(0)", x.best(0), 1);
        Due.is("best(1)", x.best(1), 1);
        Due.row(x, 0, 1, 0, 2, 3);
        x.hold(1, 3);
        Due.is("best(0)", x.best(0), 2);
        Due.is("best(1)", x.best(1), 4);
        Due.row(x, 0, 0, 2, 1, 3);
        Due.is("free()", x.free(), 2);
        Due.is("best(0)", x.best(0), 1);
    }

    private static void bestOfMost() {
        Due.by("the most WRONG that BEST ROWS can have as they are HELD");
        GalleryRows x = chained(7);
        for (int v = 0; v < 24; v++) {
            vote(x, "ynynyny");
        }
        Due.is("best(0)", x.best(0), 72);
        Due.is("best(1)", x.best(1), 1);
        x.free();
        Due.is("best(0)", x.best(0), 0);
        Due.is("best(1)", x.best(1), 144);
    }

    private static void noBestRow() {
        Due.by("if nothing can be as HELD there is none");
        GalleryRows x = Due.house(3);
        x.hold(0, -1);
        x.hold(1, -1);
        Due.is("best(1)", x.best(1), 1);
        x.hold(2, -1);
        Due.is("best(0)", x.best(0), -9);
        Due.is("best(1)", x.best(1), -9);
        Due.is("best(2)", x.best(2), -2);
        Due.is("row(0, 0)", x.row(0, 0), -9);
        x.member(0, 99);
        Due.is("best(1)", x.best(1), -9);
        x.free();
        Due.is("best(1)", x.best(1), 12);
    }

    private static void bestIsAsThingsAreNow() {
        Due.by("BEST ROWS, as members, votes, and what is held are now");
        GalleryRows x = votes(3, "yny");
        Due.is("best(1)", x.best(1), 2);
        Due.row(x, 0, 0, 2, 1);
        vote(x, "ynn");
        Due.is("best(1)", x.best(1), 1);
        x.image();
        x.takeOut();
        Due.is("best(1)", x.best(1), 2);
        x.hold(0, -1);
        Due.is("best(1)", x.best(1), 1);
        x.restore();
        Due.is("best(1)", x.best(1), 1);
        x.member(0, 99);
        Due.is("best(1)", x.best(1), 4);
        Due.row(x, 0, 0, 2, 1, 3);
        x.member(0, 99);
        Due.is("best(1)", x.best(1), 20);
        x.restore();
        Due.is("best(1)", x.best(1), 1);
        Due.row(x, 0, 0, 2, 1);
        Due.readText(x, "k01;");
        Due.is("best(0)", x.best(0), 1);
        Due.readText(x, "v5:yna;m0-99;x");
        Due.is("best(1)", x.best(1), 6);
        x.restore();
        Due.readText(x, "m0-99;");
        Due.is("best(1)", x.best(1), 4);
    }

    private static void rowPlaces() {
        Due.by("promise 17, -9 none such");
        GalleryRows x = Due.house(7);
        Due.is("row(0, 6)", x.row(0, 6), 6);
        Due.is("row(0, 7)", x.row(0, 7), -9);
        Due.is("row(0, -1)", x.row(0, -1), -9);
        Due.is("row(-1, 0)", x.row(-1, 0), -9);
        Due.is("row(2519, 0)", x.row(2519, 0), 5);
        Due.is("row(2519, 6)", x.row(2519, 6), 6);
        Due.is("row(2520, 0)", x.row(2520, 0), -9);
        Due.is("row(least, least)", x.row(Integer.MIN_VALUE, Integer.MIN_VALUE), -9);
        Due.is("row(greatest, 0)", x.row(Integer.MAX_VALUE, 0), -9);
        Due.is("row(0, greatest)", x.row(0, Integer.MAX_VALUE), -9);
        Due.is("row(0, 0) of nobody", new GalleryRows().row(0, 0), -9);
    }

    private static void openOnes() {
        Due.by("OPEN, that do not stand at the same place in all BEST ROWS");
        int[] due = {0, 0, 0, 7, 15, 31, 63, 127};
        for (int members = 0; members <= 7; members++) {
            Due.is("open() of " + members, Due.house(members).open(), due[members]);
        }
        GalleryRows x = votes(4, "ynnn");
        Due.is("best(1)", x.best(1), 6);
        Due.is("open()", x.open(), 14);
        vote(x, "yynn");
        Due.is("best(1)", x.best(1), 2);
        Due.is("open()", x.open(), 12);
        vote(x, "yyyn");
        Due.is("best(1)", x.best(1), 1);
        Due.is("open()", x.open(), 0);
    }

    private static void openOfHeld() {
        Due.by("OPEN, as it is HELD");
        GalleryRows x = chained(7);
        Due.is("open()", x.open(), 0);
        x.free();
        x.hold(3, -1);
        Due.is("open()", x.open(), 127);
        x.free();
        x.hold(6, -1);
        x.hold(5, -1);
        Due.is("open()", x.open(), 31);
        x.hold(4, -1);
        Due.is("open()", x.open(), -9);
    }

    private static void noKnotOfFew() {
        Due.by("promise 19, -9");
        Due.is("knot() of nobody", new GalleryRows().knot(), -9);
        Due.is("knot() of no VOTES", Due.house(7).knot(), -9);
        Due.is("knot() of one", votes(7, "ynynyny").knot(), -9);
        Due.is("knot() of two alike", votes(4, "yynn", "nnyy").knot(), -9);
        Due.is("knot() of three members", votes(3, "yny", "nyy", "yyn").knot(), 7);
        Due.is("knot() of two of three", votes(3, "yny", "nyy").knot(), -9);
        Due.is("knot() of two members", votes(2, "yn", "ny", "yy").knot(), -9);
    }

    private static void knotOfTwo() {
        Due.by("A KNOT of two VOTES");
        Due.is("knot()", votes(4, "yynn", "ynyn").knot(), 3);
        Due.is("knot()", votes(4, "ynyn", "yyyy", "yynn").knot(), 5);
        Due.is("knot()", votes(4, "yyyy", "ynyn", "yynn").knot(), 6);
        Due.is("knot()", votes(4, "yynn", "yyan").knot(), -9);
    }

    private static void knotOfThree() {
        Due.by("A KNOT of three VOTES");
        GalleryRows x = votes(4, "ynnn", "nynn", "aaaa", "nnyn");
        Due.is("knot()", x.knot(), 11);
        x.takeOut();
        Due.is("knot()", x.knot(), -9);
        vote(x, "nnny");
        Due.is("knot()", x.knot(), 11);
        vote(x, "nnyn");
        Due.is("knot()", x.knot(), 11);
    }

    private static void knotOfFourIsNone() {
        Due.by("A KNOT: 3 at most");
        GalleryRows x = Due.house(4);
        x.vote(5, 5, 8);
        x.vote(5, 1, 6);
        x.vote(5, 4, 11);
        x.vote(5, 10, 1);
        Due.is("best(0)", x.best(0), 1);
        Due.is("knot()", x.knot(), -9);
    }

    private static void fewestVotesAheadOfLeast() {
        Due.by("A KNOT: the fewest VOTES");
        GalleryRows x = votes(4, "ynnn", "nynn", "nnyn");
        Due.is("knot()", x.knot(), 7);
        vote(x, "yynn");
        Due.is("knot()", x.knot(), 7);
        vote(x, "ynyn");
        Due.is("knot()", x.knot(), 24);
        x.takeOut();
        Due.is("knot()", x.knot(), 7);
    }

    private static void leastKnotAsBits() {
        Due.by("A KNOT: of several sets the least as bits");
        // The votes 0 and 3 are a knot, and so are 1 and 2: six is less than nine.
        Due.is("knot()", votes(7, "yynnaaa", "aaayynn", "aaaynyn", "ynynaaa").knot(), 6);
        Due.is("knot()", votes(4, "yynn", "yynn", "ynyn", "ynyn").knot(), 5);
        Due.is("knot()", votes(4, "yynn", "yynn", "nnyy", "ynyn").knot(), 9);
        Due.is("knot()", votes(4, "yynn", "ynyn", "nyyn", "yynn").knot(), 3);
        Due.is("knot()", votes(7, "ynnnaaa", "nynnaaa", "aaaaaaa", "nnnyaaa", "nnynaaa").knot(), 11);
        // Of three: the votes 2, 3, 4 are 28, and 0, 1, 4 are 19.
        GalleryRows three = votes(7, "aaaynna", "aaanyna", "ynnaaaa", "nynaaaa", "nnyaaaa", "aaannya");
        Due.is("knot()", three.knot(), 28);
        three.takeOut();
        three.takeOut();
        vote(three, "aaannya");
        vote(three, "nnyaaaa");
        Due.is("knot()", three.knot(), 19);
    }

    private static void knotOfTheLastVotes() {
        Due.by("A KNOT of the last of 24 VOTES");
        GalleryRows x = Due.house(4);
        for (int v = 0; v < 22; v++) {
            vote(x, "yyyy");
        }
        vote(x, "yynn");
        vote(x, "ynyn");
        Due.is("knot()", x.knot(), 3 << 22);
        x.takeOut();
        x.takeOut();
        x.takeOut();
        vote(x, "ynna");
        vote(x, "nyna");
        vote(x, "nnya");
        Due.is("knot()", x.knot(), 7 << 21);
    }

    private static void knotHeldOrNot() {
        Due.by("A KNOT: no ROW (HELD or not)");
        GalleryRows x = chained(4, "ynyn", "nyny");
        Due.is("best(0)", x.best(0), 2);
        Due.is("knot()", x.knot(), -9);
        x.hold(0, 2);
        Due.is("best(0)", x.best(0), -9);
        Due.is("knot()", x.knot(), -9);
        vote(x, "yynn");
        Due.is("knot()", x.knot(), 5);
    }

    private static void oddOfOneToThree() {
        Due.by("ODD: as many WRONG in FIRST as told (1 .. 3), or more");
        GalleryRows x = chained(7, "yyynnnn", "ynyaaaa", "ynynyna", "ynynyny", "nynaaaa", "nynynya", "nynynyn");
        Due.is("odd(0)", x.odd(0), -4);
        Due.is("odd(1)", x.odd(1), 126);
        Due.is("odd(2)", x.odd(2), 108);
        Due.is("odd(3)", x.odd(3), 72);
        Due.is("odd(4)", x.odd(4), -6);
    }

    private static void oddOfFirst() {
        Due.by("ODD: in FIRST");
        GalleryRows x = votes(3, "yny", "yyn", "nyy");
        Due.is("best(0)", x.best(0), 1);
        Due.is("best(1)", x.best(1), 3);
        Due.is("odd(1)", x.odd(1), 1);
        x.hold(1, -1);
        Due.row(x, 0, 0, 2, 1);
        Due.is("odd(1)", x.odd(1), 2);
        x.hold(2, -1);
        Due.row(x, 0, 1, 0, 2);
        Due.is("odd(1)", x.odd(1), 4);
    }

    private static void oddOfTheLastVote() {
        Due.by("ODD, the last of 24 VOTES");
        GalleryRows x = chained(7);
        for (int v = 0; v < 24; v++) {
            vote(x, v == 0 || v == 23 ? "ynynyny" : "yyyynnn");
        }
        for (int many = 1; many <= 3; many++) {
            Due.is("odd(" + many + ")", x.odd(many), 1 << 23 | 1);
        }
        x.takeOut();
        Due.is("odd(3)", x.odd(3), 1);
        Due.is("odd(3) of no VOTES", Due.house(7).odd(3), 0);
        Due.is("odd(1) of no MEMBERS", new GalleryRows().odd(1), 0);
    }

    private static void secondOfNone() {
        Due.by("SECOND, none is ODD");
        for (int many = 1; many <= 3; many++) {
            Due.is("second(" + many + ")", votes(4, "yynn", "yyyn").second(many), 0);
            Due.is("second(" + many + ") of no VOTES", Due.house(7).second(many), 0);
            Due.is("second(" + many + ") of no MEMBERS", new GalleryRows().second(many), 0);
        }
    }

    private static void secondOfOdd() {
        Due.by("SECOND: WRONG of ODD VOTES alone in the ROW that is best for them");
        // As they stand, two are wrong twice, and one once; the two can not be without one wrong.
        GalleryRows x = chained(6, "ynynyn", "ynyyny", "aaynya", "yyynnn");
        Due.is("odd(1)", x.odd(1), 7);
        Due.is("odd(2)", x.odd(2), 3);
        Due.is("odd(3)", x.odd(3), 0);
        Due.is("second(1)", x.second(1), 1);
        Due.is("second(2)", x.second(2), 1);
        Due.is("second(3)", x.second(3), 0);
        Due.is("second(0)", x.second(0), -4);
        Due.is("second(4)", x.second(4), -6);
    }

    private static void secondHeldOrNot() {
        Due.by("SECOND: the ROW that is best for them (HELD or not)");
        GalleryRows x = chained(7, "ynynyny");
        Due.is("odd(3)", x.odd(3), 1);
        Due.is("second(3)", x.second(3), 0);
        vote(x, "ynynyny");
        Due.is("best(0)", x.best(0), 6);
        Due.is("second(1)", x.second(1), 0);
    }

    private static void secondOfMost() {
        Due.by("SECOND of 24 VOTES");
        GalleryRows x = chained(7);
        for (int v = 0; v < 24; v++) {
            vote(x, v < 12 ? "ynynyny" : "yynnyyn");
        }
        Due.is("best(0)", x.best(0), 60);
        Due.is("odd(3)", x.odd(3), 4095);
        Due.is("second(3)", x.second(3), 0);
        Due.is("odd(2)", x.odd(2), (1 << 24) - 1);
        Due.is("second(2)", x.second(2), 12);
        // Three of seven against four in 24 ways: the best of all rows, counted by PlainHouse.
        GalleryRows ways = chained(7);
        for (int yes = 0; ways.count(1) < 24; yes++) {
            if (Integer.bitCount(yes) == 3) {
                ways.vote(50, yes, 127 - yes);
            }
        }
        Due.is("odd(1)", ways.odd(1), 16777214);
        Due.is("odd(3)", ways.odd(3), 1 << 14);
        Due.is("second(1)", ways.second(1), 32);
        Due.is("second(2)", ways.second(2), 21);
        Due.is("second(3)", ways.second(3), 0);
    }
}
