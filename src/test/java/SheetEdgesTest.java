/** The edges of the sheet: promises 21 to 24, and in the Terms "A SHEET", "LINES", "BEST LINE", "A TURN". */
public final class SheetEdgesTest {
    public static void main(String[] args) {
        placesOfTheSheet();
        placeOfTheLastMember();
        nobodyVoted();
        allOnOneSide();
        allAtOnePoint();
        linesOfX();
        linesOfY();
        linesOfXAndY();
        linesOfXLessY();
        belowIsBelow();
        leastSortOfSeveral();
        leastPlaceOfSeveral();
        fewestWrongAheadOfSort();
        lineOfTheLastVote();
        wrongOfTheSheet();
        sheetOfMost();
        turnOfNobody();
        whoIsAsGoodStays();
        leastOfYThenX();
        uppermostPoints();
        turnGoesMemberByMember();
        turnOfAllVotesTogether();
        turnOfMost();
        Due.end("SheetEdgesTest");
    }

    /** Members at these points: two digits each, x and y. */
    private static GalleryRows at(String... points) {
        GalleryRows x = Due.house(points.length);
        for (int m = 0; m < points.length; m++) {
            x.place(m, points[m].charAt(0) - '0', points[m].charAt(1) - '0');
        }
        return x;
    }

    /** A vote by a word for each member. */
    private static int vote(GalleryRows x, String words) {
        int yes = 0;
        int no = 0;
        for (int m = 0; m < words.length(); m++) {
            yes |= words.charAt(m) == 'y' ? 1 << m : 0;
            no |= words.charAt(m) == 'n' ? 1 << m : 0;
        }
        return x.vote(50, yes, no);
    }

    private static void line(String words, int due, String... points) {
        GalleryRows x = at(points);
        int v = vote(x, words);
        Due.is("line of " + words + " at " + String.join(" ", points), x.line(v), due);
        Due.is("sheet of " + words + " at " + String.join(" ", points), x.sheet(), due / 1000);
    }

    // Placing them at 0, 0 tells where they were.
    private static void standAt(GalleryRows x, String... points) {
        for (int m = 0; m < points.length; m++) {
            int due = 5 * (points[m].charAt(0) - '0') + points[m].charAt(1) - '0';
            Due.is("place(" + m + ", 0, 0)", x.place(m, 0, 0), due);
        }
    }

    private static void placesOfTheSheet() {
        Due.by("promise 21, 0 .. 4 each, 5 x and y as it was");
        GalleryRows x = Due.house(1);
        int was = 0;
        for (int to = 0; to < 25; to++) {
            Due.is("place(0, " + to / 5 + ", " + to % 5 + ")", x.place(0, to / 5, to % 5), was);
            was = to;
        }
        Due.is("place(0, 5, 4)", x.place(0, 5, 4), -6);
        Due.is("place(0, 4, 5)", x.place(0, 4, 5), -6);
        Due.is("place(0, -1, 0)", x.place(0, -1, 0), -4);
        Due.is("place(0, 0, -1)", x.place(0, 0, -1), -4);
        Due.is("place(0, 0, 0)", x.place(0, 0, 0), 24);
    }

    private static void placeOfTheLastMember() {
        Due.by("promise 21, MEMBERS 0 .. 6");
        GalleryRows x = Due.house(7);
        Due.is("place(6, 4, 3)", x.place(6, 4, 3), 0);
        Due.is("place(7, 4, 3)", x.place(7, 4, 3), -1);
        Due.is("place(6, 1, 2)", x.place(6, 1, 2), 23);
        Due.is("place(5, 1, 2)", x.place(5, 1, 2), 0);
    }

    private static void nobodyVoted() {
        Due.by("BEST LINE of a VOTE in which nobody voted");
        line("", 0);
        line("a", 0, "44");
        line("aaaaaaa", 0, "00", "11", "22", "33", "44", "04", "40");
    }

    private static void allOnOneSide() {
        Due.by("c -4 is the least: nobody is below");
        line("y", 1, "00");
        line("n", 0, "00");
        line("y", 1, "44");
        line("n", 0, "04");
        line("yyyyyyy", 1, "00", "11", "22", "33", "44", "04", "40");
        line("nnnnnnn", 0, "00", "11", "22", "33", "44", "04", "40");
        line("ayaya", 1, "00", "11", "22", "33", "44");
    }

    private static void allAtOnePoint() {
        Due.by("then yes below first");
        line("yn", 1000, "00", "00");
        line("ny", 1000, "44", "44");
        line("yyn", 1001, "22", "22", "22");
        line("nny", 1000, "22", "22", "22");
        line("yynn", 2000, "31", "31", "31", "31");
        line("yyyyn", 1001, "10", "10", "10", "10", "10");
        line("yyyynnn", 3001, "00", "00", "00", "00", "00", "00", "00");
        line("yyynnnn", 3000, "40", "40", "40", "40", "40", "40", "40");
    }

    private static void linesOfX() {
        Due.by("LINES x below c");
        for (int x = 0; x < 4; x++) {
            line("yn", 2 * (x + 5), x + "2", (x + 1) + "2");
            line("ny", 2 * (x + 5) + 1, x + "2", (x + 1) + "2");
        }
        line("yyn", 10, "00", "04", "12");
        line("nny", 16, "40", "44", "32");
        line("yyyyn", 16, "00", "11", "22", "33", "44");
        line("ynnnn", 10, "00", "11", "22", "33", "44");
    }

    private static void linesOfY() {
        Due.by("LINES y below c");
        for (int y = 0; y < 4; y++) {
            line("yn", 100 + 2 * (y + 5), "2" + y, "2" + (y + 1));
            line("ny", 100 + 2 * (y + 5) + 1, "2" + y, "2" + (y + 1));
        }
        line("yyn", 110, "00", "40", "21");
        line("nny", 116, "04", "44", "23");
        line("ynyn", 110, "00", "01", "40", "41");
        line("nyny", 117, "03", "04", "43", "44");
    }

    private static void linesOfXAndY() {
        Due.by("LINES x and y below c");
        line("ynn", 210, "00", "10", "01");
        line("nyy", 211, "00", "10", "01");
        line("nny", 225, "43", "34", "44");
        line("yyn", 224, "43", "34", "44");
        line("yynn", 216, "30", "03", "04", "40");
        line("nnyy", 219, "40", "04", "41", "14");
    }

    private static void linesOfXLessY() {
        Due.by("LINES x less y below c");
        line("ynn", 302, "04", "03", "14");
        line("nyy", 303, "04", "03", "14");
        line("ynn", 317, "40", "30", "41");
        line("nyy", 316, "40", "30", "41");
        line("ynyn", 308, "01", "00", "34", "33");
    }

    private static void belowIsBelow() {
        Due.by("those below are one side");
        line("yyn", 12, "10", "13", "20");
        line("yyn", 112, "01", "31", "02");
        line("yynn", 214, "20", "02", "03", "30");
        line("yynn", 310, "00", "44", "10", "43");
    }

    private static void leastSortOfSeveral() {
        Due.by("of several by sort (0 .. 3)");
        line("yn", 10, "00", "11");
        line("yn", 110, "00", "01");
        line("yn", 11, "10", "01");
        line("yn", 110, "10", "11");
        line("ynn", 111, "21", "10", "30");
        line("ynn", 210, "00", "01", "10");
    }

    private static void leastPlaceOfSeveral() {
        Due.by("of several then c");
        line("yn", 10, "00", "44");
        line("yn", 11, "44", "00");
        line("yn", 12, "10", "40");
        line("yn", 112, "21", "24");
        line("ynyn", 1010, "00", "10", "20", "30");
        line("nyny", 1011, "00", "10", "20", "30");
    }

    private static void fewestWrongAheadOfSort() {
        Due.by("BEST LINE: the fewest WRONG");
        line("ynyn", 110, "00", "11", "20", "31");
        line("ynynyn", 110, "00", "11", "20", "31", "40", "41");
        line("ynynynn", 2010, "00", "10", "20", "30", "40", "20", "40");
        line("ynyynn", 1014, "00", "10", "21", "21", "30", "30");
        line("ynyynn", 310, "00", "10", "22", "22", "30", "30");
    }

    private static void lineOfTheLastVote() {
        Due.by("promise 22, of 24 VOTES");
        GalleryRows x = at("00", "40");
        for (int v = 0; v < 24; v++) {
            vote(x, v == 23 ? "yn" : "ny");
        }
        Due.is("line(22)", x.line(22), 11);
        Due.is("line(23)", x.line(23), 10);
        Due.is("line(24)", x.line(24), -1);
        Due.is("line(-1)", x.line(-1), -1);
    }

    private static void wrongOfTheSheet() {
        Due.by("promise 23, WRONG of all together");
        GalleryRows x = at("00", "00", "00", "00");
        Due.is("sheet()", x.sheet(), 0);
        vote(x, "yynn");
        Due.is("sheet()", x.sheet(), 2);
        vote(x, "ynnn");
        Due.is("sheet()", x.sheet(), 3);
        vote(x, "aaay");
        Due.is("sheet()", x.sheet(), 3);
        x.place(0, 0, 1);
        Due.is("sheet()", x.sheet(), 1);
        x.place(1, 0, 2);
        Due.is("sheet()", x.sheet(), 1);
        x.place(0, 0, 3);
        Due.is("sheet()", x.sheet(), 0);
        x.takeOut();
        x.takeOut();
        Due.is("sheet()", x.sheet(), 0);
    }

    private static void sheetOfMost() {
        Due.by("promise 23, of seven MEMBERS and 24 VOTES");
        GalleryRows x = Due.house(7);
        for (int v = 0; v < 24; v++) {
            vote(x, v % 2 == 0 ? "ynynyny" : "nynynyn");
        }
        Due.is("sheet()", x.sheet(), 72);
        for (int m = 0; m < 7; m++) {
            x.place(m, 2, m % 2 * 4);
        }
        Due.is("sheet()", x.sheet(), 0);
        x.place(3, 2, 0);
        Due.is("sheet()", x.sheet(), 24);
    }

    private static void turnOfNobody() {
        Due.by("promise 24, without MEMBERS, without VOTES");
        Due.is("turn()", new GalleryRows().turn(), 0);
        GalleryRows x = at("44", "00", "31", "22", "13", "04", "40");
        Due.is("turn()", x.turn(), 0);
        standAt(x, "44", "00", "31", "22", "13", "04", "40");
        GalleryRows votesAlone = new GalleryRows();
        votesAlone.vote(5, 0, 0);
        Due.is("turn()", votesAlone.turn(), 0);
    }

    private static void whoIsAsGoodStays() {
        Due.by("A TURN: if his own is as good he stays");
        GalleryRows x = at("33", "44");
        vote(x, "yn");
        Due.is("turn()", x.turn(), 0);
        standAt(x, "33", "44");
        // Only outside of the sheet could one stand apart from the four corners.
        GalleryRows corners = at("22", "00", "40", "04", "44");
        vote(corners, "ynnnn");
        Due.is("turn()", corners.turn(), 1);
        standAt(corners, "22", "00", "40", "04", "44");
        GalleryRows still = at("22", "22");
        vote(still, "yy");
        vote(still, "na");
        Due.is("turn()", still.turn(), 0);
        standAt(still, "22", "22");
    }

    private static void leastOfYThenX() {
        Due.by("A TURN: else the least of y, then x");
        GalleryRows origin = at("00", "00");
        vote(origin, "yn");
        Due.is("turn()", origin.turn(), 0);
        standAt(origin, "10", "00");
        GalleryRows middle = at("22", "22");
        vote(middle, "yn");
        Due.is("turn()", middle.turn(), 0);
        standAt(middle, "00", "22");
        GalleryRows right = at("11", "11", "00");
        vote(right, "yna");
        vote(right, "yan");
        Due.is("turn()", right.turn(), 0);
        standAt(right, "10", "11", "00");
    }

    private static void uppermostPoints() {
        Due.by("A TURN: points 0 .. 4 each");
        // The others leave only one point to one who votes against all of them.
        GalleryRows upper = at("22", "00", "43", "34", "40", "04", "00");
        vote(upper, "ynnnnnn");
        Due.is("sheet()", upper.sheet(), 1);
        Due.is("turn()", upper.turn(), 0);
        standAt(upper, "44", "00", "43", "34", "40", "04", "00");
        GalleryRows lower = at("22", "10", "01", "44", "40", "04", "44");
        vote(lower, "nyyyyyy");
        Due.is("turn()", lower.turn(), 0);
        standAt(lower, "00", "10", "01", "44", "40", "04", "44");
        GalleryRows right = at("22", "00", "30", "41", "44", "04", "44");
        vote(right, "ynnnnnn");
        Due.is("turn()", right.turn(), 0);
        standAt(right, "40", "00", "30", "41", "44", "04", "44");
        GalleryRows left = at("22", "00", "03", "14", "44", "40", "44");
        vote(left, "ynnnnnn");
        Due.is("turn()", left.turn(), 0);
        standAt(left, "04", "00", "03", "14", "44", "40", "44");
    }

    private static void turnGoesMemberByMember() {
        Due.by("A TURN: MEMBER by MEMBER");
        GalleryRows x = at("00", "00", "00");
        vote(x, "yna");
        vote(x, "ayn");
        vote(x, "yan");
        // 0 leaves and parts two votes; then 1 finds the point that parts the third.
        Due.is("sheet()", x.sheet(), 3);
        Due.is("turn()", x.turn(), 0);
        standAt(x, "10", "20", "00");
        GalleryRows last = at("00", "11", "22", "33", "44", "22", "22");
        vote(last, "aaaaayn");
        Due.is("turn()", last.turn(), 0);
        standAt(last, "00", "11", "22", "33", "44", "00", "22");
    }

    private static void turnOfAllVotesTogether() {
        Due.by("A TURN: WRONG of the SHEET then");
        GalleryRows x = at("00", "00", "00", "00");
        vote(x, "ynyn");
        vote(x, "nyyn");
        vote(x, "nnyn");
        Due.is("sheet()", x.sheet(), 5);
        Due.is("turn()", x.turn(), 1);
        Due.is("sheet() behind turn()", x.sheet(), 1);
        // The next turn begins where the last one has brought them.
        Due.is("turn() again", x.turn(), 0);
        Due.is("sheet() behind it", x.sheet(), 0);
    }

    private static void turnOfMost() {
        Due.by("A TURN of seven MEMBERS and 24 VOTES");
        GalleryRows x = Due.house(7);
        for (int v = 0; v < 24; v++) {
            vote(x, "ynynyny");
        }
        Due.is("turn()", x.turn(), 0);
        standAt(x, "00", "10", "00", "10", "00", "10", "00");
    }
}
