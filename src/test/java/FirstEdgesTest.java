/** The edges of what is asked of FIRST: promises 20 and 27 to 31, and in the Terms III "LOTS" and IV. */
public final class FirstEdgesTest {
    private static final int LEAST = Integer.MIN_VALUE;
    private static final int GREATEST = Integer.MAX_VALUE;

    public static void main(String[] args) {
        chanceOfNoVotes();
        chanceOfOneSide();
        chanceOfBooks();
        chanceOfSeeds();
        seedWrapsAround();
        seedGoesOn();
        lotsOfThoseWhoVoted();
        asLittleAsNowOrLess();
        chanceByFirst();
        chanceOfMost();
        noMove();
        moveFromTheFirstYear();
        moveFromTheLastYear();
        moveOfThatYearAndLater();
        moveToTheFirstPlace();
        moveToTheLastPlace();
        leastMemberOfMoves();
        leastYearOfMoves();
        leastPlaceOfMoves();
        mostFallsAheadOfMember();
        moveOfTwoAndThreeWrong();
        moveOfMost();
        stretchesOfEachParty();
        stretchesOfFirst();
        twoIsTwoOrMore();
        theFirstPartyOfTwo();
        inAnothers();
        inAnothersAtTheEnds();
        sayOfEachSide();
        sayOfPlaceZero();
        sayByFirst();
        sayOfTheLastVote();
        sureOfOneRow();
        sureOfTheFirstRow();
        sureOfTheLastRow();
        sureOfAllRows();
        Due.end("FirstEdgesTest");
    }

    private static int vote(GalleryRows x, int year, String words) {
        int yes = 0;
        int no = 0;
        for (int m = 0; m < words.length(); m++) {
            yes |= words.charAt(m) == 'y' ? 1 << m : 0;
            no |= words.charAt(m) == 'n' ? 1 << m : 0;
        }
        return x.vote(year, yes, no);
    }

    private static GalleryRows votes(int members, String... votes) {
        GalleryRows x = Due.house(members);
        for (String words : votes) {
            vote(x, 50, words);
        }
        return x;
    }

    /** Held in the order of their numbers, which is FIRST then, whatever the votes are. */
    private static GalleryRows chained(int members) {
        GalleryRows x = Due.house(members);
        for (int m = 1; m < members; m++) {
            x.hold(m - 1, m);
        }
        return x;
    }

    private static GalleryRows chained(int members, String... votes) {
        GalleryRows x = chained(members);
        for (String words : votes) {
            vote(x, 50, words);
        }
        return x;
    }

    // CHANCE

    /** The lots once more, in long numbers that are cut to 32 bits, for a row in the order of their numbers. */
    private static int plainChance(int n, int z, int asNow, String... votes) {
        long seed = z & 0xffffffffL;
        int few = 0;
        for (int book = 0; book < n; book++) {
            int wrong = 0;
            for (String words : votes) {
                char[] dealt = words.toCharArray();
                long left = words.replace("a", "").length();
                long yesLeft = words.replaceAll("[an]", "").length();
                for (int m = 0; m < dealt.length; m++) {
                    if (dealt[m] == 'a') {
                        continue;
                    }
                    seed = (seed * 1103515245L + 12345L) & 0xffffffffL;
                    boolean isYes = seed / 256 % left < yesLeft;
                    dealt[m] = isYes ? 'y' : 'n';
                    yesLeft -= isYes ? 1 : 0;
                    left--;
                }
                wrong += leastWrong(new String(dealt));
            }
            few += wrong <= asNow ? 1 : 0;
        }
        return few;
    }

    private static int leastWrong(String words) {
        int least = words.length();
        for (int c = 0; c <= words.length(); c++) {
            String left = words.substring(0, c);
            String right = words.substring(c);
            int yesLeft = left.replaceAll("[ay]", "").length() + right.replaceAll("[an]", "").length();
            int yesRight = left.replaceAll("[an]", "").length() + right.replaceAll("[ay]", "").length();
            least = Math.min(least, Math.min(yesLeft, yesRight));
        }
        return least;
    }

    private static void chances(int members, String... votes) {
        GalleryRows x = chained(members, votes);
        int asNow = x.best(0);
        int due = 0;
        for (String words : votes) {
            due += leastWrong(words);
        }
        Due.is("best(0)", asNow, due);
        for (int z : new int[] {0, 1, -1, 7, LEAST, LEAST + 1, GREATEST, GREATEST - 1, 123456789, -987654321}) {
            for (int n = 1; n <= 20; n++) {
                Due.is("chance(" + n + ", " + z + ") of " + String.join(" ", votes), x.chance(n, z),
                    plainChance(n, z, asNow, votes));
            }
        }
    }

    private static void chanceOfNoVotes() {
        Due.by("CHANCE without VOTES, without MEMBERS: as little as now");
        for (int n = 1; n <= 20; n++) {
            Due.is("chance(" + n + ", 3) of nobody", new GalleryRows().chance(n, 3), n);
            Due.is("chance(" + n + ", 3) of no VOTES", Due.house(7).chance(n, 3), n);
            Due.is("chance(" + n + ", 3) where nobody voted", votes(3, "aaa", "").chance(n, 3), n);
        }
    }

    private static void chanceOfOneSide() {
        Due.by("CHANCE of VOTES in which all said the same: as many yes as there were");
        for (int z : new int[] {LEAST, -1, 0, 1, GREATEST}) {
            Due.is("chance(20, " + z + ") of yes", votes(7, "yyyyyyy").chance(20, z), 20);
            Due.is("chance(20, " + z + ") of no", votes(7, "nnnnnnn").chance(20, z), 20);
            Due.is("chance(20, " + z + ") of one", votes(7, "aaayaaa", "aaaaaan").chance(20, z), 20);
        }
    }

    private static void chanceOfBooks() {
        Due.by("n BOOKS (1 .. 20)");
        chances(4, "yynn");
        chances(4, "ynyn");
        GalleryRows x = chained(4, "yynn");
        Due.is("chance(0, 7)", x.chance(0, 7), -4);
        Due.is("chance(21, 7)", x.chance(21, 7), -6);
    }

    private static void chanceOfSeeds() {
        Due.by("a seed z, any int");
        chances(7, "yyynnnn", "yyyyynn");
        chances(5, "ynyny");
        chances(3, "yny", "ynn", "aya");
    }

    private static void seedWrapsAround() {
        Due.by("z becomes z * 1103515245 + 12345 (an int), (z >>> 8)");
        // The first numbers are 12345 by 0, -2147471303 by the least, and 1103527590 by 1.
        int[] seeds = {0, LEAST, 1, -1, GREATEST, 2, 3, 65536, -65536};
        GalleryRows x = chained(3, "ayn", "yna");
        vote(x, 50, "yny");
        for (int z : seeds) {
            for (int n = 1; n <= 20; n++) {
                Due.is("chance(" + n + ", " + z + ")", x.chance(n, z), plainChance(n, z, 1, "ayn", "yna", "yny"));
            }
        }
    }

    private static void seedGoesOn() {
        Due.by("z goes on from one to the next");
        GalleryRows x = chained(4, "yynn", "yynn");
        int all = x.chance(20, 99);
        Due.is("chance(20, 99)", all, plainChance(20, 99, 0, "yynn", "yynn"));
        Due.is("chance(20, 99) is not 0", all == 0 ? 0 : 1, 1);
        Due.is("chance(20, 99) is not 20", all == 20 ? 0 : 1, 1);
        Due.is("chance(20, 99) again", x.chance(20, 99), all);
    }

    private static void lotsOfThoseWhoVoted() {
        Due.by("from those who voted the yes ones are dealt anew");
        chances(7, "yanayan", "ayaynan");
        chances(6, "aaynya", "ynaayn");
        chances(7, "yaaaaan", "nyaaaay");
    }

    private static void asLittleAsNowOrLess() {
        Due.by("CHANCE: as little as now, or less");
        chances(7, "ynynyny");
        chances(7, "yynnyyn");
        chances(7, "ynynnnn");
        chances(5, "ynyny", "yynnn");
        // No lots can have more than three wrong of seven.
        Due.is("chance(20, 5)", chained(7, "ynynyny").chance(20, 5), 20);
    }

    private static void chanceByFirst() {
        Due.by("WRONG of FIRST (as the ROW is now)");
        GalleryRows x = votes(4, "ynyn");
        Due.row(x, 0, 0, 2, 1, 3);
        int[] due = new int[21];
        for (int n = 1; n <= 20; n++) {
            // Dealt are 0, 1, 2, 3 in this order, and judged in 0 2 1 3: the second and the third changed.
            due[n] = dealtInOtherOrder(n, 11);
            Due.is("chance(" + n + ", 11)", x.chance(n, 11), due[n]);
        }
    }

    private static int dealtInOtherOrder(int n, int z) {
        long seed = z;
        int few = 0;
        for (int book = 0; book < n; book++) {
            StringBuilder dealt = new StringBuilder();
            int yesLeft = 2;
            for (int left = 4; left > 0; left--) {
                seed = (seed * 1103515245L + 12345L) & 0xffffffffL;
                boolean isYes = seed / 256 % left < yesLeft;
                dealt.append(isYes ? 'y' : 'n');
                yesLeft -= isYes ? 1 : 0;
            }
            String inRow = "" + dealt.charAt(0) + dealt.charAt(2) + dealt.charAt(1) + dealt.charAt(3);
            few += leastWrong(inRow) == 0 ? 1 : 0;
        }
        return few;
    }

    private static void chanceOfMost() {
        Due.by("CHANCE of seven MEMBERS, 24 VOTES, 20 BOOKS");
        String[] votes = new String[24];
        for (int v = 0; v < 24; v++) {
            votes[v] = v % 3 == 0 ? "yynnyyn" : v % 3 == 1 ? "yyynnnn" : "ynnnnnn";
        }
        chances(7, votes);
    }

    // BEST MOVE

    private static void moved(GalleryRows x, int... due) {
        for (int what = 0; what <= 3; what++) {
            Due.is("move(" + what + ")", x.move(what), due[what]);
        }
        Due.is("move(4)", x.move(4), -2);
        Due.is("move(-1)", x.move(-1), -2);
    }

    private static void noMove() {
        Due.by("None falls: none");
        moved(new GalleryRows(), -9, -9, -9, -9);
        moved(Due.house(1), -9, -9, -9, -9);
        moved(Due.house(7), -9, -9, -9, -9);
        moved(votes(1, "y", "n"), -9, -9, -9, -9);
        moved(votes(2, "yn", "ny"), -9, -9, -9, -9);
        moved(votes(4, "yynn", "ynyn", "ynny"), -9, -9, -9, -9);
        moved(chained(4, "yynn", "yyyn"), -9, -9, -9, -9);
    }

    private static void moveFromTheFirstYear() {
        Due.by("BEST MOVE: the YEAR (0 .. 99), the least");
        for (int year : new int[] {0, 1, 50, 98, 99}) {
            GalleryRows x = chained(3);
            vote(x, year, "nyn");
            moved(x, 1, 0, 0, 1);
        }
    }

    private static void moveFromTheLastYear() {
        Due.by("BEST MOVE: the YEAR (0 .. 99), the greatest");
        for (int year : new int[] {1, 2, 50, 98, 99}) {
            GalleryRows x = chained(3);
            vote(x, year, "nyn");
            vote(x, year - 1, "ynn");
            vote(x, year - 1, "nny");
            moved(x, 1, 0, year, 1);
        }
    }

    private static void moveOfThatYearAndLater() {
        Due.by("VOTES of that YEAR and later by the ROW as it is then");
        GalleryRows x = chained(3);
        vote(x, 30, "nyn");
        vote(x, 40, "nyn");
        vote(x, 29, "ynn");
        vote(x, 29, "nny");
        moved(x, 2, 0, 30, 1);
        // From 30 and from 40 on it is one that falls now, and 30 is the lesser.
        vote(x, 39, "ynn");
        vote(x, 39, "nny");
        moved(x, 1, 0, 30, 1);
        // From 30 on it is none.
        vote(x, 39, "ynn");
        vote(x, 39, "nny");
        moved(x, 1, 0, 40, 1);
    }

    private static void moveToTheFirstPlace() {
        Due.by("BEST MOVE: the place (0 .. MEMBERS less 1), the least");
        moved(chained(4, "nnyn", "ynyn", "yyyn"), 2, 2, 0, 0);
        moved(chained(7, "nnnnnny", "ynnnnny", "yynnnny", "yyynnny", "yyyynny", "yyyyyny"), 5, 6, 0, 0);
    }

    private static void moveToTheLastPlace() {
        Due.by("BEST MOVE: the place (0 .. MEMBERS less 1), the greatest, as it is then");
        moved(chained(4, "ynny", "ynnn"), 1, 0, 0, 3);
        moved(chained(7, "ynnnnny", "ynnnnnn"), 1, 0, 0, 6);
        moved(chained(4, "ynny", "ynny", "ynnn"), 2, 0, 0, 3);
        // Behind the two who stood behind him: that is place 2, as he is not ahead of them then.
        moved(chained(4, "nyyn"), 1, 0, 0, 2);
        moved(chained(5, "ynyyn", "ynnnn", "ynyyy"), 2, 1, 0, 4);
    }

    private static void leastMemberOfMoves() {
        Due.by("BEST MOVE: of several the least MEMBER, then YEAR");
        GalleryRows x = chained(6);
        vote(x, 60, "nynaaa");
        vote(x, 59, "ynnaaa");
        vote(x, 59, "yynaaa");
        Due.is("best(0)", x.best(0), 1);
        moved(x, 1, 0, 60, 1);
        vote(x, 5, "aaanyn");
        moved(x, 1, 0, 60, 1);
    }

    private static void leastYearOfMoves() {
        Due.by("BEST MOVE: of several then the YEAR, then the place");
        GalleryRows x = chained(6);
        vote(x, 60, "nynaaa");
        vote(x, 59, "ynnaaa");
        moved(x, 1, 0, 0, 2);
    }

    private static void leastPlaceOfMoves() {
        Due.by("BEST MOVE: of several then the place");
        GalleryRows x = chained(6);
        vote(x, 60, "nynaaa");
        moved(x, 1, 0, 0, 1);
        GalleryRows last = chained(6);
        vote(last, 60, "aaanyn");
        moved(last, 1, 3, 0, 4);
    }

    private static void mostFallsAheadOfMember() {
        Due.by("BEST MOVE: by which WRONG falls most");
        GalleryRows x = chained(6);
        vote(x, 60, "nynaaa");
        vote(x, 5, "aaanyn");
        moved(x, 1, 0, 0, 1);
        vote(x, 7, "aaanyn");
        moved(x, 2, 3, 0, 4);
        vote(x, 99, "nynaaa");
        moved(x, 2, 0, 0, 1);
    }

    private static void moveOfTwoAndThreeWrong() {
        Due.by("BEST MOVE of VOTES with two and three WRONG");
        moved(chained(6, "ynynyn"), 1, 1, 0, 2);
        moved(chained(6, "nynyny"), 1, 1, 0, 2);
        moved(chained(7, "ynynyny"), 1, 0, 0, 1);
        moved(chained(7, "ynynyny", "ynynyny", "nynynyn"), 3, 0, 0, 1);
        moved(chained(7, "ynynyny", "yynynyn"), 2, 2, 0, 3);
        moved(chained(7, "nynynny", "yynyyyn"), 1, 1, 0, 5);
        // At a place nearer by, what falls of the one would rise of the other: from one to two, from two to three.
        moved(chained(7, "ynnnnny", "ynynnnn"), 1, 0, 0, 6);
        moved(chained(7, "nnyynyn", "nynyyyy"), 1, 1, 0, 3);
    }

    private static void moveOfMost() {
        Due.by("BEST MOVE of seven MEMBERS and 24 VOTES");
        GalleryRows x = chained(7);
        for (int v = 0; v < 24; v++) {
            vote(x, 99, "nnnyaaa");
        }
        moved(x, -9, -9, -9, -9);
        for (int v = 0; v < 24; v++) {
            x.takeOut();
        }
        for (int v = 0; v < 24; v++) {
            vote(x, 99, "yyynnny");
        }
        // The last one goes to those who vote as he does: 0, 1, 2, and 3 are as good, and 0 is the least.
        moved(x, 24, 6, 0, 0);
    }

    // Parties

    private static GalleryRows parties(String signs) {
        GalleryRows x = Due.house(signs.length());
        for (int m = 0; m < signs.length(); m++) {
            x.party(m, signs.charAt(m) - '0');
        }
        return x;
    }

    private static void partiesOf(String signs, int two, int others, int... stretches) {
        GalleryRows x = parties(signs);
        for (int p = 0; p < 4; p++) {
            Due.is("stretches(" + p + ") of " + signs, x.stretches(p), stretches[p]);
        }
        Due.is("parties(0) of " + signs, x.parties(0), two);
        Due.is("parties(1) of " + signs, x.parties(1), others);
    }

    private static void stretchesOfEachParty() {
        Due.by("STRETCHES of a PARTY (0 .. 3): runs of its MEMBERS beside each other");
        partiesOf("", -9, 0, 0, 0, 0, 0);
        partiesOf("0", -9, 0, 1, 0, 0, 0);
        partiesOf("3", -9, 0, 0, 0, 0, 1);
        partiesOf("0000000", -9, 0, 1, 0, 0, 0);
        partiesOf("0123", -9, 0, 1, 1, 1, 1);
        partiesOf("0011223", -9, 0, 1, 1, 1, 1);
        partiesOf("3210123", 1, 8, 1, 2, 2, 2);
        Due.is("stretches(-1)", parties("01").stretches(-1), -1);
        Due.is("stretches(4)", parties("01").stretches(4), -1);
    }

    private static void stretchesOfFirst() {
        Due.by("STRETCHES in FIRST");
        GalleryRows x = parties("3030");
        Due.is("stretches(3)", x.stretches(3), 2);
        Due.is("parties(1)", x.parties(1), 6);
        vote(x, 50, "ynyn");
        Due.row(x, 0, 0, 2, 1, 3);
        Due.is("stretches(3)", x.stretches(3), 1);
        Due.is("parties(0)", x.parties(0), -9);
        Due.is("parties(1)", x.parties(1), 0);
        x.hold(0, 3);
        Due.row(x, 0, 1, 3, 0, 2);
        Due.is("stretches(3)", x.stretches(3), 1);
        x.free();
        x.hold(0, 1);
        Due.row(x, 0, 2, 0, 1, 3);
        x.party(2, 0);
        Due.is("stretches(3)", x.stretches(3), 1);
        Due.is("parties(0)", x.parties(0), 0);
        Due.is("parties(1)", x.parties(1), 1);
    }

    private static void twoIsTwoOrMore() {
        Due.by("TWO: the first PARTY with most STRETCHES, of those with 2 or more");
        partiesOf("01", -9, 0, 1, 1, 0, 0);
        partiesOf("112", -9, 0, 0, 1, 1, 0);
        partiesOf("010", 0, 2, 2, 1, 0, 0);
        partiesOf("323", 3, 2, 0, 0, 1, 2);
        partiesOf("1221", 1, 0, 0, 2, 1, 0);
        partiesOf("3210003", 3, 0, 1, 1, 1, 2);
    }

    private static void theFirstPartyOfTwo() {
        Due.by("TWO: the first of those with most");
        partiesOf("0101", 0, 6, 2, 2, 0, 0);
        partiesOf("1010", 0, 6, 2, 2, 0, 0);
        partiesOf("3232", 2, 6, 0, 0, 2, 2);
        partiesOf("32323", 3, 14, 0, 0, 2, 3);
        partiesOf("0132310", 0, 8, 2, 2, 1, 2);
        partiesOf("0101313", 1, 54, 2, 3, 0, 2);
        partiesOf("3131313", 3, 62, 0, 3, 0, 4);
        partiesOf("1231231", 1, 0, 0, 3, 2, 2);
    }

    private static void inAnothers() {
        Due.by("IN ANOTHER'S: just ahead and just behind MEMBERS of one and the same other PARTY");
        partiesOf("000", -9, 0, 1, 0, 0, 0);
        partiesOf("012", -9, 0, 1, 1, 1, 0);
        partiesOf("001", -9, 0, 1, 1, 0, 0);
        partiesOf("0110", 0, 0, 2, 1, 0, 0);
        partiesOf("1101011", 1, 4 + 8 + 16, 2, 3, 0, 0);
        partiesOf("0030000", 0, 4, 2, 0, 0, 1);
        partiesOf("3000303", 3, 16 + 32, 2, 0, 0, 3);
    }

    private static void inAnothersAtTheEnds() {
        Due.by("IN ANOTHER'S: none at an END of the ROW");
        partiesOf("10", -9, 0, 1, 1, 0, 0);
        partiesOf("1000000", -9, 0, 1, 1, 0, 0);
        partiesOf("0000001", -9, 0, 1, 1, 0, 0);
        partiesOf("0100000", 0, 2, 2, 1, 0, 0);
        partiesOf("0000010", 0, 32, 2, 1, 0, 0);
    }

    // Those who were away

    private static void said(String words, String due) {
        GalleryRows x = chained(words.length(), words);
        for (int m = 0; m < words.length(); m++) {
            int answer = due.charAt(m) == '-' ? -3 : due.charAt(m) - '0';
            Due.is("say(0, " + m + ") of " + words, x.say(0, m), answer);
            Due.is("sure(0, " + m + ") of " + words, x.sure(0, m), answer == -3 ? -3 : 1);
        }
    }

    private static void sayOfEachSide() {
        Due.by("SAY: yes if he stands on that side, else no");
        said("yaan", "-00-");
        said("naay", "-11-");
        said("aayana", "11-0-0");
        said("aanaya", "00-1-1");
        said("yyaannn", "--00---");
        said("nnaayyy", "--11---");
        said("yayanan", "-1-0-0-");
    }

    private static void sayOfPlaceZero() {
        Due.by("SAY of a cut of place 0: all stand right of it");
        said("a", "0");
        said("aaaaaaa", "0000000");
        said("aya", "1-1");
        said("ana", "0-0");
        said("yaaaaay", "-11111-");
        said("naaaaan", "-00000-");
        said("ynayaa", "--1-11");
    }

    private static void sayByFirst() {
        Due.by("SAY by FIRST");
        GalleryRows x = votes(3, "yan");
        Due.is("best(1)", x.best(1), 3);
        Due.is("say(0, 1)", x.say(0, 1), 0);
        x.hold(1, -1);
        x.hold(2, -1);
        Due.row(x, 0, 1, 0, 2);
        Due.is("say(0, 1)", x.say(0, 1), 1);
        x.free();
        x.hold(0, -1);
        x.hold(1, -1);
        Due.row(x, 0, 0, 2, 1);
        Due.is("say(0, 1)", x.say(0, 1), 0);
    }

    private static void sayOfTheLastVote() {
        Due.by("SAY in the last of 24 VOTES, of the last of seven MEMBERS");
        GalleryRows x = chained(7);
        for (int v = 0; v < 24; v++) {
            vote(x, v, v == 23 ? "nnyyyya" : "yynnnna");
        }
        Due.is("say(22, 6)", x.say(22, 6), 0);
        Due.is("say(23, 6)", x.say(23, 6), 1);
        Due.is("say(24, 6)", x.say(24, 6), -1);
        Due.is("say(23, 7)", x.say(23, 7), -1);
        Due.is("sure(23, 6)", x.sure(23, 6), 1);
        Due.is("sure(24, 6)", x.sure(24, 6), -1);
        Due.is("sure(23, 7)", x.sure(23, 7), -1);
    }

    private static void sureOfOneRow() {
        Due.by("SURE, one BEST ROW");
        GalleryRows x = votes(1, "a");
        Due.is("sure(0, 0)", x.sure(0, 0), 1);
        Due.is("say(0, 0)", x.say(0, 0), 0);
        Due.is("sure(0, 1)", votes(2, "ya").sure(0, 1), 1);
        Due.is("say(0, 1)", votes(2, "ya").say(0, 1), 1);
    }

    private static void sureOfTheLastRow() {
        Due.by("SURE, if it is so in all BEST ROWS: the last of them");
        GalleryRows x = votes(3, "yan");
        Due.row(x, 2, 1, 0, 2);
        Due.is("say(0, 1)", x.say(0, 1), 0);
        Due.is("sure(0, 1)", x.sure(0, 1), 0);
        x.hold(0, -1);
        Due.is("best(1)", x.best(1), 2);
        Due.is("sure(0, 1)", x.sure(0, 1), 1);
    }

    private static void sureOfTheFirstRow() {
        Due.by("SURE, if it is so in all BEST ROWS: the first and the second of them");
        // In 0 1 2 he would say yes, in 0 2 1 and in 1 0 2 no.
        GalleryRows first = votes(3, "ayn");
        Due.is("best(1)", first.best(1), 3);
        Due.is("say(0, 0)", first.say(0, 0), 1);
        Due.is("sure(0, 0)", first.sure(0, 0), 0);
        // Of five rows 0 2 1 3 is the only one in which he would say no.
        GalleryRows second = votes(4, "ayny", "yyan");
        Due.is("best(1)", second.best(1), 5);
        Due.row(second, 1, 0, 2, 1, 3);
        Due.is("say(0, 0)", second.say(0, 0), 1);
        Due.is("sure(0, 0)", second.sure(0, 0), 0);
    }

    private static void sureOfAllRows() {
        Due.by("SURE (by BEST CUTS there)");
        GalleryRows x = votes(4, "yyan", "yyyn");
        Due.is("best(0)", x.best(0), 0);
        Due.is("sure(0, 2)", x.sure(0, 2), 0);
        vote(x, 50, "yynn");
        Due.is("best(1)", x.best(1), 2);
        Due.is("say(0, 2)", x.say(0, 2), 0);
        Due.is("sure(0, 2)", x.sure(0, 2), 1);
        GalleryRows all = votes(7, "yaaaaaa", "naaaaaa");
        Due.is("best(1)", all.best(1), 2520);
        for (int m = 1; m < 7; m++) {
            Due.is("say(0, " + m + ")", all.say(0, m), 1);
            Due.is("sure(0, " + m + ")", all.sure(0, m), 1);
            Due.is("say(1, " + m + ")", all.say(1, m), 0);
            Due.is("sure(1, " + m + ")", all.sure(1, m), 1);
        }
    }
}
