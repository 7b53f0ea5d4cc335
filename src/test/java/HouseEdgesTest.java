/** The edges of members, votes, what is held, the image, and counts: promises 1, 4 to 11, and 32 to 34. */
public final class HouseEdgesTest {
    public static void main(String[] args) {
        newObject();
        newObjectAnswersAllQuestions();
        numbersOfMembers();
        yearsOfMembers();
        memberIsNewInAll();
        partiesOfAMember();
        numbersOfVotes();
        yearsOfVotes();
        bitsOfVotes();
        yearsOfThoseWhoVote();
        ofAVote();
        awayInVotesAheadOfThem();
        takenOut();
        takenOutToNone();
        takenOutIsGone();
        freedIsGone();
        restoredIsAsItWas();
        comeIsAsIfItWereFirst();
        heldNumbers();
        heldAtEnds();
        heldOfBothKinds();
        heldOnce();
        heldAloneAndByTwo();
        heldBesideTwo();
        freed();
        apart();
        apartOfNoVotes();
        imageOfNothing();
        imageHasAll();
        imageIsOfItsTime();
        imageHasNotItself();
        imageHasNotTheText();
        imageHasNotTheRowAtHand();
        imageHasNotTheRefusals();
        imageOfAFullHouse();
        counts();
        countOfOthers();
        countOfWords();
        Due.end("HouseEdgesTest");
    }

    private static void counted(GalleryRows x, int... due) {
        for (int what = 0; what < due.length; what++) {
            Due.is("count(" + what + ")", x.count(what), due[what]);
        }
    }

    private static void newObject() {
        Due.by("promise 1, no MEMBERS");
        GalleryRows x = new GalleryRows();
        counted(x, 0, 0, 0, 0, 0, 0);
        for (int what = 11; what <= 16; what++) {
            Due.is("count(" + what + ")", x.count(what), 0);
        }
        Due.is("party(0, 0)", x.party(0, 0), -1);
        Due.is("put(0)", x.put(0), -1);
        Due.is("of(0, 0)", x.of(0, 0), -1);
        Due.is("takeOut()", x.takeOut(), -3);
        Due.is("restore()", x.restore(), -3);
    }

    private static void newObjectAnswersAllQuestions() {
        Due.by("without MEMBERS, without VOTES");
        Due.still(GalleryRows::new, "judge()", GalleryRows::judge, 0);
        Due.still(GalleryRows::new, "best(0)", x -> x.best(0), 0);
        Due.still(GalleryRows::new, "best(1)", x -> x.best(1), 1);
        Due.still(GalleryRows::new, "row(0, 0)", x -> x.row(0, 0), -9);
        Due.still(GalleryRows::new, "open()", GalleryRows::open, 0);
        Due.still(GalleryRows::new, "knot()", GalleryRows::knot, -9);
        Due.still(GalleryRows::new, "chance(1, 5)", x -> x.chance(1, 5), 1);
        Due.still(GalleryRows::new, "chance(20, 5)", x -> x.chance(20, 5), 20);
        Due.still(GalleryRows::new, "sheet()", GalleryRows::sheet, 0);
        Due.still(GalleryRows::new, "turn()", GalleryRows::turn, 0);
        Due.still(GalleryRows::new, "odd(1)", x -> x.odd(1), 0);
        Due.still(GalleryRows::new, "odd(3)", x -> x.odd(3), 0);
        Due.still(GalleryRows::new, "second(1)", x -> x.second(1), 0);
        Due.still(GalleryRows::new, "second(3)", x -> x.second(3), 0);
        for (int what = 0; what <= 3; what++) {
            int which = what;
            Due.still(GalleryRows::new, "move(" + what + ")", x -> x.move(which), -9);
            Due.still(GalleryRows::new, "stretches(" + what + ")", x -> x.stretches(which), 0);
        }
        Due.still(GalleryRows::new, "parties(0)", x -> x.parties(0), -9);
        Due.still(GalleryRows::new, "parties(1)", x -> x.parties(1), 0);
        Due.still(GalleryRows::new, "free()", GalleryRows::free, 0);
        Due.still(GalleryRows::new, "read()", GalleryRows::read, 0);
    }

    private static void numbersOfMembers() {
        Due.by("MEMBERS 0 .. 6");
        GalleryRows x = new GalleryRows();
        for (int m = 0; m < 7; m++) {
            Due.is("party(" + m + ", 0)", x.party(m, 0), -1);
            Due.is("member(0, 99)", x.member(0, 99), m);
            Due.is("count(0)", x.count(0), m + 1);
            Due.is("party(" + m + ", 0)", x.party(m, 0), 0);
        }
        Due.is("member(0, 99)", x.member(0, 99), -6);
        Due.is("party(7, 0)", x.party(7, 0), -1);
        counted(x, 7);
    }

    private static void yearsOfMembers() {
        Due.by("each from a YEAR to a YEAR (0 .. 99)");
        GalleryRows x = new GalleryRows();
        Due.is("member(0, 0)", x.member(0, 0), 0);
        Due.is("member(99, 99)", x.member(99, 99), 1);
        Due.is("member(0, 99)", x.member(0, 99), 2);
        Due.is("member(50, 50)", x.member(50, 50), 3);
        Due.is("member(50, 51)", x.member(50, 51), 4);
        int[][] votersOf = {{0, 5}, {1, 4}, {49, 4}, {50, 28}, {51, 20}, {52, 4}, {98, 4}, {99, 6}};
        for (int[] due : votersOf) {
            for (int m = 0; m < 5; m++) {
                boolean isOne = (due[1] >> m & 1) == 1;
                Due.is("vote(" + due[0] + ", 1 << " + m + ", 0) takes it", x.vote(due[0], 1 << m, 0) < 0 ? 0 : 1, isOne ? 1 : 0);
                Due.is("vote(" + due[0] + ", 0, 1 << " + m + ") takes it", x.vote(due[0], 0, 1 << m) < 0 ? 0 : 1, isOne ? 1 : 0);
                x.takeOut();
                x.takeOut();
            }
        }
    }

    private static void memberIsNewInAll() {
        Due.by("of a PARTY 0 at first, at 0, 0 of the SHEET at first");
        GalleryRows x = new GalleryRows();
        x.image();
        for (int m = 0; m < 7; m++) {
            x.member(0, 99);
            x.party(m, 3);
            x.place(m, 4, 4);
        }
        x.restore();
        for (int m = 0; m < 7; m++) {
            Due.is("member(0, 99)", x.member(0, 99), m);
            Due.is("party(" + m + ", 1)", x.party(m, 1), 0);
            Due.is("place(" + m + ", 1, 1)", x.place(m, 1, 1), 0);
        }
    }

    private static void partiesOfAMember() {
        Due.by("promise 5, PARTY 0 .. 3, what it was");
        GalleryRows x = Due.house(7);
        for (int m = 0; m < 7; m++) {
            int was = 0;
            for (int p : new int[] {3, 2, 2, 1, 0, 3}) {
                Due.is("party(" + m + ", " + p + ")", x.party(m, p), was);
                was = p;
            }
        }
        Due.is("party(0, 4)", x.party(0, 4), -6);
        Due.is("party(0, -1)", x.party(0, -1), -4);
        Due.is("party(0, 3)", x.party(0, 3), 3);
    }

    private static void numbersOfVotes() {
        Due.by("VOTES have numbers from 0 on (24 at most)");
        GalleryRows x = Due.house(1);
        for (int v = 0; v < 24; v++) {
            Due.is("of(" + v + ", 0)", x.of(v, 0), -1);
            Due.is("vote(" + 4 * v + ", 0, 0)", x.vote(4 * v, 0, 0), v);
            Due.is("count(1)", x.count(1), v + 1);
            Due.is("of(" + v + ", 0)", x.of(v, 0), 4 * v);
        }
        Due.is("vote(5, 0, 0)", x.vote(5, 0, 0), -6);
        Due.is("of(24, 0)", x.of(24, 0), -1);
        Due.is("takeOut()", x.takeOut(), 23);
        Due.is("vote(5, 0, 0)", x.vote(5, 0, 0), 23);
        Due.is("of(23, 0)", x.of(23, 0), 5);
        Due.is("vote(5, 0, 0)", x.vote(5, 0, 0), -6);
    }

    private static void yearsOfVotes() {
        Due.by("promise 6, YEAR 0 .. 99");
        GalleryRows x = Due.house(1);
        Due.is("vote(-1, 1, 0)", x.vote(-1, 1, 0), -4);
        Due.is("vote(0, 1, 0)", x.vote(0, 1, 0), 0);
        Due.is("vote(99, 0, 1)", x.vote(99, 0, 1), 1);
        Due.is("vote(100, 1, 0)", x.vote(100, 1, 0), -6);
        Due.is("of(0, 0)", x.of(0, 0), 0);
        Due.is("of(1, 0)", x.of(1, 0), 99);
        Due.is("vote(0, 0, 0) without MEMBERS", new GalleryRows().vote(0, 0, 0), 0);
        Due.is("vote(99, 0, 0) without MEMBERS", new GalleryRows().vote(99, 0, 0), 0);
    }

    private static void bitsOfVotes() {
        Due.by("promise 6, bits of MEMBERS");
        for (int members = 0; members <= 7; members++) {
            int all = (1 << members) - 1;
            GalleryRows x = Due.house(members);
            Due.is("vote(5, all, 0)", x.vote(5, all, 0), 0);
            Due.is("vote(5, 0, all)", x.vote(5, 0, all), 1);
            Due.is("vote(5, all + 1, 0)", x.vote(5, all + 1, 0), -1);
            Due.is("vote(5, 0, all + 1)", x.vote(5, 0, all + 1), -1);
            Due.is("vote(5, 0, 0)", x.vote(5, 0, 0), 2);
            Due.is("of(0, 1)", x.of(0, 1), all);
            Due.is("of(0, 2)", x.of(0, 2), 0);
            Due.is("of(1, 1)", x.of(1, 1), 0);
            Due.is("of(1, 2)", x.of(1, 2), all);
        }
        GalleryRows two = Due.house(2);
        Due.is("vote(5, 1, 3)", two.vote(5, 1, 3), -3);
        Due.is("vote(5, 3, 2)", two.vote(5, 3, 2), -3);
        Due.is("vote(5, 1, 2)", two.vote(5, 1, 2), 0);
        Due.is("vote(5, 2, 1)", two.vote(5, 2, 1), 1);
    }

    private static void yearsOfThoseWhoVote() {
        Due.by("promise 6, one who is not of that YEAR is away");
        GalleryRows x = new GalleryRows();
        x.member(10, 20);
        x.member(0, 99);
        Due.is("vote(9, 3, 0)", x.vote(9, 3, 0), -3);
        Due.is("vote(9, 2, 1)", x.vote(9, 2, 1), -3);
        Due.is("vote(9, 2, 0)", x.vote(9, 2, 0), 0);
        Due.is("vote(10, 3, 0)", x.vote(10, 3, 0), 1);
        Due.is("vote(20, 2, 1)", x.vote(20, 2, 1), 2);
        Due.is("vote(21, 2, 1)", x.vote(21, 2, 1), -3);
        Due.is("vote(21, 0, 2)", x.vote(21, 0, 2), 3);
    }

    private static void ofAVote() {
        Due.by("promise 7, 0 YEAR, 1 yes, 2 no");
        GalleryRows x = Due.house(7);
        x.vote(33, 81, 46);
        x.vote(0, 0, 127);
        int[][] due = {{33, 81, 46}, {0, 0, 127}};
        for (int v = 0; v < 2; v++) {
            Due.is("of(" + v + ", -1)", x.of(v, -1), -2);
            for (int what = 0; what < 3; what++) {
                Due.is("of(" + v + ", " + what + ")", x.of(v, what), due[v][what]);
            }
            Due.is("of(" + v + ", 3)", x.of(v, 3), -2);
        }
        Due.is("of(2, 0)", x.of(2, 0), -1);
    }

    private static void awayInVotesAheadOfThem() {
        Due.by("VOTES ahead of a MEMBER have it away");
        GalleryRows x = Due.house(2);
        x.vote(5, 1, 2);
        x.member(0, 99);
        Due.is("of(0, 1)", x.of(0, 1), 1);
        Due.is("of(0, 2)", x.of(0, 2), 2);
        Due.is("apart(0, 2)", x.apart(0, 2), 0);
        Due.is("say(0, 2)", x.say(0, 2), 0);
        Due.is("count(5)", x.count(5), 2);
    }

    private static void takenOut() {
        Due.by("promise 8, the latest VOTE, how many are left");
        GalleryRows x = Due.house(4);
        for (int v = 0; v < 24; v++) {
            x.vote(v, 1 << v % 4, 0);
        }
        for (int left = 23; left >= 0; left--) {
            Due.is("takeOut()", x.takeOut(), left);
            Due.is("of(" + left + ", 0)", x.of(left, 0), -1);
            if (left > 0) {
                Due.is("of(" + (left - 1) + ", 0)", x.of(left - 1, 0), left - 1);
            }
        }
        Due.is("takeOut()", x.takeOut(), -3);
        Due.is("count(5)", x.count(5), 0);
    }

    private static void takenOutToNone() {
        Due.by("promise 8, answers are as the VOTES are then");
        GalleryRows x = Due.house(4);
        x.vote(5, 3, 12);
        x.vote(5, 5, 10);
        Due.put(x, 0, 1, 2, 3);
        Due.is("best(0)", x.best(0), 1);
        Due.is("sheet()", x.sheet(), 4);
        Due.is("knot()", x.knot(), 3);
        Due.is("odd(1)", x.odd(1), 2);
        Due.is("takeOut()", x.takeOut(), 1);
        Due.is("best(0)", x.best(0), 0);
        Due.is("sheet()", x.sheet(), 2);
        Due.is("knot()", x.knot(), -9);
        Due.is("odd(1)", x.odd(1), 0);
        Due.is("cut(0)", x.cut(0), 4);
        Due.is("cut(1)", x.cut(1), -1);
        Due.is("takeOut()", x.takeOut(), 0);
        Due.is("cut(0)", x.cut(0), -1);
        Due.is("judge()", x.judge(), 0);
        Due.is("sheet()", x.sheet(), 0);
        Due.is("best(1)", x.best(1), 12);
    }

    private static GalleryRows heldInOrder() {
        GalleryRows x = Due.house(5);
        for (int m = 1; m < 5; m++) {
            x.hold(m - 1, m);
        }
        x.vote(40, 1, 30);
        return x;
    }

    private static void takenOutIsGone() {
        Due.by("promise 8, what was asked with a VOTE does not last behind it");
        for (int year : new int[] {0, 50, 99}) {
            GalleryRows x = heldInOrder();
            x.vote(year, 2, 29);
            x.vote(year, 21, 10);
            Due.is("move(0)", x.move(0) < 1 ? 0 : 1, 1);
            Due.askAll(x);
            x.takeOut();
            Due.askAll(x);
            x.takeOut();
            Due.is("move(0)", x.move(0), -9);
            Due.alike("takeOut()", x, heldInOrder());
        }
    }

    private static void freedIsGone() {
        Due.by("promise 10, what was asked of what is HELD does not last behind it");
        GalleryRows x = heldInOrder();
        Due.askAll(x);
        x.free();
        GalleryRows never = Due.house(5);
        never.vote(40, 1, 30);
        Due.alike("free()", x, never);
    }

    private static void restoredIsAsItWas() {
        Due.by("promise 33, what was asked behind the IMAGE does not last");
        GalleryRows x = heldInOrder();
        x.image();
        x.member(0, 99);
        x.member(0, 99);
        x.vote(50, 42, 85);
        x.vote(60, 2, 29);
        x.hold(5, 6);
        x.party(2, 1);
        x.place(3, 1, 4);
        Due.askAll(x);
        x.put(6);
        x.restore();
        Due.alike("restore()", x, heldInOrder());
    }

    private static void comeIsAsIfItWereFirst() {
        Due.by("what comes behind a question counts as what came ahead of it");
        GalleryRows x = new GalleryRows();
        GalleryRows same = new GalleryRows();
        for (int m = 0; m < 5; m++) {
            Due.askAll(x);
            x.member(0, 99);
            same.member(0, 99);
        }
        for (int m = 1; m < 5; m++) {
            x.hold(m - 1, m);
            same.hold(m - 1, m);
            Due.askAll(x);
        }
        Due.readText(x, "v40:ynnnn;");
        same.vote(40, 1, 30);
        Due.alike("questions", x, same);
    }

    private static void heldNumbers() {
        Due.by("promise 9, how many are HELD, 10 at most");
        GalleryRows x = Due.house(7);
        int held = 0;
        for (int a = 0; a < 3; a++) {
            for (int b = a + 1; b < 7 && held < 10; b++) {
                held++;
                Due.is("hold(" + b + ", " + a + ")", x.hold(b, a), held);
                Due.is("count(2)", x.count(2), held);
            }
        }
        Due.is("hold(5, 6)", x.hold(5, 6), -6);
        Due.is("hold(0, -1)", x.hold(0, -1), -6);
        counted(x, 7, 0, 10);
    }

    private static void heldAtEnds() {
        Due.by("promise 9, (b -1) at an END");
        GalleryRows x = Due.house(7);
        for (int m = 0; m < 7; m++) {
            Due.is("hold(" + m + ", -1)", x.hold(m, -1), m + 1);
        }
        Due.is("hold(0, 1)", x.hold(0, 1), 8);
        Due.is("hold(2, 1)", x.hold(2, 1), 9);
        Due.is("hold(2, 3)", x.hold(2, 3), 10);
        Due.is("hold(4, 3)", x.hold(4, 3), -6);
        Due.is("hold(6, -1)", x.hold(6, -1), -3);
        Due.is("hold(3, 2)", x.hold(3, 2), -3);
    }

    private static void heldOfBothKinds() {
        Due.by("HELD, 10 at most together");
        GalleryRows x = Due.tenHeld();
        counted(x, 7, 0, 10);
        Due.is("hold(3, -1)", x.hold(3, -1), -6);
        Due.is("hold(0, 3)", x.hold(0, 3), -6);
        Due.is("free()", x.free(), 10);
        Due.is("hold(3, -1)", x.hold(3, -1), 1);
    }

    private static void heldOnce() {
        Due.by("promise 9, -3 it is so HELD");
        GalleryRows x = Due.house(3);
        Due.is("hold(2, 0)", x.hold(2, 0), 1);
        Due.is("hold(0, 2)", x.hold(0, 2), -3);
        Due.is("hold(2, 0)", x.hold(2, 0), -3);
        Due.is("hold(0, -1)", x.hold(0, -1), 2);
        Due.is("hold(2, -1)", x.hold(2, -1), 3);
        Due.is("hold(0, -1)", x.hold(0, -1), -3);
        Due.is("hold(0, 1)", x.hold(0, 1), 4);
        Due.is("hold(1, 2)", x.hold(1, 2), 5);
        counted(x, 3, 0, 5);
    }

    private static void heldAloneAndByTwo() {
        Due.by("an END first or last, NEIGHBOURS beside each other");
        GalleryRows one = Due.house(1);
        one.hold(0, -1);
        Due.is("best(1)", one.best(1), 1);
        GalleryRows two = Due.house(2);
        two.hold(0, -1);
        two.hold(1, -1);
        two.hold(0, 1);
        Due.is("best(1)", two.best(1), 1);
        Due.row(two, 0, 0, 1);
        GalleryRows three = Due.house(3);
        three.hold(1, -1);
        Due.is("best(1)", three.best(1), 2);
        Due.row(three, 0, 0, 2, 1);
        Due.row(three, 1, 1, 0, 2);
        three.hold(2, -1);
        Due.is("best(1)", three.best(1), 1);
        Due.row(three, 0, 1, 0, 2);
        three.hold(0, -1);
        Due.is("best(1)", three.best(1), -9);
    }

    private static void heldBesideTwo() {
        Due.by("NEIGHBOURS, two at most beside one");
        GalleryRows x = Due.house(4);
        x.hold(3, 0);
        x.hold(3, 2);
        Due.is("best(1)", x.best(1), 2);
        Due.row(x, 0, 0, 3, 2, 1);
        Due.row(x, 1, 1, 0, 3, 2);
        x.hold(3, -1);
        Due.is("best(1)", x.best(1), -9);
        x.free();
        x.hold(3, 0);
        x.hold(3, 1);
        x.hold(3, 2);
        Due.is("best(1)", x.best(1), -9);
        x.free();
        x.hold(0, 1);
        x.hold(1, 2);
        x.hold(2, 3);
        Due.is("best(1)", x.best(1), 1);
        x.hold(3, 0);
        Due.is("best(1)", x.best(1), -9);
    }

    private static void freed() {
        Due.by("promise 10, how many were");
        Due.still(Due::sevenMembers, "free()", GalleryRows::free, 0);
        GalleryRows x = Due.withoutBest();
        Due.is("best(0)", x.best(0), -9);
        Due.is("free()", x.free(), 3);
        Due.is("free()", x.free(), 0);
        Due.is("count(2)", x.count(2), 0);
        // In 0, 2, 1, 3 both votes have none wrong.
        Due.is("best(0)", x.best(0), 0);
        Due.is("hold(0, 1)", x.hold(0, 1), 1);
        Due.is("free() of ten", Due.tenHeld().free(), 10);
    }

    private static void apart() {
        Due.by("APART of two: VOTES in which both voted, unlike");
        GalleryRows x = Due.house(2);
        int[][] words = {{1, 2}, {2, 1}, {3, 0}, {0, 3}, {1, 0}, {0, 1}, {2, 0}, {0, 2}, {0, 0}};
        int[] due = {1, 2, 2, 2, 2, 2, 2, 2, 2};
        for (int v = 0; v < words.length; v++) {
            x.vote(v, words[v][0], words[v][1]);
            Due.is("apart(0, 1) by vote " + v, x.apart(0, 1), due[v]);
            Due.is("apart(1, 0) by vote " + v, x.apart(1, 0), due[v]);
            Due.is("apart(1, 1) by vote " + v, x.apart(1, 1), 0);
        }
        GalleryRows full = Due.house(7);
        for (int v = 0; v < 24; v++) {
            full.vote(v, 64, 63);
        }
        Due.is("apart(6, 0)", full.apart(6, 0), 24);
        Due.is("apart(5, 0)", full.apart(5, 0), 0);
    }

    private static void apartOfNoVotes() {
        Due.by("APART without VOTES");
        GalleryRows x = Due.house(7);
        Due.is("apart(0, 6)", x.apart(0, 6), 0);
        Due.is("apart(6, 6)", x.apart(6, 6), 0);
        Due.is("apart(6, 7)", x.apart(6, 7), -1);
    }

    private static void imageOfNothing() {
        Due.by("THE IMAGE of a new object");
        GalleryRows x = new GalleryRows();
        Due.is("image()", x.image(), 0);
        x.member(0, 99);
        x.vote(5, 1, 0);
        x.hold(0, -1);
        x.put(0);
        Due.is("restore()", x.restore(), 0);
        counted(x, 0, 0, 0, 0, 0, 0);
        Due.is("best(1)", x.best(1), 1);
        Due.is("member(0, 99)", x.member(0, 99), 0);
    }

    private static void imageHasAll() {
        Due.by("THE IMAGE: all that there is");
        GalleryRows x = new GalleryRows();
        x.member(10, 20);
        x.member(0, 99);
        x.member(15, 60);
        x.party(1, 2);
        x.place(2, 3, 4);
        x.vote(15, 3, 4);
        x.hold(0, 2);
        x.hold(1, -1);
        Due.is("image()", x.image(), 1);
        x.vote(16, 7, 0);
        Due.is("image() is of one VOTE still", x.restore(), 1);
        x.takeOut();
        x.vote(50, 4, 2);
        x.vote(51, 2, 4);
        x.free();
        x.hold(1, 2);
        x.hold(0, 1);
        x.party(1, 1);
        x.party(0, 3);
        x.place(2, 0, 0);
        x.place(0, 1, 1);
        x.member(0, 0);
        Due.is("restore()", x.restore(), 1);
        counted(x, 3, 1, 2, 0, 0, 3);
        Due.is("of(0, 0)", x.of(0, 0), 15);
        Due.is("of(0, 1)", x.of(0, 1), 3);
        Due.is("of(0, 2)", x.of(0, 2), 4);
        Due.is("hold(2, 0)", x.hold(2, 0), -3);
        Due.is("hold(1, -1)", x.hold(1, -1), -3);
        Due.is("hold(0, 1)", x.hold(0, 1), 3);
        Due.is("party(0, 0)", x.party(0, 0), 0);
        Due.is("party(1, 0)", x.party(1, 0), 2);
        Due.is("place(0, 0, 0)", x.place(0, 0, 0), 0);
        Due.is("place(2, 0, 0)", x.place(2, 0, 0), 19);
        Due.is("vote(10, 1, 0)", x.vote(10, 1, 0), 1);
        Due.is("vote(9, 1, 0)", x.vote(9, 1, 0), -3);
        Due.is("vote(60, 4, 0)", x.vote(60, 4, 0), 2);
        Due.is("vote(61, 4, 0)", x.vote(61, 4, 0), -3);
    }

    private static void imageIsOfItsTime() {
        Due.by("promise 32, how many VOTES; the latest IMAGE counts");
        GalleryRows x = Due.house(2);
        for (int v = 0; v < 24; v++) {
            Due.is("image()", x.image(), v);
            x.vote(v, 1, 2);
        }
        Due.is("restore()", x.restore(), 23);
        Due.is("vote(98, 1, 2)", x.vote(98, 1, 2), 23);
        Due.is("image()", x.image(), 24);
        x.takeOut();
        x.takeOut();
        Due.is("restore()", x.restore(), 24);
        Due.is("of(23, 0)", x.of(23, 0), 98);
    }

    private static void imageHasNotItself() {
        Due.by("THE IMAGE: but it");
        GalleryRows x = Due.house(2);
        x.vote(7, 1, 2);
        x.image();
        for (int i = 0; i < 3; i++) {
            x.vote(8, 2, 1);
            x.member(0, 99);
            Due.is("restore()", x.restore(), 1);
            counted(x, 2, 1, 0);
        }
    }

    private static void imageHasNotTheText() {
        Due.by("THE IMAGE: but the TEXT");
        GalleryRows x = Due.house(2);
        Due.feedText(x, "e0");
        x.image();
        Due.feedText(x, ";e1");
        Due.is("restore()", x.restore(), 0);
        Due.is("count(4)", x.count(4), 5);
        x.feed(1, ';');
        Due.is("read()", x.read(), 2);
        Due.is("restore()", x.restore(), 0);
        Due.is("count(4)", x.count(4), 0);
        counted(x, 2, 0, 0);
    }

    private static void imageHasNotTheRowAtHand() {
        Due.by("THE IMAGE: but the ROW at hand, which has none as it is RESTORED");
        GalleryRows x = Due.house(3);
        Due.put(x, 0, 1);
        x.image();
        Due.is("count(3) behind image()", x.count(3), 2);
        x.put(2);
        Due.is("restore()", x.restore(), 0);
        Due.is("count(3)", x.count(3), 0);
        Due.is("judge()", x.judge(), -3);
        Due.is("put(1)", x.put(1), 1);
        Due.is("put(0)", x.put(0), 2);
        Due.is("restore()", x.restore(), 0);
        Due.is("count(3)", x.count(3), 0);
        Due.by("THE IMAGE: a refused restore leaves the ROW at hand");
        GalleryRows none = Due.house(2);
        none.put(1);
        Due.is("restore()", none.restore(), -3);
        Due.is("count(3)", none.count(3), 1);
    }

    private static void imageHasNotTheRefusals() {
        Due.by("THE IMAGE: but REFUSALS");
        GalleryRows x = Due.house(2);
        x.put(2);
        x.image();
        x.put(2);
        x.best(2);
        x.takeOut();
        x.odd(0);
        x.odd(4);
        x.restore();
        int[] due = {2, 1, 1, 1, 0, 1};
        for (int i = 0; i < 6; i++) {
            Due.is("count(" + (11 + i) + ")", x.count(11 + i), due[i]);
        }
    }

    private static void imageOfAFullHouse() {
        Due.by("THE IMAGE of seven MEMBERS, 24 VOTES, ten HELD");
        GalleryRows x = Due.tenHeld();
        for (int v = 0; v < 24; v++) {
            x.vote(v, v, 127 - v);
        }
        for (int m = 0; m < 7; m++) {
            x.party(m, m % 4);
            x.place(m, m % 5, 4 - m % 5);
        }
        Due.is("image()", x.image(), 24);
        for (int v = 0; v < 24; v++) {
            x.takeOut();
        }
        x.free();
        for (int m = 0; m < 7; m++) {
            x.party(m, 0);
            x.place(m, 0, 0);
        }
        Due.is("restore()", x.restore(), 24);
        counted(x, 7, 24, 10, 0, 0, 168);
        for (int v = 0; v < 24; v++) {
            Due.is("of(" + v + ", 0)", x.of(v, 0), v);
            Due.is("of(" + v + ", 1)", x.of(v, 1), v);
            Due.is("of(" + v + ", 2)", x.of(v, 2), 127 - v);
        }
        for (int m = 0; m < 7; m++) {
            Due.is("party(" + m + ", 0)", x.party(m, 0), m % 4);
            Due.is("place(" + m + ", 0, 0)", x.place(m, 0, 0), 5 * (m % 5) + 4 - m % 5);
            Due.is("hold(" + m + ", next)", x.hold(m, (m + 1) % 7), -3);
        }
        Due.is("hold(2, -1)", x.hold(2, -1), -3);
        Due.is("hold(3, -1)", x.hold(3, -1), -6);
        Due.is("vote(5, 0, 0)", x.vote(5, 0, 0), -6);
        Due.is("member(0, 99)", x.member(0, 99), -6);
    }

    private static void counts() {
        Due.by("promise 34, 0 .. 5");
        GalleryRows x = Due.begun();
        counted(x, 4, 3, 2, 2, 6, 10);
        GalleryRows full = Due.fullOfVotes();
        counted(full, 2, 24, 0, 0, 0, 16);
    }

    private static void countOfOthers() {
        Due.by("promise 34, -9 for another what");
        int[] others = {Integer.MIN_VALUE, -16, -11, -6, -1, 6, 7, 8, 9, 10, 17, 18, 100, Integer.MAX_VALUE};
        for (int what : others) {
            Due.still(Due::begun, "count(" + what + ")", x -> x.count(what), -9);
        }
        for (int what = 11; what <= 16; what++) {
            int which = what;
            Due.still(Due::begun, "count(" + what + ")", x -> x.count(which), 0);
        }
    }

    private static void countOfWords() {
        Due.by("promise 34, words that are yes or no in all");
        GalleryRows x = Due.house(7);
        Due.is("count(5)", x.count(5), 0);
        x.vote(5, 0, 0);
        Due.is("count(5)", x.count(5), 0);
        x.vote(5, 127, 0);
        Due.is("count(5)", x.count(5), 7);
        x.vote(5, 1, 64);
        Due.is("count(5)", x.count(5), 9);
        x.takeOut();
        Due.is("count(5)", x.count(5), 7);
        for (int v = 2; v < 24; v++) {
            x.vote(5, 85, 42);
        }
        Due.is("count(5)", x.count(5), 161);
    }
}
