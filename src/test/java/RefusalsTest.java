import java.util.function.Supplier;
import java.util.function.ToIntFunction;

/**
 * Each refusal of each promise: the first input that is not taken, the number that comes first of
 * several that fit, and that nothing changes but how many of that refusal there were.
 */
public final class RefusalsTest {
    private static final int LEAST = Integer.MIN_VALUE;
    private static final int GREATEST = Integer.MAX_VALUE;

    public static void main(String[] args) {
        feed();
        member();
        memberOfSeveral();
        party();
        vote();
        voteOfSeveral();
        of();
        takeOut();
        hold();
        holdOfSeveral();
        apart();
        put();
        judge();
        cut();
        wrong();
        best();
        chance();
        place();
        line();
        odd();
        second();
        move();
        stretches();
        parties();
        say();
        sure();
        restore();
        withoutBestRow();
        refusalAheadOfNone();
        questionsChangeNothing();
        noneIsNoRefusal();
        eachNumberIsCountedApart();
        lastOf512Calls();
        Due.end("RefusalsTest");
    }

    private static void refused(String call, ToIntFunction<GalleryRows> run, int want) {
        Due.refused(Due::begun, call, run, want);
    }

    private static void refusedBy(Supplier<GalleryRows> begin, String call, ToIntFunction<GalleryRows> run, int want) {
        Due.refused(begin, call, run, want);
    }

    private static void feed() {
        Due.by("promise 2, -4");
        refused("feed(0, 0)", x -> x.feed(0, 0), -4);
        refused("feed(-1, 0)", x -> x.feed(-1, 0), -4);
        refused("feed(least, 0)", x -> x.feed(LEAST, 0), -4);
        refusedBy(Due::ninetyBytes, "feed(0, 0)", x -> x.feed(0, 0), -4);
        Due.by("promise 2, -6");
        refused("feed(9, 0)", x -> x.feed(9, 0), -6);
        refused("feed(greatest, 0)", x -> x.feed(GREATEST, 0), -6);
        refusedBy(GalleryRows::new, "feed(9, 0)", x -> x.feed(9, 0), -6);
        Due.by("promise 2, -6 above 90");
        refusedBy(Due::ninetyBytes, "feed(1, 0)", x -> x.feed(1, 0), -6);
        refusedBy(Due::ninetyBytes, "feed(8, 0)", x -> x.feed(8, 0), -6);
        for (int n = 3; n <= 8; n++) {
            int bytes = n;
            refusedBy(RefusalsTest::eightyEightBytes, "feed(" + n + ", 0)", x -> x.feed(bytes, 0), -6);
        }
    }

    private static GalleryRows eightyEightBytes() {
        GalleryRows x = Due.house(2);
        Due.feedText(x, "v10:yn;p01;".repeat(8));
        return x;
    }

    private static void member() {
        Due.by("promise 4, -4");
        refused("member(-1, 0)", x -> x.member(-1, 0), -4);
        refused("member(0, -1)", x -> x.member(0, -1), -4);
        refused("member(least, 99)", x -> x.member(LEAST, 99), -4);
        refused("member(0, least)", x -> x.member(0, LEAST), -4);
        Due.by("promise 4, -6 YEARS");
        refused("member(100, 100)", x -> x.member(100, 100), -6);
        refused("member(0, 100)", x -> x.member(0, 100), -6);
        refused("member(99, 100)", x -> x.member(99, 100), -6);
        refused("member(greatest, greatest)", x -> x.member(GREATEST, GREATEST), -6);
        Due.by("promise 4, -6 of 7");
        refusedBy(Due::sevenMembers, "member(0, 99)", x -> x.member(0, 99), -6);
        Due.by("promise 4, -3");
        refused("member(1, 0)", x -> x.member(1, 0), -3);
        refused("member(99, 98)", x -> x.member(99, 98), -3);
        refused("member(99, 0)", x -> x.member(99, 0), -3);
    }

    private static void memberOfSeveral() {
        Due.by("promise 4, the first that fits");
        refused("member(-1, 100)", x -> x.member(-1, 100), -4);
        refused("member(100, -1)", x -> x.member(100, -1), -4);
        refused("member(5, -1)", x -> x.member(5, -1), -4);
        refused("member(100, 5)", x -> x.member(100, 5), -6);
        refusedBy(Due::sevenMembers, "member(-1, 0)", x -> x.member(-1, 0), -4);
        refusedBy(Due::sevenMembers, "member(0, -1)", x -> x.member(0, -1), -4);
        refusedBy(Due::sevenMembers, "member(5, 4)", x -> x.member(5, 4), -6);
    }

    private static void party() {
        Due.by("promise 5, -1");
        refused("party(4, 0)", x -> x.party(4, 0), -1);
        refused("party(-1, 0)", x -> x.party(-1, 0), -1);
        refused("party(greatest, 1)", x -> x.party(GREATEST, 1), -1);
        refused("party(least, 1)", x -> x.party(LEAST, 1), -1);
        refusedBy(Due::sevenMembers, "party(7, 0)", x -> x.party(7, 0), -1);
        refusedBy(GalleryRows::new, "party(0, 0)", x -> x.party(0, 0), -1);
        Due.by("promise 5, -4");
        refused("party(1, -1)", x -> x.party(1, -1), -4);
        refused("party(1, least)", x -> x.party(1, LEAST), -4);
        Due.by("promise 5, -6");
        refused("party(1, 4)", x -> x.party(1, 4), -6);
        refused("party(1, greatest)", x -> x.party(1, GREATEST), -6);
        Due.by("promise 5, the first that fits");
        refused("party(4, -1)", x -> x.party(4, -1), -1);
        refused("party(4, 4)", x -> x.party(4, 4), -1);
    }

    private static void vote() {
        Due.by("promise 6, -4 YEAR");
        refused("vote(-1, 0, 0)", x -> x.vote(-1, 0, 0), -4);
        refused("vote(least, 2, 8)", x -> x.vote(LEAST, 2, 8), -4);
        Due.by("promise 6, -4 bits");
        refused("vote(50, -1, 0)", x -> x.vote(50, -1, 0), -4);
        refused("vote(50, 0, -1)", x -> x.vote(50, 0, -1), -4);
        refused("vote(50, least, 0)", x -> x.vote(50, LEAST, 0), -4);
        refused("vote(50, 0, least)", x -> x.vote(50, 0, LEAST), -4);
        Due.by("promise 6, -6 YEAR");
        refused("vote(100, 0, 0)", x -> x.vote(100, 0, 0), -6);
        refused("vote(greatest, 0, 0)", x -> x.vote(GREATEST, 0, 0), -6);
        Due.by("promise 6, -6 of 24");
        refusedBy(Due::fullOfVotes, "vote(0, 1, 2)", x -> x.vote(0, 1, 2), -6);
        Due.by("promise 6, -1");
        refused("vote(50, 16, 0)", x -> x.vote(50, 16, 0), -1);
        refused("vote(50, 0, 16)", x -> x.vote(50, 0, 16), -1);
        refused("vote(50, greatest, 0)", x -> x.vote(50, GREATEST, 0), -1);
        refused("vote(50, 0, greatest)", x -> x.vote(50, 0, GREATEST), -1);
        refusedBy(Due::sevenMembers, "vote(50, 128, 0)", x -> x.vote(50, 128, 0), -1);
        refusedBy(GalleryRows::new, "vote(0, 1, 0)", x -> x.vote(0, 1, 0), -1);
        Due.by("promise 6, -3 one in both");
        refused("vote(50, 2, 2)", x -> x.vote(50, 2, 2), -3);
        refused("vote(50, 10, 12)", x -> x.vote(50, 10, 12), -3);
        refusedBy(Due::sevenMembers, "vote(50, 64, 127)", x -> x.vote(50, 64, 127), -3);
        Due.by("promise 6, -3 not of that YEAR");
        refused("vote(9, 1, 0)", x -> x.vote(9, 1, 0), -3);
        refused("vote(21, 0, 1)", x -> x.vote(21, 0, 1), -3);
        refused("vote(14, 2, 4)", x -> x.vote(14, 2, 4), -3);
        refused("vote(61, 4, 2)", x -> x.vote(61, 4, 2), -3);
    }

    private static void voteOfSeveral() {
        Due.by("promise 6, the first that fits");
        refused("vote(-1, 16, 0)", x -> x.vote(-1, 16, 0), -4);
        refused("vote(-1, 2, 2)", x -> x.vote(-1, 2, 2), -4);
        refused("vote(-1, 1, 0)", x -> x.vote(-1, 1, 0), -4);
        refused("vote(100, -1, 0)", x -> x.vote(100, -1, 0), -4);
        refused("vote(100, 0, -1)", x -> x.vote(100, 0, -1), -4);
        refused("vote(50, 16, -1)", x -> x.vote(50, 16, -1), -4);
        refused("vote(50, -1, 16)", x -> x.vote(50, -1, 16), -4);
        refused("vote(50, -2, -2)", x -> x.vote(50, -2, -2), -4);
        refused("vote(100, 16, 0)", x -> x.vote(100, 16, 0), -6);
        refused("vote(100, 2, 2)", x -> x.vote(100, 2, 2), -6);
        refused("vote(100, 1, 0)", x -> x.vote(100, 1, 0), -6);
        refused("vote(50, 18, 2)", x -> x.vote(50, 18, 2), -1);
        refused("vote(50, 16, 16)", x -> x.vote(50, 16, 16), -1);
        refused("vote(9, 1, 16)", x -> x.vote(9, 1, 16), -1);
        refusedBy(Due::fullOfVotes, "vote(-1, 0, 0)", x -> x.vote(-1, 0, 0), -4);
        refusedBy(Due::fullOfVotes, "vote(5, 0, -1)", x -> x.vote(5, 0, -1), -4);
        refusedBy(Due::fullOfVotes, "vote(5, 4, 0)", x -> x.vote(5, 4, 0), -6);
        refusedBy(Due::fullOfVotes, "vote(5, 1, 1)", x -> x.vote(5, 1, 1), -6);
    }

    private static void of() {
        Due.by("promise 7, -1");
        refused("of(3, 0)", x -> x.of(3, 0), -1);
        refused("of(-1, 0)", x -> x.of(-1, 0), -1);
        refused("of(greatest, 0)", x -> x.of(GREATEST, 0), -1);
        refused("of(least, 0)", x -> x.of(LEAST, 0), -1);
        refusedBy(Due::fullOfVotes, "of(24, 0)", x -> x.of(24, 0), -1);
        refusedBy(GalleryRows::new, "of(0, 0)", x -> x.of(0, 0), -1);
        Due.by("promise 7, -2");
        refused("of(0, 3)", x -> x.of(0, 3), -2);
        refused("of(0, -1)", x -> x.of(0, -1), -2);
        refused("of(0, greatest)", x -> x.of(0, GREATEST), -2);
        refused("of(0, least)", x -> x.of(0, LEAST), -2);
        Due.by("promise 7, the first that fits");
        refused("of(3, 3)", x -> x.of(3, 3), -1);
        refused("of(-1, -1)", x -> x.of(-1, -1), -1);
    }

    private static void takeOut() {
        Due.by("promise 8, -3");
        refusedBy(GalleryRows::new, "takeOut()", GalleryRows::takeOut, -3);
        refusedBy(() -> Due.house(3), "takeOut()", GalleryRows::takeOut, -3);
        refusedBy(Due::tenHeld, "takeOut()", GalleryRows::takeOut, -3);
    }

    private static void hold() {
        Due.by("promise 9, -1");
        refused("hold(4, 0)", x -> x.hold(4, 0), -1);
        refused("hold(0, 4)", x -> x.hold(0, 4), -1);
        refused("hold(4, -1)", x -> x.hold(4, -1), -1);
        refused("hold(-1, 0)", x -> x.hold(-1, 0), -1);
        refused("hold(-1, -1)", x -> x.hold(-1, -1), -1);
        refused("hold(0, -2)", x -> x.hold(0, -2), -1);
        refused("hold(greatest, 0)", x -> x.hold(GREATEST, 0), -1);
        refused("hold(0, greatest)", x -> x.hold(0, GREATEST), -1);
        refused("hold(0, least)", x -> x.hold(0, LEAST), -1);
        refusedBy(GalleryRows::new, "hold(0, -1)", x -> x.hold(0, -1), -1);
        Due.by("promise 9, -1 one twice");
        refused("hold(0, 0)", x -> x.hold(0, 0), -1);
        refused("hold(3, 3)", x -> x.hold(3, 3), -1);
        Due.by("promise 9, -3");
        refused("hold(0, 1)", x -> x.hold(0, 1), -3);
        refused("hold(1, 0)", x -> x.hold(1, 0), -3);
        refused("hold(1, -1)", x -> x.hold(1, -1), -3);
        Due.by("promise 9, -6");
        refusedBy(Due::tenHeld, "hold(3, -1)", x -> x.hold(3, -1), -6);
        refusedBy(Due::tenHeld, "hold(0, 2)", x -> x.hold(0, 2), -6);
    }

    private static void holdOfSeveral() {
        Due.by("promise 9, the first that fits");
        refusedBy(Due::tenHeld, "hold(7, -1)", x -> x.hold(7, -1), -1);
        refusedBy(Due::tenHeld, "hold(0, -2)", x -> x.hold(0, -2), -1);
        refusedBy(Due::tenHeld, "hold(4, 4)", x -> x.hold(4, 4), -1);
        refusedBy(Due::tenHeld, "hold(6, 0)", x -> x.hold(6, 0), -3);
        refusedBy(Due::tenHeld, "hold(0, 6)", x -> x.hold(0, 6), -3);
        refusedBy(Due::tenHeld, "hold(2, -1)", x -> x.hold(2, -1), -3);
    }

    private static void apart() {
        Due.by("promise 11, -1");
        refused("apart(4, 0)", x -> x.apart(4, 0), -1);
        refused("apart(0, 4)", x -> x.apart(0, 4), -1);
        refused("apart(-1, 0)", x -> x.apart(-1, 0), -1);
        refused("apart(0, -1)", x -> x.apart(0, -1), -1);
        refused("apart(least, greatest)", x -> x.apart(LEAST, GREATEST), -1);
        refusedBy(GalleryRows::new, "apart(0, 0)", x -> x.apart(0, 0), -1);
        refusedBy(Due::sevenMembers, "apart(6, 7)", x -> x.apart(6, 7), -1);
    }

    private static void put() {
        Due.by("promise 12, -1");
        refused("put(4)", x -> x.put(4), -1);
        refused("put(-1)", x -> x.put(-1), -1);
        refused("put(greatest)", x -> x.put(GREATEST), -1);
        refused("put(least)", x -> x.put(LEAST), -1);
        refusedBy(GalleryRows::new, "put(0)", x -> x.put(0), -1);
        refusedBy(Due::sevenMembers, "put(7)", x -> x.put(7), -1);
        Due.by("promise 12, -3");
        refused("put(2)", x -> x.put(2), -3);
        refused("put(0)", x -> x.put(0), -3);
        refusedBy(Due::sevenMembers, "put(6)", x -> x.put(6), -3);
        for (int m = 0; m < 4; m++) {
            int one = m;
            refusedBy(Due::wholeRow, "put(" + m + ")", x -> x.put(one), -3);
        }
    }

    private static void judge() {
        Due.by("promise 13, -3");
        refused("judge()", GalleryRows::judge, -3);
        refusedBy(() -> Due.house(1), "judge()", GalleryRows::judge, -3);
        refusedBy(RefusalsTest::oneLacks, "judge()", GalleryRows::judge, -3);
        refusedBy(RefusalsTest::memberBehindWholeRow, "judge()", GalleryRows::judge, -3);
    }

    private static GalleryRows oneLacks() {
        GalleryRows x = Due.begun();
        x.put(3);
        return x;
    }

    private static GalleryRows memberBehindWholeRow() {
        GalleryRows x = Due.wholeRow();
        x.member(0, 99);
        return x;
    }

    private static void cut() {
        Due.by("promise 14, -1");
        refusedBy(Due::wholeRow, "cut(3)", x -> x.cut(3), -1);
        refusedBy(Due::wholeRow, "cut(-1)", x -> x.cut(-1), -1);
        refusedBy(Due::wholeRow, "cut(greatest)", x -> x.cut(GREATEST), -1);
        refusedBy(Due::wholeRow, "cut(least)", x -> x.cut(LEAST), -1);
        refusedBy(GalleryRows::new, "cut(0)", x -> x.cut(0), -1);
        Due.by("promise 14, -3");
        refused("cut(0)", x -> x.cut(0), -3);
        refusedBy(RefusalsTest::oneLacks, "cut(2)", x -> x.cut(2), -3);
        refusedBy(RefusalsTest::memberBehindWholeRow, "cut(2)", x -> x.cut(2), -3);
        Due.by("promise 14, the first that fits");
        refused("cut(3)", x -> x.cut(3), -1);
        refused("cut(-1)", x -> x.cut(-1), -1);
    }

    private static void wrong() {
        Due.by("promise 15, -1");
        refusedBy(Due::wholeRow, "wrong(3)", x -> x.wrong(3), -1);
        refusedBy(Due::wholeRow, "wrong(-1)", x -> x.wrong(-1), -1);
        refusedBy(Due::wholeRow, "wrong(greatest)", x -> x.wrong(GREATEST), -1);
        refusedBy(Due::wholeRow, "wrong(least)", x -> x.wrong(LEAST), -1);
        refusedBy(GalleryRows::new, "wrong(0)", x -> x.wrong(0), -1);
        Due.by("promise 15, -3");
        refused("wrong(0)", x -> x.wrong(0), -3);
        refusedBy(RefusalsTest::oneLacks, "wrong(2)", x -> x.wrong(2), -3);
        refusedBy(RefusalsTest::memberBehindWholeRow, "wrong(2)", x -> x.wrong(2), -3);
        Due.by("promise 15, the first that fits");
        refused("wrong(3)", x -> x.wrong(3), -1);
        refused("wrong(-1)", x -> x.wrong(-1), -1);
    }

    private static void best() {
        Due.by("promise 16, -2");
        refused("best(2)", x -> x.best(2), -2);
        refused("best(-1)", x -> x.best(-1), -2);
        refused("best(greatest)", x -> x.best(GREATEST), -2);
        refused("best(least)", x -> x.best(LEAST), -2);
    }

    private static void chance() {
        Due.by("promise 20, -4");
        refused("chance(0, 1)", x -> x.chance(0, 1), -4);
        refused("chance(-1, 1)", x -> x.chance(-1, 1), -4);
        refused("chance(least, 1)", x -> x.chance(LEAST, 1), -4);
        Due.by("promise 20, -6");
        refused("chance(21, 1)", x -> x.chance(21, 1), -6);
        refused("chance(greatest, 1)", x -> x.chance(GREATEST, 1), -6);
    }

    private static void place() {
        Due.by("promise 21, -1");
        refused("place(4, 1, 1)", x -> x.place(4, 1, 1), -1);
        refused("place(-1, 1, 1)", x -> x.place(-1, 1, 1), -1);
        refused("place(greatest, 1, 1)", x -> x.place(GREATEST, 1, 1), -1);
        refused("place(least, 1, 1)", x -> x.place(LEAST, 1, 1), -1);
        refusedBy(GalleryRows::new, "place(0, 0, 0)", x -> x.place(0, 0, 0), -1);
        refusedBy(Due::sevenMembers, "place(7, 0, 0)", x -> x.place(7, 0, 0), -1);
        Due.by("promise 21, -4");
        refused("place(0, -1, 1)", x -> x.place(0, -1, 1), -4);
        refused("place(0, 1, -1)", x -> x.place(0, 1, -1), -4);
        refused("place(0, least, least)", x -> x.place(0, LEAST, LEAST), -4);
        Due.by("promise 21, -6");
        refused("place(0, 5, 1)", x -> x.place(0, 5, 1), -6);
        refused("place(0, 1, 5)", x -> x.place(0, 1, 5), -6);
        refused("place(0, greatest, greatest)", x -> x.place(0, GREATEST, GREATEST), -6);
        Due.by("promise 21, the first that fits");
        refused("place(4, -1, 1)", x -> x.place(4, -1, 1), -1);
        refused("place(4, 1, 5)", x -> x.place(4, 1, 5), -1);
        refused("place(0, 5, -1)", x -> x.place(0, 5, -1), -4);
        refused("place(0, -1, 5)", x -> x.place(0, -1, 5), -4);
    }

    private static void line() {
        Due.by("promise 22, -1");
        refused("line(3)", x -> x.line(3), -1);
        refused("line(-1)", x -> x.line(-1), -1);
        refused("line(greatest)", x -> x.line(GREATEST), -1);
        refused("line(least)", x -> x.line(LEAST), -1);
        refusedBy(GalleryRows::new, "line(0)", x -> x.line(0), -1);
        refusedBy(Due::fullOfVotes, "line(24)", x -> x.line(24), -1);
    }

    private static void odd() {
        Due.by("promise 25, -4");
        refused("odd(0)", x -> x.odd(0), -4);
        refused("odd(-1)", x -> x.odd(-1), -4);
        refused("odd(least)", x -> x.odd(LEAST), -4);
        Due.by("promise 25, -6");
        refused("odd(4)", x -> x.odd(4), -6);
        refused("odd(greatest)", x -> x.odd(GREATEST), -6);
    }

    private static void second() {
        Due.by("promise 26, -4");
        refused("second(0)", x -> x.second(0), -4);
        refused("second(-1)", x -> x.second(-1), -4);
        refused("second(least)", x -> x.second(LEAST), -4);
        Due.by("promise 26, -6");
        refused("second(4)", x -> x.second(4), -6);
        refused("second(greatest)", x -> x.second(GREATEST), -6);
    }

    private static void move() {
        Due.by("promise 27, -2");
        refused("move(4)", x -> x.move(4), -2);
        refused("move(-1)", x -> x.move(-1), -2);
        refused("move(greatest)", x -> x.move(GREATEST), -2);
        refused("move(least)", x -> x.move(LEAST), -2);
    }

    private static void stretches() {
        Due.by("promise 28, -1");
        refused("stretches(4)", x -> x.stretches(4), -1);
        refused("stretches(-1)", x -> x.stretches(-1), -1);
        refused("stretches(greatest)", x -> x.stretches(GREATEST), -1);
        refused("stretches(least)", x -> x.stretches(LEAST), -1);
        refusedBy(GalleryRows::new, "stretches(4)", x -> x.stretches(4), -1);
    }

    private static void parties() {
        Due.by("promise 29, -2");
        refused("parties(2)", x -> x.parties(2), -2);
        refused("parties(-1)", x -> x.parties(-1), -2);
        refused("parties(greatest)", x -> x.parties(GREATEST), -2);
        refused("parties(least)", x -> x.parties(LEAST), -2);
    }

    private static void say() {
        Due.by("promise 30, -1");
        refused("say(3, 1)", x -> x.say(3, 1), -1);
        refused("say(-1, 1)", x -> x.say(-1, 1), -1);
        refused("say(1, 4)", x -> x.say(1, 4), -1);
        refused("say(1, -1)", x -> x.say(1, -1), -1);
        refused("say(greatest, least)", x -> x.say(GREATEST, LEAST), -1);
        refusedBy(() -> Due.house(2), "say(0, 0)", x -> x.say(0, 0), -1);
        refusedBy(GalleryRows::new, "say(0, 0)", x -> x.say(0, 0), -1);
        Due.by("promise 30, -3");
        refused("say(1, 0)", x -> x.say(1, 0), -3);
        refused("say(1, 3)", x -> x.say(1, 3), -3);
        refused("say(2, 2)", x -> x.say(2, 2), -3);
    }

    private static void sure() {
        Due.by("promise 31, -1");
        refused("sure(3, 1)", x -> x.sure(3, 1), -1);
        refused("sure(-1, 1)", x -> x.sure(-1, 1), -1);
        refused("sure(1, 4)", x -> x.sure(1, 4), -1);
        refused("sure(1, -1)", x -> x.sure(1, -1), -1);
        refused("sure(greatest, least)", x -> x.sure(GREATEST, LEAST), -1);
        refusedBy(() -> Due.house(2), "sure(0, 0)", x -> x.sure(0, 0), -1);
        refusedBy(GalleryRows::new, "sure(0, 0)", x -> x.sure(0, 0), -1);
        Due.by("promise 31, -3");
        refused("sure(1, 0)", x -> x.sure(1, 0), -3);
        refused("sure(1, 3)", x -> x.sure(1, 3), -3);
        refused("sure(2, 2)", x -> x.sure(2, 2), -3);
    }

    private static void restore() {
        Due.by("promise 33, -3");
        refusedBy(GalleryRows::new, "restore()", GalleryRows::restore, -3);
        refusedBy(Due::sevenMembers, "restore()", GalleryRows::restore, -3);
        refusedBy(Due::withoutBest, "restore()", GalleryRows::restore, -3);
    }

    private static void withoutBestRow() {
        still("promise 16, -9", "best(0)", x -> x.best(0));
        still("promise 16, -9", "best(1)", x -> x.best(1));
        still("promise 17, -9", "row(0, 0)", x -> x.row(0, 0));
        still("promise 18, -9", "open()", GalleryRows::open);
        still("promise 20, -9", "chance(1, 0)", x -> x.chance(1, 0));
        still("promise 20, -9", "chance(20, 0)", x -> x.chance(20, 0));
        still("promise 25, -9", "odd(1)", x -> x.odd(1));
        still("promise 25, -9", "odd(3)", x -> x.odd(3));
        still("promise 26, -9", "second(1)", x -> x.second(1));
        still("promise 26, -9", "second(3)", x -> x.second(3));
        for (int what = 0; what <= 3; what++) {
            int which = what;
            still("promise 27, -9", "move(" + what + ")", x -> x.move(which));
            still("promise 28, -9", "stretches(" + what + ")", x -> x.stretches(which));
        }
        still("promise 29, -9", "parties(0)", x -> x.parties(0));
        still("promise 29, -9", "parties(1)", x -> x.parties(1));
        still("promise 30, -9", "say(0, 3)", x -> x.say(0, 3));
        still("promise 31, -9", "sure(0, 3)", x -> x.sure(0, 3));
    }

    private static void still(String words, String call, ToIntFunction<GalleryRows> run) {
        Due.by(words);
        Due.still(Due::withoutBest, call, run, -9);
    }

    private static void refusalAheadOfNone() {
        Due.by("a refusal where there is no BEST ROW");
        refusedBy(Due::withoutBest, "best(2)", x -> x.best(2), -2);
        refusedBy(Due::withoutBest, "chance(0, 1)", x -> x.chance(0, 1), -4);
        refusedBy(Due::withoutBest, "chance(21, 1)", x -> x.chance(21, 1), -6);
        refusedBy(Due::withoutBest, "odd(0)", x -> x.odd(0), -4);
        refusedBy(Due::withoutBest, "odd(4)", x -> x.odd(4), -6);
        refusedBy(Due::withoutBest, "second(0)", x -> x.second(0), -4);
        refusedBy(Due::withoutBest, "second(4)", x -> x.second(4), -6);
        refusedBy(Due::withoutBest, "move(4)", x -> x.move(4), -2);
        refusedBy(Due::withoutBest, "stretches(4)", x -> x.stretches(4), -1);
        refusedBy(Due::withoutBest, "parties(2)", x -> x.parties(2), -2);
        refusedBy(Due::withoutBest, "say(2, 3)", x -> x.say(2, 3), -1);
        refusedBy(Due::withoutBest, "say(0, 4)", x -> x.say(0, 4), -1);
        refusedBy(Due::withoutBest, "say(0, 0)", x -> x.say(0, 0), -3);
        refusedBy(Due::withoutBest, "sure(2, 3)", x -> x.sure(2, 3), -1);
        refusedBy(Due::withoutBest, "sure(0, 4)", x -> x.sure(0, 4), -1);
        refusedBy(Due::withoutBest, "sure(0, 0)", x -> x.sure(0, 0), -3);
    }

    private static void questionsChangeNothing() {
        Due.by("a question changes nothing");
        Due.still(Due::begun, "of(2, 0)", x -> x.of(2, 0), 50);
        Due.still(Due::begun, "apart(0, 2)", x -> x.apart(0, 2), 1);
        Due.still(Due::wholeRow, "cut(0)", x -> x.cut(0), 103);
        Due.still(Due::wholeRow, "wrong(0)", x -> x.wrong(0), 8);
        Due.still(Due::begun, "knot()", GalleryRows::knot, 3);
        Due.still(Due::begun, "stretches(0)", x -> x.stretches(0), 2);
        Due.still(Due::begun, "parties(0)", x -> x.parties(0), 0);
        Due.still(Due::begun, "count(4)", x -> x.count(4), 6);
    }

    private static void noneIsNoRefusal() {
        Due.by("-9 and a FAULT are no REFUSALS");
        Due.still(Due::begun, "row(0, 4)", x -> x.row(0, 4), -9);
        Due.still(Due::begun, "row(0, -1)", x -> x.row(0, -1), -9);
        Due.still(Due::begun, "row(-1, 0)", x -> x.row(-1, 0), -9);
        Due.still(Due::begun, "count(6)", x -> x.count(6), -9);
        Due.still(Due::begun, "count(10)", x -> x.count(10), -9);
        Due.still(Due::begun, "count(17)", x -> x.count(17), -9);
        Due.still(Due::sevenMembers, "knot()", GalleryRows::knot, -9);
        Due.still(Due::sevenMembers, "parties(0)", x -> x.parties(0), -9);
        GalleryRows x = Due.house(2);
        for (String text : new String[] {"m9-8;", "x", "k22;", "v1:y", "p04;", "m100-1;"}) {
            Due.readText(x, text);
        }
        for (int what = 11; what <= 16; what++) {
            Due.is("count(" + what + ")", x.count(what), 0);
        }
    }

    private static void eachNumberIsCountedApart() {
        Due.by("promise 34, REFUSALS -1 .. -6");
        GalleryRows x = Due.house(2);
        times(3, () -> x.put(2));
        times(5, () -> x.best(2));
        times(7, x::takeOut);
        times(9, () -> x.odd(0));
        times(11, () -> x.odd(4));
        int[] due = {3, 5, 7, 9, 0, 11};
        for (int i = 0; i < 6; i++) {
            Due.is("count(" + (11 + i) + ")", x.count(11 + i), due[i]);
        }
    }

    private static void times(int many, Supplier<Integer> call) {
        for (int i = 0; i < many; i++) {
            call.get();
        }
    }

    private static void lastOf512Calls() {
        Due.by("an object is used for at most 512 calls");
        GalleryRows x = new GalleryRows();
        times(511, () -> x.feed(9, 0));
        Due.is("count(16) as the 512th call", x.count(16), 511);
    }
}
