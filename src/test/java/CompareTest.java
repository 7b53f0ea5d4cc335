/** Long runs of calls on GalleryRows and on PlainHouse, which must answer alike. */
public final class CompareTest {
    private static final int RUNS = 140;
    private static final int CALLS = 512;
    private static final int FULL_RUNS = 12;
    private static final int MOST_CALLS_OF_A_TEXT = 16;

    private static int wrong = 0;
    private static long seed = 1;

    private int calls = 0;
    private GalleryRows rows;
    private PlainHouse plain;

    // Fixed numbers: every run of the test makes the same calls.
    private static int number(int bound) {
        seed = seed * 6364136223846793005L + 1442695040888963407L;
        return (int) ((seed >>> 33) % bound);
    }

    private static int number(int from, int to) {
        return from + number(to - from + 1);
    }

    public static void main(String[] args) {
        int calls = 0;
        for (int run = 0; run < RUNS && wrong < 20; run++) {
            seed = 1000003L * (run + 1);
            calls += new CompareTest().run(run);
        }
        for (int run = 0; run < FULL_RUNS && wrong < 20; run++) {
            seed = 7000003L * (run + 1);
            calls += new CompareTest().fullHouse(run);
        }
        System.out.println(wrong == 0 ? "CompareTest: " + calls + " calls alike" : "CompareTest: " + wrong + " not alike");
        if (wrong != 0) {
            System.exit(1);
        }
    }

    private boolean same(String call, int got, int due) {
        calls++;
        if (got == due) {
            return true;
        }
        wrong++;
        System.out.println(call + " answered " + got + ", plainly " + due);
        return false;
    }

    private int run(int run) {
        rows = new GalleryRows();
        plain = new PlainHouse();
        int most = run % 10 == 0 ? 7 : number(1, 5);
        boolean isBook = run % 3 == 0;
        // An object answers as promised for 512 calls only: one text may take many of them.
        for (int i = 0; calls + MOST_CALLS_OF_A_TEXT <= CALLS; i++) {
            if (!oneCall(most, isBook, i)) {
                System.out.println("  in run " + run + ", call " + calls);
                return calls;
            }
        }
        return calls;
    }

    /** Seven members who all vote: only there has a vote three wrong in every row at hand. */
    private int fullHouse(int run) {
        rows = new GalleryRows();
        plain = new PlainHouse();
        for (int m = 0; m < 7; m++) {
            same("member(0, 99)", rows.member(0, 99), plain.member(0, 99));
            int at = number(25);
            same("place(" + m + ")", rows.place(m, at / 5, at % 5), plain.place(m, at / 5, at % 5));
        }
        for (int v = 0; v < 24; v++) {
            int yes = number(128);
            int year = number(4) * 33;
            same("vote(" + v + ")", rows.vote(year, yes, 127 - yes), plain.vote(year, yes, 127 - yes));
        }
        same("hold(0, 1)", rows.hold(0, 1), plain.hold(0, 1));
        same("hold(2, -1)", rows.hold(2, -1), plain.hold(2, -1));
        same("best(0)", rows.best(0), plain.best(0));
        same("best(1)", rows.best(1), plain.best(1));
        same("open()", rows.open(), plain.open());
        same("knot()", rows.knot(), plain.knot());
        same("chance(20, 5)", rows.chance(20, 5), plain.chance(20, 5));
        same("sheet()", rows.sheet(), plain.sheet());
        for (int many = 1; many <= 3; many++) {
            same("odd(" + many + ")", rows.odd(many), plain.odd(many));
            same("second(" + many + ")", rows.second(many), plain.second(many));
        }
        for (int what = 0; what <= 3; what++) {
            same("move(" + what + ")", rows.move(what), plain.move(what));
        }
        same("turn()", rows.turn(), plain.turn());
        if (wrong > 0) {
            System.out.println("  in the full house " + run);
        }
        return calls;
    }

    private boolean oneCall(int most, boolean isBook, int i) {
        if (isBook && number(3) == 0) {
            return feedOrRead(most);
        }
        if (i < 4 * most && !isBook || number(60) == 0) {
            return plain.count(0) >= most && number(8) != 0 ? question(most) : change(0, most);
        }
        return number(4) == 0 ? change(number(1, 8), most) : question(most);
    }

    private boolean change(int kind, int most) {
        int m = number(40) == 0 ? number(-2, 9) : number(most);
        int o = number(10) == 0 ? number(-2, 9) : number(most);
        switch (kind) {
            case 0:
                int from = number(12) == 0 ? number(-2, 101) : number(3) * 20;
                int to = number(12) == 0 ? number(-2, 101) : 99 - number(3) * 20;
                return same("member(" + from + ", " + to + ")", rows.member(from, to), plain.member(from, to));
            case 1:
                int p = number(10) == 0 ? number(-1, 5) : number(4);
                return same("party(" + m + ", " + p + ")", rows.party(m, p), plain.party(m, p));
            case 2:
            case 3:
                return changeVote();
            case 4:
                return number(3) == 0 ? same("takeOut()", rows.takeOut(), plain.takeOut()) : changeVote();
            case 5:
                int b = number(3) == 0 ? -1 : o;
                return same("hold(" + m + ", " + b + ")", rows.hold(m, b), plain.hold(m, b));
            case 6:
                return number(3) != 0 ? question(most) : same("free()", rows.free(), plain.free());
            case 7:
                int x = number(10) == 0 ? number(-1, 6) : number(5);
                int y = number(10) == 0 ? number(-1, 6) : number(5);
                return same("place(" + m + ", " + x + ", " + y + ")", rows.place(m, x, y), plain.place(m, x, y));
            default:
                if (number(6) == 0) {
                    return same("image()", rows.image(), plain.image());
                }
                return number(4) != 0 || same("restore()", rows.restore(), plain.restore());
        }
    }

    private boolean changeVote() {
        int year = number(20) == 0 ? number(-1, 101) : number(10) == 0 ? number(100) : number(40, 59);
        int yes = 0;
        int no = 0;
        for (int m = 0; m < plain.count(0); m++) {
            int word = number(5);
            yes |= word < 2 ? 1 << m : 0;
            no |= word > 2 ? 1 << m : 0;
        }
        if (number(20) == 0) {
            yes = number(-2, 130);
        }
        if (number(20) == 0) {
            no = number(-2, 130);
        }
        return same("vote(" + year + ", " + yes + ", " + no + ")", rows.vote(year, yes, no), plain.vote(year, yes, no));
    }

    private boolean question(int most) {
        int m = number(30) == 0 ? number(-1, 8) : number(most);
        int o = number(30) == 0 ? number(-1, 8) : number(most);
        int votes = Math.max(1, plain.count(1));
        int v = number(30) == 0 ? number(-1, 26) : number(votes);
        int w = number(20) == 0 ? number(-1, 5) : number(4);
        switch (number(most > 5 && number(8) != 0 ? 22 : 26)) {
            case 0:
                return same("of(" + v + ", " + w + ")", rows.of(v, w), plain.of(v, w));
            case 1:
                return same("apart(" + m + ", " + o + ")", rows.apart(m, o), plain.apart(m, o));
            case 2:
            case 3:
            case 4:
            case 5:
                return same("put(" + m + ")", rows.put(m), plain.put(m));
            case 6:
                return number(2) == 0 || same("judge()", rows.judge(), plain.judge());
            case 7:
                return same("cut(" + v + ")", rows.cut(v), plain.cut(v));
            case 8:
                return same("wrong(" + v + ")", rows.wrong(v), plain.wrong(v));
            case 9:
                int b = number(10) == 0 ? w : number(2);
                return same("best(" + b + ")", rows.best(b), plain.best(b));
            case 10:
            case 11:
                int i = number(8) == 0 ? number(-1, 2600) : number(Math.max(1, plain.best(1)));
                return same("row(" + i + ", " + m + ")", rows.row(i, m), plain.row(i, m));
            case 12:
                return same("open()", rows.open(), plain.open());
            case 13:
                int n = number(20) == 0 ? number(-1, 22) : number(1, 20);
                int z = number(3) == 0 ? -number(1 << 30) : number(1 << 30);
                return same("chance(" + n + ", " + z + ")", rows.chance(n, z), plain.chance(n, z));
            case 14:
                return same("line(" + v + ")", rows.line(v), plain.line(v));
            case 15:
                return same("sheet()", rows.sheet(), plain.sheet());
            case 16:
                return same("odd(" + w + ")", rows.odd(w), plain.odd(w));
            case 17:
                return same("stretches(" + w + ")", rows.stretches(w), plain.stretches(w));
            case 18:
                int t = number(10) == 0 ? w : number(2);
                return same("parties(" + t + ")", rows.parties(t), plain.parties(t));
            case 19:
                return same("say(" + v + ", " + m + ")", rows.say(v, m), plain.say(v, m));
            case 20:
                return same("sure(" + v + ", " + m + ")", rows.sure(v, m), plain.sure(v, m));
            case 21:
                int c = number(-1, 18);
                return same("count(" + c + ")", rows.count(c), plain.count(c));
            case 22:
                return same("turn()", rows.turn(), plain.turn());
            case 23:
                return same("second(" + w + ")", rows.second(w), plain.second(w));
            case 24:
                return number(3) != 0 || same("knot()", rows.knot(), plain.knot());
            default:
                return same("move(" + w + ")", rows.move(w), plain.move(w));
        }
    }

    private boolean feedOrRead(int most) {
        if (number(3) != 0 && plain.count(4) > 0) {
            return same("read()", rows.read(), plain.read());
        }
        String book = statements(most);
        for (int at = 0; at < book.length(); at += 8) {
            int n = Math.min(8, book.length() - at);
            long bytes = 0;
            for (int i = 0; i < n; i++) {
                bytes |= (long) (book.charAt(at + i) & 255) << (8 * i);
            }
            bytes |= n < 8 ? (long) number(1 << 30) << (8 * n) : 0;
            if (!same("feed(" + n + ", '" + book.substring(at, at + n) + "')", rows.feed(n, bytes), plain.feed(n, bytes))) {
                return false;
            }
        }
        return number(20) != 0 || same("feed(" + (book.length() - 3) + ", 0)",
            rows.feed(book.length() - 3, 0), plain.feed(book.length() - 3, 0));
    }

    private String statements(int most) {
        StringBuilder book = new StringBuilder();
        int many = number(1, 6);
        int members = plain.count(0);
        for (int i = 0; i < many; i++) {
            int kind = number(10);
            if (kind < 2 && members < most) {
                book.append('m').append(number(60)).append('-').append(number(30, 99)).append(';');
                members++;
            } else if (kind < 7) {
                book.append('v').append(number(4) == 0 ? number(100) : number(45, 60)).append(':');
                for (int m = 0; m < members; m++) {
                    book.append("yna".charAt(number(3)));
                }
                book.append(';');
            } else if (kind == 7) {
                book.append('k').append(number(most)).append(number(most)).append(';');
            } else if (kind == 8) {
                book.append('e').append(number(most)).append(';');
            } else {
                book.append('p').append(number(most)).append(number(number(8) == 0 ? 6 : 4)).append(';');
            }
        }
        if (number(4) == 0 && book.length() > 0) {
            int at = number(book.length());
            book.setCharAt(at, "mvkep;:-0123456789yna\u00e9 ".charAt(number(23)));
        }
        if (number(6) == 0 && book.length() > 0) {
            book.deleteCharAt(number(book.length()));
        }
        if (number(6) == 0 && book.length() > 0) {
            book.setLength(number(book.length()));
        }
        return book.toString();
    }
}
