/**
 * Members of a house, their votes, and the rows and sheets in which they stand.
 * The promises that this class keeps are in the project's document.
 */
public final class GalleryRows {
    private static final int MOST_MEMBERS = 7;
    private static final int MOST_VOTES = 24;
    private static final int MOST_HELD = 10;
    private static final int LAST_YEAR = 99;
    private static final int YEARS = 100;
    private static final int PARTIES = 4;
    private static final int SIDE_OF_SHEET = 5;
    private static final int SETS_OF_MEMBERS = 128;
    private static final int AT_AN_END = -1;
    private static final int MORE_THAN_ANY = 1000000;

    private static final int NOBODY = -1;
    private static final int OTHER = -2;
    private static final int STATE = -3;
    private static final int BELOW = -4;
    private static final int ROOM = -6;
    private static final int NONE = -9;

    private final House house;
    private final House imaged;
    private boolean imageTaken;
    private final Book book;
    private final Sides sides;
    private final Rows rows;
    private final Sheet points;
    private final Moves moves;
    private final Lots lots;
    private int handRow;
    private int handCount;
    private final int[] refusals;

    public GalleryRows() {
        house = new House();
        imaged = new House();
        imageTaken = false;
        book = new Book(house);
        sides = new Sides(house);
        rows = new Rows(house, sides);
        points = new Sheet(house, sides);
        moves = new Moves(house, sides);
        lots = new Lots(house);
        handRow = 0;
        handCount = 0;
        refusals = new int[7];
    }

    public int feed(int n, long bytes) {
        if (n < 1) {
            return refuse(BELOW);
        }
        if (n > 8 || !book.hasRoom(n)) {
            return refuse(ROOM);
        }
        return book.append(n, bytes);
    }

    public int read() {
        int answer = book.readAll();
        votesChanged();
        return answer;
    }

    public int member(int from, int to) {
        if (from < 0 || to < 0) {
            return refuse(BELOW);
        }
        if (from > LAST_YEAR || to > LAST_YEAR || !house.hasRoomForMember()) {
            return refuse(ROOM);
        }
        if (to < from) {
            return refuse(STATE);
        }
        int number = house.addMember(from, to);
        votesChanged();
        return number;
    }

    public int party(int m, int p) {
        if (!house.isMember(m)) {
            return refuse(NOBODY);
        }
        if (p < 0) {
            return refuse(BELOW);
        }
        if (p >= PARTIES) {
            return refuse(ROOM);
        }
        return house.changeParty(m, p);
    }

    public int vote(int year, int yes, int no) {
        if (year < 0 || yes < 0 || no < 0) {
            return refuse(BELOW);
        }
        if (year > LAST_YEAR || !house.hasRoomForVote()) {
            return refuse(ROOM);
        }
        int voters = yes | no;
        if ((voters & ~house.everyone()) != 0) {
            return refuse(NOBODY);
        }
        if ((yes & no) != 0 || (voters & ~house.thoseOfYear(year)) != 0) {
            return refuse(STATE);
        }
        int number = house.addVote(year, yes, no);
        votesChanged();
        return number;
    }

    public int of(int vote, int what) {
        if (!house.isVote(vote)) {
            return refuse(NOBODY);
        }
        switch (what) {
            case 0:
                return house.yearOf(vote);
            case 1:
                return house.yesOf(vote);
            case 2:
                return house.noOf(vote);
            default:
                return refuse(OTHER);
        }
    }

    public int takeOut() {
        if (house.votes() == 0) {
            return refuse(STATE);
        }
        int left = house.dropVote();
        votesChanged();
        return left;
    }

    public int hold(int a, int b) {
        if (!house.isMember(a) || a == b || (b != AT_AN_END && !house.isMember(b))) {
            return refuse(NOBODY);
        }
        if (house.isHeld(a, b)) {
            return refuse(STATE);
        }
        if (!house.hasRoomForHeld()) {
            return refuse(ROOM);
        }
        int held = house.addHeld(a, b);
        rows.forgetBest();
        return held;
    }

    public int free() {
        int were = house.dropHeld();
        rows.forgetBest();
        return were;
    }

    public int apart(int a, int b) {
        if (!house.isMember(a) || !house.isMember(b)) {
            return refuse(NOBODY);
        }
        int unlike = 0;
        for (int v = 0; v < house.votes(); v++) {
            boolean yesAndNo = has(house.yesOf(v), a) && has(house.noOf(v), b);
            boolean noAndYes = has(house.noOf(v), a) && has(house.yesOf(v), b);
            if (yesAndNo || noAndYes) {
                unlike++;
            }
        }
        return unlike;
    }

    public int put(int m) {
        if (!house.isMember(m)) {
            return refuse(NOBODY);
        }
        if (has(Line.firstOnes(handRow, handCount), m)) {
            return refuse(STATE);
        }
        handRow = Line.with(handRow, handCount, m);
        handCount++;
        return handCount;
    }

    public int judge() {
        if (!handIsWhole()) {
            return refuse(STATE);
        }
        sides.refresh();
        sides.walk(handRow);
        emptyHand();
        return sides.total();
    }

    public int cut(int vote) {
        if (!house.isVote(vote)) {
            return refuse(NOBODY);
        }
        if (!handIsWhole()) {
            return refuse(STATE);
        }
        return cutIn(handRow, vote);
    }

    public int wrong(int vote) {
        if (!house.isVote(vote)) {
            return refuse(NOBODY);
        }
        if (!handIsWhole()) {
            return refuse(STATE);
        }
        int code = cutIn(handRow, vote);
        int left = Line.firstOnes(handRow, Line.placeOfCut(code));
        int onYesSide = Line.yesIsLeft(code) ? left : ~left;
        return (house.yesOf(vote) & ~onYesSide) | (house.noOf(vote) & onYesSide);
    }

    public int best(int what) {
        if (what != 0 && what != 1) {
            return refuse(OTHER);
        }
        if (lacksBest()) {
            return NONE;
        }
        return what == 0 ? rows.leastWrong() : rows.bestOnes();
    }

    public int row(int i, int place) {
        if (lacksBest() || i < 0 || i >= rows.bestOnes() || place < 0 || place >= house.members()) {
            return NONE;
        }
        return Line.at(rows.bestAt(i), place);
    }

    public int open() {
        return lacksBest() ? NONE : rows.openOnes();
    }

    public int knot() {
        judgeRows();
        int set = rows.knotted();
        return set == 0 ? NONE : set;
    }

    public int chance(int n, int z) {
        if (n < 1) {
            return refuse(BELOW);
        }
        if (n > 20) {
            return refuse(ROOM);
        }
        if (lacksBest()) {
            return NONE;
        }
        return lots.booksWithin(n, z, rows.bestAt(0), rows.leastWrong());
    }

    public int place(int m, int x, int y) {
        if (!house.isMember(m)) {
            return refuse(NOBODY);
        }
        if (x < 0 || y < 0) {
            return refuse(BELOW);
        }
        if (x >= SIDE_OF_SHEET || y >= SIDE_OF_SHEET) {
            return refuse(ROOM);
        }
        int was = SIDE_OF_SHEET * house.xOf(m) + house.yOf(m);
        house.bring(m, x, y);
        return was;
    }

    public int line(int vote) {
        if (!house.isVote(vote)) {
            return refuse(NOBODY);
        }
        return points.bestLine(house.yesOf(vote), house.noOf(vote));
    }

    public int sheet() {
        sides.refresh();
        return points.total();
    }

    public int turn() {
        sides.refresh();
        points.moveAll();
        return points.total();
    }

    public int odd(int many) {
        if (many < 1) {
            return refuse(BELOW);
        }
        if (many > 3) {
            return refuse(ROOM);
        }
        if (lacksBest()) {
            return NONE;
        }
        return oddOnes(many);
    }

    public int second(int many) {
        if (many < 1) {
            return refuse(BELOW);
        }
        if (many > 3) {
            return refuse(ROOM);
        }
        if (lacksBest()) {
            return NONE;
        }
        return rows.leastWrongOf(oddOnes(many));
    }

    public int move(int what) {
        if (what < 0 || what > 3) {
            return refuse(OTHER);
        }
        if (lacksBest() || !moves.find(rows.bestAt(0))) {
            return NONE;
        }
        switch (what) {
            case 0:
                return moves.fall();
            case 1:
                return moves.whose();
            case 2:
                return moves.since();
            default:
                return moves.whither();
        }
    }

    public int stretches(int p) {
        if (p < 0 || p >= PARTIES) {
            return refuse(NOBODY);
        }
        return lacksBest() ? NONE : stretchesOf(p, rows.bestAt(0));
    }

    public int parties(int what) {
        if (what != 0 && what != 1) {
            return refuse(OTHER);
        }
        if (lacksBest()) {
            return NONE;
        }
        return what == 0 ? partyInTwo(rows.bestAt(0)) : thoseInAnothers(rows.bestAt(0));
    }

    public int say(int vote, int m) {
        int number = refusalOfSay(vote, m);
        if (number != 0) {
            return refuse(number);
        }
        if (lacksBest()) {
            return NONE;
        }
        return saysYes(rows.bestAt(0), vote, m) ? 1 : 0;
    }

    public int sure(int vote, int m) {
        int number = refusalOfSay(vote, m);
        if (number != 0) {
            return refuse(number);
        }
        if (lacksBest()) {
            return NONE;
        }
        boolean first = saysYes(rows.bestAt(0), vote, m);
        for (int i = 1; i < rows.bestOnes(); i++) {
            if (saysYes(rows.bestAt(i), vote, m) != first) {
                return 0;
            }
        }
        return 1;
    }

    public int image() {
        imaged.copyFrom(house);
        imageTaken = true;
        return house.votes();
    }

    public int restore() {
        if (!imageTaken) {
            return refuse(STATE);
        }
        house.copyFrom(imaged);
        emptyHand();
        votesChanged();
        return house.votes();
    }

    public int count(int what) {
        switch (what) {
            case 0:
                return house.members();
            case 1:
                return house.votes();
            case 2:
                return house.held();
            case 3:
                return handCount;
            case 4:
                return book.size();
            case 5:
                return house.words();
            default:
                return what >= 11 && what <= 16 ? refusals[what - 10] : NONE;
        }
    }

    private int refuse(int number) {
        int index = -number;
        if (index >= 1 && index < refusals.length) {
            refusals[index]++;
        }
        return number;
    }

    private void votesChanged() {
        sides.forget();
        rows.forgetWrongs();
    }

    private void judgeRows() {
        sides.refresh();
        rows.listAll();
        rows.judgeAll();
    }

    private boolean lacksBest() {
        judgeRows();
        rows.sift();
        return rows.bestOnes() == 0;
    }

    private boolean handIsWhole() {
        return handCount == house.members();
    }

    private void emptyHand() {
        handRow = 0;
        handCount = 0;
    }

    private int cutIn(int inRow, int vote) {
        return Line.bestCut(inRow, house.members(), house.yesOf(vote), house.noOf(vote));
    }

    private int oddOnes(int many) {
        sides.walk(rows.bestAt(0));
        return sides.votesWrongBy(many);
    }

    private int stretchesOf(int p, int inRow) {
        int runs = 0;
        boolean inRun = false;
        for (int i = 0; i < house.members(); i++) {
            boolean isOne = house.partyOf(Line.at(inRow, i)) == p;
            if (isOne && !inRun) {
                runs++;
            }
            inRun = isOne;
        }
        return runs;
    }

    private int partyInTwo(int inRow) {
        int first = NONE;
        int most = 1;
        for (int p = 0; p < PARTIES; p++) {
            int runs = stretchesOf(p, inRow);
            if (runs > most) {
                most = runs;
                first = p;
            }
        }
        return first;
    }

    private int thoseInAnothers(int inRow) {
        int set = 0;
        for (int i = 1; i < house.members() - 1; i++) {
            int m = Line.at(inRow, i);
            int ahead = house.partyOf(Line.at(inRow, i - 1));
            int behind = house.partyOf(Line.at(inRow, i + 1));
            if (ahead == behind && ahead != house.partyOf(m)) {
                set |= 1 << m;
            }
        }
        return set;
    }

    private int refusalOfSay(int vote, int m) {
        if (!house.isVote(vote) || !house.isMember(m)) {
            return NOBODY;
        }
        return has(house.yesOf(vote) | house.noOf(vote), m) ? STATE : 0;
    }

    private boolean saysYes(int inRow, int vote, int m) {
        int code = cutIn(inRow, vote);
        boolean isLeft = has(Line.firstOnes(inRow, Line.placeOfCut(code)), m);
        return isLeft == Line.yesIsLeft(code);
    }

    private static boolean has(int set, int m) {
        return ((set >>> m) & 1) != 0;
    }

    /** The members, the votes, what is held and the points of the sheet: all that an image keeps. */
    private static final class House {
        private int memberCount = 0;
        private int voteCount = 0;
        private int heldCount = 0;
        private final int[] froms = new int[MOST_MEMBERS];
        private final int[] tos = new int[MOST_MEMBERS];
        private final int[] memberParties = new int[MOST_MEMBERS];
        private final int[] xs = new int[MOST_MEMBERS];
        private final int[] ys = new int[MOST_MEMBERS];
        private final int[] years = new int[MOST_VOTES];
        private final int[] yeses = new int[MOST_VOTES];
        private final int[] noes = new int[MOST_VOTES];
        private final int[] heldLess = new int[MOST_HELD];
        private final int[] heldMore = new int[MOST_HELD];

        void copyFrom(House other) {
            memberCount = other.memberCount;
            voteCount = other.voteCount;
            heldCount = other.heldCount;
            System.arraycopy(other.froms, 0, froms, 0, MOST_MEMBERS);
            System.arraycopy(other.tos, 0, tos, 0, MOST_MEMBERS);
            System.arraycopy(other.memberParties, 0, memberParties, 0, MOST_MEMBERS);
            System.arraycopy(other.xs, 0, xs, 0, MOST_MEMBERS);
            System.arraycopy(other.ys, 0, ys, 0, MOST_MEMBERS);
            System.arraycopy(other.years, 0, years, 0, MOST_VOTES);
            System.arraycopy(other.yeses, 0, yeses, 0, MOST_VOTES);
            System.arraycopy(other.noes, 0, noes, 0, MOST_VOTES);
            System.arraycopy(other.heldLess, 0, heldLess, 0, MOST_HELD);
            System.arraycopy(other.heldMore, 0, heldMore, 0, MOST_HELD);
        }

        int members() {
            return memberCount;
        }

        int votes() {
            return voteCount;
        }

        int held() {
            return heldCount;
        }

        boolean isMember(int m) {
            return m >= 0 && m < memberCount;
        }

        boolean isVote(int v) {
            return v >= 0 && v < voteCount;
        }

        boolean hasRoomForMember() {
            return memberCount < MOST_MEMBERS;
        }

        boolean hasRoomForVote() {
            return voteCount < MOST_VOTES;
        }

        boolean hasRoomForHeld() {
            return heldCount < MOST_HELD;
        }

        int everyone() {
            return (1 << memberCount) - 1;
        }

        int thoseOfYear(int year) {
            int set = 0;
            for (int m = 0; m < memberCount; m++) {
                if (froms[m] <= year && year <= tos[m]) {
                    set |= 1 << m;
                }
            }
            return set;
        }

        int addMember(int from, int to) {
            if (!hasRoomForMember()) {
                return NONE;
            }
            int m = memberCount;
            froms[m] = from;
            tos[m] = to;
            memberParties[m] = 0;
            xs[m] = 0;
            ys[m] = 0;
            memberCount++;
            return m;
        }

        int changeParty(int m, int p) {
            if (!isMember(m)) {
                return NONE;
            }
            int was = memberParties[m];
            memberParties[m] = p;
            return was;
        }

        int addVote(int year, int yes, int no) {
            if (!hasRoomForVote()) {
                return NONE;
            }
            int v = voteCount;
            years[v] = year;
            yeses[v] = yes;
            noes[v] = no;
            voteCount++;
            return v;
        }

        int dropVote() {
            if (voteCount > 0) {
                voteCount--;
            }
            return voteCount;
        }

        boolean isHeld(int a, int b) {
            for (int i = 0; i < heldCount; i++) {
                if (heldLess[i] == Math.min(a, b) && heldMore[i] == Math.max(a, b)) {
                    return true;
                }
            }
            return false;
        }

        int addHeld(int a, int b) {
            if (hasRoomForHeld()) {
                heldLess[heldCount] = Math.min(a, b);
                heldMore[heldCount] = Math.max(a, b);
                heldCount++;
            }
            return heldCount;
        }

        int dropHeld() {
            int were = heldCount;
            heldCount = 0;
            return were;
        }

        int heldEnds() {
            int set = 0;
            for (int i = 0; i < heldCount; i++) {
                if (heldLess[i] == AT_AN_END) {
                    set |= 1 << heldMore[i];
                }
            }
            return set;
        }

        int heldBeside(int m) {
            int set = 0;
            for (int i = 0; i < heldCount; i++) {
                if (heldLess[i] != AT_AN_END && heldLess[i] == m) {
                    set |= 1 << heldMore[i];
                }
                if (heldLess[i] != AT_AN_END && heldMore[i] == m) {
                    set |= 1 << heldLess[i];
                }
            }
            return set;
        }

        int partyOf(int m) {
            return isMember(m) ? memberParties[m] : 0;
        }

        int yearOf(int v) {
            return isVote(v) ? years[v] : 0;
        }

        int yesOf(int v) {
            return isVote(v) ? yeses[v] : 0;
        }

        int noOf(int v) {
            return isVote(v) ? noes[v] : 0;
        }

        int words() {
            int all = 0;
            for (int v = 0; v < voteCount; v++) {
                all += Integer.bitCount(yeses[v] | noes[v]);
            }
            return all;
        }

        int xOf(int m) {
            return isMember(m) ? xs[m] : 0;
        }

        int yOf(int m) {
            return isMember(m) ? ys[m] : 0;
        }

        void bring(int m, int x, int y) {
            if (isMember(m)) {
                xs[m] = x;
                ys[m] = y;
            }
        }
    }

    /**
     * A row is an int: the member at place i in the three bits from 3 * i on. A cut is the int
     * that the document asks for: 100 times the wrong ones, twice the place, and the side.
     */
    private static final class Line {
        static int at(int inRow, int place) {
            return (inRow >>> (3 * place)) & 7;
        }

        static int with(int inRow, int place, int m) {
            int ahead = inRow & ((1 << (3 * place)) - 1);
            int behind = inRow >>> (3 * place);
            return ahead | (m << (3 * place)) | (behind << (3 * place + 3));
        }

        static int without(int inRow, int place) {
            int ahead = inRow & ((1 << (3 * place)) - 1);
            int behind = inRow >>> (3 * place + 3);
            return ahead | (behind << (3 * place));
        }

        static int firstOnes(int inRow, int many) {
            int set = 0;
            for (int i = 0; i < many; i++) {
                set |= 1 << at(inRow, i);
            }
            return set;
        }

        static int bestCut(int inRow, int members, int yes, int no) {
            int voted = Integer.bitCount(yes | no);
            int left = 0;
            int best = MORE_THAN_ANY;
            for (int c = 0; c <= members; c++) {
                int yesLeft = Integer.bitCount(left & no) + Integer.bitCount(yes & ~left);
                best = Math.min(best, 100 * yesLeft + 2 * c);
                best = Math.min(best, 100 * (voted - yesLeft) + 2 * c + 1);
                left |= 1 << at(inRow, c);
            }
            return best;
        }

        static int placeOfCut(int code) {
            return (code % 100) / 2;
        }

        static boolean yesIsLeft(int code) {
            return code % 2 == 0;
        }
    }

    /** The text, and how it is read as a book into the house. */
    private static final class Book {
        private static final int MOST_BYTES = 90;

        private final House house;
        private final int[] text = new int[MOST_BYTES];
        private int length = 0;
        private int at = 0;
        private int fault = NONE;

        Book(House house) {
            this.house = house;
        }

        int size() {
            return length;
        }

        boolean hasRoom(int n) {
            return length + n <= MOST_BYTES;
        }

        int append(int n, long bytes) {
            for (int i = 0; i < n && length < MOST_BYTES; i++) {
                text[length] = (int) ((bytes >>> (8 * i)) & 255);
                length++;
            }
            return length;
        }

        int readAll() {
            at = 0;
            fault = NONE;
            int came = 0;
            for (int i = 0; i < MOST_BYTES && at < length && fault == NONE; i++) {
                statement();
                if (fault == NONE) {
                    came++;
                }
            }
            length = 0;
            return fault == NONE ? came : -20 - fault;
        }

        private void statement() {
            switch (next()) {
                case 'm':
                    memberStatement();
                    break;
                case 'v':
                    voteStatement();
                    break;
                case 'k':
                    heldStatement(false);
                    break;
                case 'e':
                    heldStatement(true);
                    break;
                case 'p':
                    partyStatement();
                    break;
                default:
                    fail(at);
            }
        }

        private void memberStatement() {
            letter(house.hasRoomForMember());
            int from = number();
            expect('-');
            int start = at;
            int to = number();
            if (to < from) {
                fail(start);
            }
            expect(';');
            if (fault == NONE) {
                house.addMember(from, to);
            }
        }

        private void voteStatement() {
            letter(house.hasRoomForVote());
            int year = number();
            expect(':');
            int present = house.thoseOfYear(year);
            int yes = 0;
            int no = 0;
            for (int m = 0; m < house.members(); m++) {
                int word = word(has(present, m));
                if (word == 'y') {
                    yes |= 1 << m;
                }
                if (word == 'n') {
                    no |= 1 << m;
                }
            }
            expect(';');
            if (fault == NONE) {
                house.addVote(year, yes, no);
            }
        }

        private void heldStatement(boolean isEnd) {
            letter(house.hasRoomForHeld());
            int a = digit(house.members());
            int b = AT_AN_END;
            if (!isEnd) {
                int secondDigit = at;
                b = digit(house.members());
                if (a == b) {
                    fail(secondDigit);
                }
            }
            expect(';');
            // What is held so already may be told again: that statement comes too, and adds nothing.
            if (fault == NONE && !house.isHeld(a, b)) {
                house.addHeld(a, b);
            }
        }

        private void partyStatement() {
            letter(true);
            int m = digit(house.members());
            int p = digit(PARTIES);
            expect(';');
            if (fault == NONE) {
                house.changeParty(m, p);
            }
        }

        // Only the first fault counts: what is read behind it is nothing and fails without a trace.
        private void fail(int place) {
            if (fault == NONE) {
                fault = place;
            }
        }

        private int next() {
            return at >= 0 && at < length ? text[at] : -1;
        }

        private void letter(boolean hasRoom) {
            if (!hasRoom) {
                fail(at);
            }
            at++;
        }

        private void expect(char sign) {
            if (next() != sign) {
                fail(at);
            }
            at++;
        }

        private int word(boolean mayVote) {
            int sign = next();
            boolean isVoted = sign == 'y' || sign == 'n';
            if (sign != 'a' && !(isVoted && mayVote)) {
                fail(at);
            }
            at++;
            return sign;
        }

        private int digit(int bound) {
            int value = next() - '0';
            if (value < 0 || value > 9 || value >= bound) {
                fail(at);
                return 0;
            }
            at++;
            return value;
        }

        private int number() {
            int value = digit(10);
            boolean isMore = next() >= '0' && next() <= '9';
            if (fault == NONE && value != 0 && isMore) {
                value = 10 * value + digit(10);
            }
            return value;
        }
    }

    /**
     * For each set of members on one side: which votes have one, two, three or more wrong by the
     * better of both ways to name the sides. No vote has more than three, as seven members at most
     * vote. So the votes that have as many wrong by every one of several sets are their common bits.
     */
    private static final class Sides {
        private final House house;
        private final int[] ones = new int[SETS_OF_MEMBERS];
        private final int[] twos = new int[SETS_OF_MEMBERS];
        private final int[] threes = new int[SETS_OF_MEMBERS];
        private boolean filled = false;
        private int one = 0;
        private int two = 0;
        private int three = 0;

        Sides(House house) {
            this.house = house;
        }

        void forget() {
            filled = false;
        }

        void refresh() {
            if (filled) {
                return;
            }
            for (int set = 0; set < SETS_OF_MEMBERS && set <= house.everyone(); set++) {
                fillSet(set);
            }
            filled = true;
        }

        void start() {
            one = -1;
            two = -1;
            three = -1;
        }

        void meet(int set) {
            if (set >= 0 && set < SETS_OF_MEMBERS) {
                one &= ones[set];
                two &= twos[set];
                three &= threes[set];
            }
        }

        void walk(int inRow) {
            start();
            int left = 0;
            meet(left);
            // All of them on the left parts them as none there does.
            for (int i = 0; i < house.members() - 1; i++) {
                left |= 1 << Line.at(inRow, i);
                meet(left);
            }
        }

        int total() {
            return Integer.bitCount(one) + Integer.bitCount(two) + Integer.bitCount(three);
        }

        int votesWrongBy(int many) {
            switch (many) {
                case 1:
                    return one;
                case 2:
                    return two;
                case 3:
                    return three;
                default:
                    return 0;
            }
        }

        int wrongsOf(int v) {
            return ((one >>> v) & 1) + ((two >>> v) & 1) + ((three >>> v) & 1);
        }

        private void fillSet(int set) {
            int withOne = 0;
            int withTwo = 0;
            int withThree = 0;
            for (int v = 0; v < house.votes(); v++) {
                int yes = house.yesOf(v);
                int no = house.noOf(v);
                int wrong = Integer.bitCount(set & no) + Integer.bitCount(yes & ~set);
                int least = Math.min(wrong, Integer.bitCount(yes | no) - wrong);
                withOne |= least >= 1 ? 1 << v : 0;
                withTwo |= least >= 2 ? 1 << v : 0;
                withThree |= least >= 3 ? 1 << v : 0;
            }
            ones[set] = withOne;
            twos[set] = withTwo;
            threes[set] = withThree;
        }
    }

    /** All rows of the members there are, how many each vote has wrong in them, and the best ones. */
    private static final class Rows {
        private static final int MOST_ROWS = 2520;

        private final House house;
        private final Sides sides;
        private final int[] all = new int[MOST_ROWS];
        private final int[] ones = new int[MOST_ROWS];
        private final int[] twos = new int[MOST_ROWS];
        private final int[] threes = new int[MOST_ROWS];
        private final int[] bests = new int[MOST_ROWS];
        private final int[] beside = new int[MOST_MEMBERS];
        private int ends = 0;
        private int listed = 0;
        private int listedMembers = -1;
        private boolean judged = false;
        private boolean sifted = false;
        private boolean knotKnown = false;
        private int bestCount = 0;
        private int least = 0;
        private int knotFound = 0;

        Rows(House house, Sides sides) {
            this.house = house;
            this.sides = sides;
        }

        void forgetWrongs() {
            judged = false;
            sifted = false;
            knotKnown = false;
        }

        void forgetBest() {
            sifted = false;
        }

        int bestOnes() {
            return bestCount;
        }

        int leastWrong() {
            return least;
        }

        int bestAt(int i) {
            return i >= 0 && i < bestCount ? bests[i] : 0;
        }

        int openOnes() {
            int set = 0;
            for (int i = 1; i < bestCount; i++) {
                for (int place = 0; place < house.members(); place++) {
                    int m = Line.at(bests[i], place);
                    if (m != Line.at(bests[0], place)) {
                        set |= 1 << m;
                    }
                }
            }
            return set;
        }

        int leastWrongOf(int votes) {
            int fewest = MORE_THAN_ANY;
            for (int i = 0; i < listed; i++) {
                int wrong = Integer.bitCount(ones[i] & votes) + Integer.bitCount(twos[i] & votes)
                    + Integer.bitCount(threes[i] & votes);
                fewest = Math.min(fewest, wrong);
            }
            return fewest;
        }

        int knotted() {
            if (!knotKnown) {
                knotFound = findKnot();
                knotKnown = true;
            }
            return knotFound;
        }

        private int findKnot() {
            for (int b = 1; b < house.votes(); b++) {
                int a = lowestThatCannotJoin(1 << b, b);
                if (a != 0) {
                    return a | (1 << b);
                }
            }
            for (int c = 2; c < house.votes(); c++) {
                for (int b = 1; b < c; b++) {
                    int a = lowestThatCannotJoin((1 << b) | (1 << c), b);
                    if (a != 0) {
                        return a | (1 << b) | (1 << c);
                    }
                }
            }
            return 0;
        }

        private int lowestThatCannotJoin(int votes, int below) {
            int lower = (1 << below) - 1;
            int joined = 0;
            for (int i = 0; i < listed && (lower & ~joined) != 0; i++) {
                if ((ones[i] & votes) == 0) {
                    joined |= ~ones[i];
                }
            }
            int missing = lower & ~joined;
            return missing & -missing;
        }

        void sift() {
            if (sifted) {
                return;
            }
            noteHeld();
            bestCount = 0;
            least = MORE_THAN_ANY;
            for (int i = 0; i < listed; i++) {
                int wrong = Integer.bitCount(ones[i]) + Integer.bitCount(twos[i]) + Integer.bitCount(threes[i]);
                if (wrong <= least && isAsHeld(all[i])) {
                    bestCount = wrong < least ? 0 : bestCount;
                    least = wrong;
                    bests[bestCount] = all[i];
                    bestCount++;
                }
            }
            sifted = true;
        }

        private void noteHeld() {
            ends = house.heldEnds();
            for (int m = 0; m < house.members() && m < MOST_MEMBERS; m++) {
                beside[m] = house.heldBeside(m);
            }
        }

        private boolean isAsHeld(int inRow) {
            int last = house.members() - 1;
            for (int i = 0; i <= last; i++) {
                int m = Line.at(inRow, i);
                int around = i > 0 ? 1 << Line.at(inRow, i - 1) : 0;
                around |= i < last ? 1 << Line.at(inRow, i + 1) : 0;
                int needed = m < MOST_MEMBERS ? beside[m] : 0;
                boolean isInside = i > 0 && i < last;
                if ((needed & ~around) != 0 || (isInside && has(ends, m))) {
                    return false;
                }
            }
            return true;
        }

        void judgeAll() {
            if (judged) {
                return;
            }
            for (int i = 0; i < listed; i++) {
                sides.walk(all[i]);
                ones[i] = sides.votesWrongBy(1);
                twos[i] = sides.votesWrongBy(2);
                threes[i] = sides.votesWrongBy(3);
            }
            judged = true;
        }

        void listAll() {
            if (listedMembers != house.members()) {
                listed = 0;
                extend(this, 0, 0, 0);
                listedMembers = house.members();
            }
        }

        // Goes down one level for each member. The lesser members come first, so the list is in order.
        private static void extend(Rows rows, int placed, int used, int inRow) {
            int members = rows.house.members();
            if (placed >= members || placed >= MOST_MEMBERS) {
                rows.keep(inRow);
                return;
            }
            for (int m = 0; m < members; m++) {
                if (!has(used, m)) {
                    extend(rows, placed + 1, used | (1 << m), Line.with(inRow, placed, m));
                }
            }
        }

        // A row and the same turned about are one: that with the lesser first member is kept.
        private void keep(int inRow) {
            int last = house.members() - 1;
            boolean isTurned = last > 0 && Line.at(inRow, 0) > Line.at(inRow, last);
            if (!isTurned && listed < MOST_ROWS) {
                all[listed] = inRow;
                listed++;
            }
        }
    }

    /** Where lines part the members on the sheet. */
    private static final class Sheet {
        private static final int SORTS = 4;
        private static final int PLACES_OF_LINE = 14;
        private static final int LEAST_PLACE = -4;

        private final House house;
        private final Sides sides;
        private final int[] standing = new int[PLACES_OF_LINE];

        Sheet(House house, Sides sides) {
            this.house = house;
            this.sides = sides;
        }

        int total() {
            sides.start();
            for (int sort = 0; sort < SORTS; sort++) {
                noteStanding(sort);
                int below = 0;
                for (int i = 0; i < PLACES_OF_LINE; i++) {
                    sides.meet(below);
                    below |= standing[i];
                }
            }
            return sides.total();
        }

        int bestLine(int yes, int no) {
            int voted = Integer.bitCount(yes | no);
            int best = MORE_THAN_ANY;
            for (int sort = 0; sort < SORTS; sort++) {
                noteStanding(sort);
                int below = 0;
                for (int i = 0; i < PLACES_OF_LINE; i++) {
                    int yesBelow = Integer.bitCount(below & no) + Integer.bitCount(yes & ~below);
                    best = Math.min(best, 1000 * yesBelow + 100 * sort + 2 * i);
                    best = Math.min(best, 1000 * (voted - yesBelow) + 100 * sort + 2 * i + 1);
                    below |= standing[i];
                }
            }
            return best;
        }

        void moveAll() {
            for (int m = 0; m < house.members(); m++) {
                moveOne(m);
            }
        }

        private void moveOne(int m) {
            int bestX = house.xOf(m);
            int bestY = house.yOf(m);
            int least = total();
            for (int y = 0; y < SIDE_OF_SHEET; y++) {
                for (int x = 0; x < SIDE_OF_SHEET; x++) {
                    house.bring(m, x, y);
                    int wrong = total();
                    if (wrong < least) {
                        least = wrong;
                        bestX = x;
                        bestY = y;
                    }
                }
            }
            house.bring(m, bestX, bestY);
        }

        // Who stands just at each place of a line of this sort: he is below the lines behind it.
        private void noteStanding(int sort) {
            for (int i = 0; i < PLACES_OF_LINE; i++) {
                standing[i] = 0;
            }
            for (int m = 0; m < house.members(); m++) {
                int i = measure(sort, house.xOf(m), house.yOf(m)) - LEAST_PLACE;
                if (i >= 0 && i < PLACES_OF_LINE) {
                    standing[i] |= 1 << m;
                }
            }
        }

        private static int measure(int sort, int x, int y) {
            switch (sort) {
                case 0:
                    return x;
                case 1:
                    return y;
                case 2:
                    return x + y;
                default:
                    return x - y;
            }
        }
    }

    /** The best move of one member of a row from a year on. */
    private static final class Moves {
        private static final int SCALE = 100000;

        private final House house;
        private final Sides sides;
        private final int[] before = new int[MOST_VOTES];
        private final int[] falls = new int[YEARS];
        private int bestKey = 0;

        Moves(House house, Sides sides) {
            this.house = house;
            this.sides = sides;
        }

        boolean find(int inRow) {
            sides.walk(inRow);
            for (int v = 0; v < house.votes() && v < MOST_VOTES; v++) {
                before[v] = sides.wrongsOf(v);
            }
            // A key: the fall, and behind it what is more for a lesser member, year, and place.
            bestKey = SCALE - 1;
            for (int from = 0; from < house.members(); from++) {
                int m = Line.at(inRow, from);
                int others = Line.without(inRow, from);
                for (int to = 0; to < house.members(); to++) {
                    if (to != from) {
                        tryMove(m, to, Line.with(others, to, m));
                    }
                }
            }
            return bestKey >= SCALE;
        }

        int fall() {
            return bestKey / SCALE;
        }

        int whose() {
            return code() / 10000;
        }

        int since() {
            return code() / 100 % 100;
        }

        int whither() {
            return code() % 100;
        }

        private int code() {
            return SCALE - 1 - bestKey % SCALE;
        }

        private void tryMove(int m, int to, int moved) {
            noteFalls(moved);
            int fallen = 0;
            for (int year = LAST_YEAR; year >= 0; year--) {
                fallen += falls[year];
                int key = fallen * SCALE + SCALE - 1 - (10000 * m + 100 * year + to);
                bestKey = Math.max(bestKey, key);
            }
        }

        private void noteFalls(int moved) {
            for (int year = 0; year < YEARS; year++) {
                falls[year] = 0;
            }
            sides.walk(moved);
            for (int v = 0; v < house.votes() && v < MOST_VOTES; v++) {
                int year = house.yearOf(v);
                if (year >= 0 && year < YEARS) {
                    falls[year] += before[v] - sides.wrongsOf(v);
                }
            }
        }
    }

    /** Votes dealt anew by lots. */
    private static final class Lots {
        private final House house;
        private int z = 0;

        Lots(House house) {
            this.house = house;
        }

        int booksWithin(int n, int seed, int inRow, int most) {
            z = seed;
            int within = 0;
            for (int i = 0; i < n; i++) {
                if (wrongOfNextBook(inRow) <= most) {
                    within++;
                }
            }
            return within;
        }

        private int wrongOfNextBook(int inRow) {
            int wrong = 0;
            for (int v = 0; v < house.votes(); v++) {
                int voted = house.yesOf(v) | house.noOf(v);
                int yes = deal(voted, Integer.bitCount(house.yesOf(v)));
                wrong += Line.bestCut(inRow, house.members(), yes, voted & ~yes) / 100;
            }
            return wrong;
        }

        private int deal(int voted, int yesOnes) {
            int left = Integer.bitCount(voted);
            int yesLeft = yesOnes;
            int yes = 0;
            for (int m = 0; m < house.members() && left > 0; m++) {
                if (has(voted, m)) {
                    z = z * 1103515245 + 12345;
                    if ((z >>> 8) % left < yesLeft) {
                        yes |= 1 << m;
                        yesLeft--;
                    }
                    left--;
                }
            }
            return yes;
        }
    }
}
