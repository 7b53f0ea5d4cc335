import java.util.ArrayList;
import java.util.Arrays;
import java.util.HashMap;
import java.util.List;
import java.util.Map;
import java.util.TreeMap;
import java.util.TreeSet;

/**
 * The document's answers once more, found in the slowest and plainest way: words as letters, every
 * order of the members, every cut counted member by member. CompareTest holds GalleryRows to it.
 */
final class PlainHouse {
    private static final class Fault extends Exception {
        private static final long serialVersionUID = 1L;
        final int place;

        Fault(int place) {
            super("fault at " + place);
            this.place = place;
        }
    }

    private static final class State {
        final List<int[]> years = new ArrayList<>();
        final List<Integer> partyOf = new ArrayList<>();
        final List<int[]> points = new ArrayList<>();
        final List<Integer> voteYears = new ArrayList<>();
        final List<String> words = new ArrayList<>();
        final List<List<Integer>> held = new ArrayList<>();

        State copy() {
            State c = new State();
            c.years.addAll(years);
            c.partyOf.addAll(partyOf);
            for (int[] p : points) {
                c.points.add(p.clone());
            }
            c.voteYears.addAll(voteYears);
            c.words.addAll(words);
            c.held.addAll(held);
            return c;
        }
    }

    private State now = new State();
    private State image = null;
    private StringBuilder text = new StringBuilder();
    private final List<Integer> hand = new ArrayList<>();
    private final Map<Integer, Integer> refused = new HashMap<>();
    private List<int[]> bestMemory = null;
    private Integer knotMemory = null;

    private int refuse(int number) {
        refused.merge(number, 1, Integer::sum);
        return number;
    }

    private void changed() {
        bestMemory = null;
        knotMemory = null;
    }

    private int members() {
        return now.years.size();
    }

    private int votes() {
        return now.words.size();
    }

    private boolean noMember(int m) {
        return m < 0 || m >= members();
    }

    private boolean noVote(int v) {
        return v < 0 || v >= votes();
    }

    private char wordOf(int v, int m) {
        String words = now.words.get(v);
        return m < words.length() ? words.charAt(m) : 'a';
    }

    private boolean isOfYear(int m, int year) {
        return year >= now.years.get(m)[0] && year <= now.years.get(m)[1];
    }

    // Texts

    int feed(int n, long bytes) {
        if (n < 1) {
            return refuse(-4);
        }
        if (n > 8 || text.length() + n > 90) {
            return refuse(-6);
        }
        long rest = bytes;
        for (int i = 0; i < n; i++) {
            text.append((char) (rest & 0xff));
            rest >>= 8;
        }
        return text.length();
    }

    int read() {
        String book = text.toString();
        text = new StringBuilder();
        changed();
        int came = 0;
        int at = 0;
        try {
            while (at < book.length()) {
                at = readOne(book, at);
                came++;
            }
        } catch (Fault fault) {
            return -20 - fault.place;
        }
        return came;
    }

    private static void need(boolean good, int place) throws Fault {
        if (!good) {
            throw new Fault(place);
        }
    }

    private static char sign(String book, int at) throws Fault {
        need(at < book.length(), book.length());
        return book.charAt(at);
    }

    private static int behindNumber(String book, int at) throws Fault {
        need(Character.isDigit(sign(book, at)) && sign(book, at) < 128, at);
        boolean two = sign(book, at) != '0' && at + 1 < book.length()
            && "0123456789".indexOf(book.charAt(at + 1)) >= 0;
        return two ? at + 2 : at + 1;
    }

    private static void needSign(String book, int at, char sign) throws Fault {
        need(sign(book, at) == sign, at);
    }

    private int readOne(String book, int at) throws Fault {
        char letter = sign(book, at);
        need("mvkep".indexOf(letter) >= 0, at);
        if (letter == 'm') {
            need(members() < 7, at);
            int dash = behindNumber(book, at + 1);
            needSign(book, dash, '-');
            int end = behindNumber(book, dash + 1);
            int from = Integer.parseInt(book.substring(at + 1, dash));
            int to = Integer.parseInt(book.substring(dash + 1, end));
            need(from <= to, dash + 1);
            needSign(book, end, ';');
            joined(from, to);
            return end + 1;
        }
        if (letter == 'v') {
            need(votes() < 24, at);
            int colon = behindNumber(book, at + 1);
            needSign(book, colon, ':');
            int year = Integer.parseInt(book.substring(at + 1, colon));
            for (int m = 0; m < members(); m++) {
                char word = sign(book, colon + 1 + m);
                need(word == 'a' || ((word == 'y' || word == 'n') && isOfYear(m, year)), colon + 1 + m);
            }
            int end = colon + 1 + members();
            needSign(book, end, ';');
            now.voteYears.add(year);
            now.words.add(book.substring(colon + 1, end));
            return end + 1;
        }
        if (letter == 'p') {
            int m = sign(book, at + 1) - '0';
            need(!noMember(m), at + 1);
            int p = sign(book, at + 2) - '0';
            need(p >= 0 && p <= 3, at + 2);
            needSign(book, at + 3, ';');
            now.partyOf.set(m, p);
            return at + 4;
        }
        need(now.held.size() < 10, at);
        int a = sign(book, at + 1) - '0';
        need(!noMember(a), at + 1);
        int b = -1;
        if (letter == 'k') {
            b = sign(book, at + 2) - '0';
            need(!noMember(b) && b != a, at + 2);
        }
        int end = letter == 'k' ? at + 3 : at + 2;
        needSign(book, end, ';');
        if (!isHeld(a, b)) {
            now.held.add(Arrays.asList(a, b));
        }
        return end + 1;
    }

    private void joined(int from, int to) {
        now.years.add(new int[] {from, to});
        now.partyOf.add(0);
        now.points.add(new int[] {0, 0});
    }

    private boolean isHeld(int a, int b) {
        return now.held.contains(Arrays.asList(a, b)) || now.held.contains(Arrays.asList(b, a));
    }

    // Members, votes, held ones

    int member(int from, int to) {
        if (from < 0 || to < 0) {
            return refuse(-4);
        }
        if (from > 99 || to > 99 || members() == 7) {
            return refuse(-6);
        }
        if (to < from) {
            return refuse(-3);
        }
        joined(from, to);
        changed();
        return members() - 1;
    }

    int party(int m, int p) {
        if (noMember(m)) {
            return refuse(-1);
        }
        if (p < 0) {
            return refuse(-4);
        }
        if (p > 3) {
            return refuse(-6);
        }
        return now.partyOf.set(m, p);
    }

    int vote(int year, int yes, int no) {
        if (year < 0 || yes < 0 || no < 0) {
            return refuse(-4);
        }
        if (year > 99 || votes() == 24) {
            return refuse(-6);
        }
        if (yes >= 1 << members() || no >= 1 << members()) {
            return refuse(-1);
        }
        StringBuilder words = new StringBuilder();
        for (int m = 0; m < members(); m++) {
            boolean isYes = (yes & (1 << m)) != 0;
            boolean isNo = (no & (1 << m)) != 0;
            if ((isYes && isNo) || ((isYes || isNo) && !isOfYear(m, year))) {
                return refuse(-3);
            }
            words.append(isYes ? 'y' : isNo ? 'n' : 'a');
        }
        now.voteYears.add(year);
        now.words.add(words.toString());
        changed();
        return votes() - 1;
    }

    int of(int vote, int what) {
        if (noVote(vote)) {
            return refuse(-1);
        }
        if (what == 0) {
            return now.voteYears.get(vote);
        }
        if (what != 1 && what != 2) {
            return refuse(-2);
        }
        int set = 0;
        for (int m = 0; m < members(); m++) {
            set += wordOf(vote, m) == (what == 1 ? 'y' : 'n') ? 1 << m : 0;
        }
        return set;
    }

    int takeOut() {
        if (votes() == 0) {
            return refuse(-3);
        }
        now.words.remove(votes() - 1);
        now.voteYears.remove(now.voteYears.size() - 1);
        changed();
        return votes();
    }

    int hold(int a, int b) {
        if (noMember(a) || (b != -1 && noMember(b)) || a == b) {
            return refuse(-1);
        }
        if (isHeld(a, b)) {
            return refuse(-3);
        }
        if (now.held.size() == 10) {
            return refuse(-6);
        }
        now.held.add(Arrays.asList(a, b));
        changed();
        return now.held.size();
    }

    int free() {
        int were = now.held.size();
        now.held.clear();
        changed();
        return were;
    }

    int apart(int a, int b) {
        if (noMember(a) || noMember(b)) {
            return refuse(-1);
        }
        int unlike = 0;
        for (int v = 0; v < votes(); v++) {
            String both = "" + wordOf(v, a) + wordOf(v, b);
            unlike += both.equals("yn") || both.equals("ny") ? 1 : 0;
        }
        return unlike;
    }

    // Rows

    /** The wrong ones of a vote's words in a row, by the cut at c and the side. */
    private static List<Integer> wrongBy(String words, int[] row, int c, int side) {
        List<Integer> wrong = new ArrayList<>();
        for (int place = 0; place < row.length; place++) {
            char word = row[place] < words.length() ? words.charAt(row[place]) : 'a';
            boolean isLeft = place < c;
            char due = isLeft == (side == 0) ? 'y' : 'n';
            if (word != 'a' && word != due) {
                wrong.add(row[place]);
            }
        }
        return wrong;
    }

    /** Wrong ones, place, side of the best cut. */
    private static int[] bestCut(String words, int[] row) {
        int[] best = null;
        for (int c = 0; c <= row.length; c++) {
            for (int side = 0; side < 2; side++) {
                int wrong = 0;
                for (int place = 0; place < row.length; place++) {
                    char word = row[place] < words.length() ? words.charAt(row[place]) : 'a';
                    wrong += word == (place < c == (side == 0) ? 'n' : 'y') ? 1 : 0;
                }
                if (best == null || wrong < best[0]) {
                    best = new int[] {wrong, c, side};
                }
            }
        }
        return best;
    }

    private int wrongOfRow(int[] row) {
        int all = 0;
        for (String words : now.words) {
            all += bestCut(words, row)[0];
        }
        return all;
    }

    private static void orders(int n, List<Integer> begun, List<int[]> all) {
        if (begun.size() == n) {
            all.add(begun.stream().mapToInt(Integer::intValue).toArray());
            return;
        }
        for (int m = 0; m < n; m++) {
            if (!begun.contains(m)) {
                begun.add(m);
                orders(n, begun, all);
                begun.remove(begun.size() - 1);
            }
        }
    }

    private List<int[]> orders() {
        List<int[]> all = new ArrayList<>();
        orders(members(), new ArrayList<>(), all);
        return all;
    }

    private static int placeIn(int[] row, int m) {
        for (int i = 0; i < row.length; i++) {
            if (row[i] == m) {
                return i;
            }
        }
        return -1;
    }

    private boolean isAsHeld(int[] row) {
        for (List<Integer> pair : now.held) {
            int a = placeIn(row, pair.get(0));
            if (pair.get(1) == -1 ? a != 0 && a != row.length - 1
                : Math.abs(a - placeIn(row, pair.get(1))) != 1) {
                return false;
            }
        }
        return true;
    }

    private List<int[]> bests() {
        if (bestMemory == null) {
            TreeMap<Integer, List<int[]>> byWrong = new TreeMap<>();
            for (int[] row : orders()) {
                boolean counts = row.length < 2 || row[0] < row[row.length - 1];
                if (counts && isAsHeld(row)) {
                    byWrong.computeIfAbsent(wrongOfRow(row), k -> new ArrayList<>()).add(row);
                }
            }
            bestMemory = byWrong.isEmpty() ? new ArrayList<>() : byWrong.firstEntry().getValue();
            bestMemory.sort(Arrays::compare);
        }
        return bestMemory;
    }

    private int[] handRow() {
        return hand.stream().mapToInt(Integer::intValue).toArray();
    }

    int put(int m) {
        if (noMember(m)) {
            return refuse(-1);
        }
        if (hand.contains(m)) {
            return refuse(-3);
        }
        hand.add(m);
        return hand.size();
    }

    int judge() {
        if (hand.size() != members()) {
            return refuse(-3);
        }
        int wrong = wrongOfRow(handRow());
        hand.clear();
        return wrong;
    }

    int cut(int vote) {
        if (noVote(vote)) {
            return refuse(-1);
        }
        if (hand.size() != members()) {
            return refuse(-3);
        }
        int[] cut = bestCut(now.words.get(vote), handRow());
        return 100 * cut[0] + 2 * cut[1] + cut[2];
    }

    int wrong(int vote) {
        if (noVote(vote)) {
            return refuse(-1);
        }
        if (hand.size() != members()) {
            return refuse(-3);
        }
        int[] cut = bestCut(now.words.get(vote), handRow());
        return wrongBy(now.words.get(vote), handRow(), cut[1], cut[2]).stream().mapToInt(m -> 1 << m).sum();
    }

    int best(int what) {
        if (what < 0 || what > 1) {
            return refuse(-2);
        }
        if (bests().isEmpty()) {
            return -9;
        }
        return what == 1 ? bests().size() : wrongOfRow(bests().get(0));
    }

    int row(int i, int place) {
        if (i < 0 || i >= bests().size() || place < 0 || place >= members()) {
            return -9;
        }
        return bests().get(i)[place];
    }

    int open() {
        if (bests().isEmpty()) {
            return -9;
        }
        int set = 0;
        for (int m = 0; m < members(); m++) {
            final int one = m;
            set += bests().stream().mapToInt(row -> placeIn(row, one)).distinct().count() > 1 ? 1 << m : 0;
        }
        return set;
    }

    int knot() {
        if (knotMemory == null) {
            knotMemory = findKnot();
        }
        return knotMemory;
    }

    private int findKnot() {
        TreeSet<Integer> goods = new TreeSet<>();
        for (int[] row : orders()) {
            int good = 0;
            for (int v = 0; v < votes(); v++) {
                good |= bestCut(now.words.get(v), row)[0] == 0 ? 1 << v : 0;
            }
            goods.add(good);
        }
        int best = -9;
        for (int many = 1; many <= 3 && best == -9; many++) {
            best = leastKnot(many, goods);
        }
        return best;
    }

    private int leastKnot(int many, TreeSet<Integer> goods) {
        int least = -9;
        for (int a = 0; a < votes(); a++) {
            for (int b = a; b < votes(); b++) {
                for (int c = b; c < votes(); c++) {
                    int set = 1 << a | 1 << b | 1 << c;
                    boolean isSmaller = least == -9 || set < least;
                    if (Integer.bitCount(set) == many && isSmaller
                        && goods.stream().noneMatch(good -> (good & set) == set)) {
                        least = set;
                    }
                }
            }
        }
        return least;
    }

    int chance(int n, int z) {
        if (n < 1) {
            return refuse(-4);
        }
        if (n > 20) {
            return refuse(-6);
        }
        if (bests().isEmpty()) {
            return -9;
        }
        int[] first = bests().get(0);
        int asNow = wrongOfRow(first);
        int few = 0;
        int seed = z;
        for (int book = 0; book < n; book++) {
            int wrong = 0;
            for (String words : now.words) {
                char[] dealt = words.toCharArray();
                long left = words.chars().filter(w -> w != 'a').count();
                long yesLeft = words.chars().filter(w -> w == 'y').count();
                for (int m = 0; m < dealt.length; m++) {
                    if (dealt[m] != 'a') {
                        seed = seed * 1103515245 + 12345;
                        boolean isYes = (seed >>> 8) % left < yesLeft;
                        dealt[m] = isYes ? 'y' : 'n';
                        yesLeft -= isYes ? 1 : 0;
                        left--;
                    }
                }
                wrong += bestCut(new String(dealt), first)[0];
            }
            few += wrong <= asNow ? 1 : 0;
        }
        return few;
    }

    // The sheet

    int place(int m, int x, int y) {
        if (noMember(m)) {
            return refuse(-1);
        }
        if (x < 0 || y < 0) {
            return refuse(-4);
        }
        if (x > 4 || y > 4) {
            return refuse(-6);
        }
        int[] was = now.points.set(m, new int[] {x, y});
        return 5 * was[0] + was[1];
    }

    int line(int vote) {
        if (noVote(vote)) {
            return refuse(-1);
        }
        return bestLine(vote);
    }

    private int bestLine(int vote) {
        int fewest = 99;
        int answer = 0;
        for (int sort = 0; sort < 4; sort++) {
            for (int c = -4; c <= 9; c++) {
                for (int above = 0; above < 2; above++) {
                    int wrong = 0;
                    for (int m = 0; m < members(); m++) {
                        int x = now.points.get(m)[0];
                        int y = now.points.get(m)[1];
                        int value = sort == 0 ? x : sort == 1 ? y : sort == 2 ? x + y : x - y;
                        char due = (value < c) == (above == 0) ? 'y' : 'n';
                        wrong += wordOf(vote, m) != 'a' && wordOf(vote, m) != due ? 1 : 0;
                    }
                    if (wrong < fewest) {
                        fewest = wrong;
                        answer = 1000 * wrong + 100 * sort + 2 * (c + 4) + above;
                    }
                }
            }
        }
        return answer;
    }

    int sheet() {
        int all = 0;
        for (int v = 0; v < votes(); v++) {
            all += bestLine(v) / 1000;
        }
        return all;
    }

    int turn() {
        for (int m = 0; m < members(); m++) {
            int[] own = now.points.get(m);
            int[] best = own;
            int least = sheet();
            for (int point = 0; point < 25; point++) {
                int[] other = {point % 5, point / 5};
                now.points.set(m, other);
                int wrong = sheet();
                if (wrong < least) {
                    least = wrong;
                    best = other;
                }
            }
            now.points.set(m, best);
        }
        return sheet();
    }

    // Odd votes, moves, parties, those who were away

    int odd(int many) {
        if (many < 1) {
            return refuse(-4);
        }
        if (many > 3) {
            return refuse(-6);
        }
        if (bests().isEmpty()) {
            return -9;
        }
        int set = 0;
        for (int v = 0; v < votes(); v++) {
            set |= bestCut(now.words.get(v), bests().get(0))[0] >= many ? 1 << v : 0;
        }
        return set;
    }

    int second(int many) {
        int odd = odd(many);
        if (odd < 0) {
            return odd;
        }
        int least = Integer.MAX_VALUE;
        for (int[] row : orders()) {
            int wrong = 0;
            for (int v = 0; v < votes(); v++) {
                wrong += (odd >> v & 1) == 1 ? bestCut(now.words.get(v), row)[0] : 0;
            }
            least = Math.min(least, wrong);
        }
        return least;
    }

    int move(int what) {
        if (what < 0 || what > 3) {
            return refuse(-2);
        }
        if (bests().isEmpty()) {
            return -9;
        }
        int[] before = wrongs(bests().get(0));
        int[] best = {0, -9, -9, -9};
        for (int m = 0; m < members(); m++) {
            List<int[]> after = new ArrayList<>();
            for (int place = 0; place < members(); place++) {
                after.add(wrongs(moved(m, place)));
            }
            for (int year = 0; year < 100; year++) {
                for (int place = 0; place < members(); place++) {
                    int fall = fallFrom(year, before, after.get(place));
                    if (fall > best[0]) {
                        best = new int[] {fall, m, year, place};
                    }
                }
            }
        }
        return best[0] == 0 ? -9 : best[what];
    }

    private int[] wrongs(int[] row) {
        return now.words.stream().mapToInt(words -> bestCut(words, row)[0]).toArray();
    }

    private int[] moved(int m, int place) {
        List<Integer> moved = new ArrayList<>();
        for (int other : bests().get(0)) {
            if (other != m) {
                moved.add(other);
            }
        }
        moved.add(place, m);
        return moved.stream().mapToInt(Integer::intValue).toArray();
    }

    private int fallFrom(int year, int[] before, int[] after) {
        int fall = 0;
        for (int v = 0; v < votes(); v++) {
            fall += now.voteYears.get(v) >= year ? before[v] - after[v] : 0;
        }
        return fall;
    }

    private String partiesInFirst() {
        StringBuilder signs = new StringBuilder();
        for (int m : bests().get(0)) {
            signs.append(now.partyOf.get(m));
        }
        return signs.toString();
    }

    private int runsOf(int p) {
        String others = partiesInFirst().replaceAll("[^" + p + "]+", " ").trim();
        return others.isEmpty() ? 0 : others.split(" ").length;
    }

    int stretches(int p) {
        if (p < 0 || p > 3) {
            return refuse(-1);
        }
        return bests().isEmpty() ? -9 : runsOf(p);
    }

    int parties(int what) {
        if (what != 0 && what != 1) {
            return refuse(-2);
        }
        if (bests().isEmpty()) {
            return -9;
        }
        if (what == 0) {
            for (int runs = 7; runs >= 2; runs--) {
                for (int p = 0; p < 4; p++) {
                    if (runsOf(p) == runs) {
                        return p;
                    }
                }
            }
            return -9;
        }
        int set = 0;
        String signs = partiesInFirst();
        for (int i = 0; i + 3 <= signs.length(); i++) {
            set += signs.substring(i, i + 3).matches("(.)(?!\\1).\\1") ? 1 << bests().get(0)[i + 1] : 0;
        }
        return set;
    }

    private int refusalOfSay(int vote, int m) {
        if (noVote(vote) || noMember(m)) {
            return refuse(-1);
        }
        return wordOf(vote, m) == 'a' ? 0 : refuse(-3);
    }

    private int sayIn(int[] row, int vote, int m) {
        int[] cut = bestCut(now.words.get(vote), row);
        boolean isLeft = placeIn(row, m) < cut[1];
        boolean yesIsLeft = cut[2] == 0;
        return isLeft == yesIsLeft ? 1 : 0;
    }

    int say(int vote, int m) {
        int number = refusalOfSay(vote, m);
        if (number != 0) {
            return number;
        }
        return bests().isEmpty() ? -9 : sayIn(bests().get(0), vote, m);
    }

    int sure(int vote, int m) {
        int number = refusalOfSay(vote, m);
        if (number != 0) {
            return number;
        }
        if (bests().isEmpty()) {
            return -9;
        }
        return bests().stream().mapToInt(row -> sayIn(row, vote, m)).distinct().count() == 1 ? 1 : 0;
    }

    // The image

    int image() {
        image = now.copy();
        return votes();
    }

    int restore() {
        if (image == null) {
            return refuse(-3);
        }
        now = image.copy();
        hand.clear();
        changed();
        return votes();
    }

    int count(int what) {
        switch (what) {
            case 0:
                return members();
            case 1:
                return votes();
            case 2:
                return now.held.size();
            case 3:
                return hand.size();
            case 4:
                return text.length();
            case 5:
                return String.join("", now.words).replace("a", "").length();
            case 11:
            case 12:
            case 13:
            case 14:
            case 15:
            case 16:
                return refused.getOrDefault(10 - what, 0);
            default:
                return -9;
        }
    }
}
