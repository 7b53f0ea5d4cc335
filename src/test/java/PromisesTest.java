/** For each promise of the document: ordinary answers, the edges that it names, and refusals. */
public final class PromisesTest {
    private static int wrong = 0;
    private static String promise = "";

    public static void main(String[] args) {
        newObject();
        feed();
        readStatements();
        readFaultsOfForm();
        readFaultsOfSense();
        readWhatIsHeldAlready();
        readFaultsOfRoom();
        member();
        party();
        vote();
        of();
        takeOut();
        hold();
        free();
        apart();
        put();
        judge();
        cut();
        wrongOnes();
        best();
        row();
        open();
        knot();
        chance();
        place();
        line();
        sheet();
        turn();
        odd();
        second();
        move();
        stretches();
        parties();
        say();
        sure();
        image();
        restore();
        count();
        refusalsChangeNothing();
        dearestCalls();
        System.out.println(wrong == 0 ? "PromisesTest: all as due" : "PromisesTest: " + wrong + " not as due");
        if (wrong != 0) {
            System.exit(1);
        }
    }

    private static void due(String call, int got, int want) {
        if (got != want) {
            wrong++;
            System.out.println("promise " + promise + ": " + call + " answered " + got + ", due is " + want);
        }
    }

    private static GalleryRows house(int members) {
        GalleryRows x = new GalleryRows();
        for (int m = 0; m < members; m++) {
            x.member(0, 99);
        }
        return x;
    }

    private static void feedText(GalleryRows x, String text) {
        for (int at = 0; at < text.length(); at += 8) {
            int n = Math.min(8, text.length() - at);
            long bytes = 0;
            for (int i = n - 1; i >= 0; i--) {
                bytes = bytes << 8 | text.charAt(at + i);
            }
            x.feed(n, bytes);
        }
    }

    private static int readText(GalleryRows x, String text) {
        feedText(x, text);
        return x.read();
    }

    private static void dueRead(GalleryRows x, String text, int want) {
        due("read of '" + text + "'", readText(x, text), want);
    }

    private static void putAll(GalleryRows x, int... members) {
        for (int m : members) {
            x.put(m);
        }
    }

    private static void dueRow(GalleryRows x, int i, int... members) {
        for (int place = 0; place < members.length; place++) {
            due("row(" + i + ", " + place + ")", x.row(i, place), members[place]);
        }
    }

    private static void newObject() {
        promise = "1";
        GalleryRows x = new GalleryRows();
        for (int what = 0; what <= 5; what++) {
            due("count(" + what + ")", x.count(what), 0);
        }
        for (int what = 11; what <= 16; what++) {
            due("count(" + what + ")", x.count(what), 0);
        }
        due("best(0)", x.best(0), 0);
        due("best(1)", x.best(1), 1);
        due("restore()", x.restore(), -3);
    }

    private static void feed() {
        promise = "2";
        GalleryRows x = new GalleryRows();
        due("feed(0, 0)", x.feed(0, 0), -4);
        due("feed(min, 0)", x.feed(Integer.MIN_VALUE, 0), -4);
        due("feed(9, 0)", x.feed(9, 0), -6);
        due("feed(max, 0)", x.feed(Integer.MAX_VALUE, 0), -6);
        due("feed(3, m0-)", x.feed(3, 'm' | '0' << 8 | '-' << 16 | 'x' << 24), 3);
        due("feed(2, 9;)", x.feed(2, '9' | ';' << 8 | -1L << 16), 5);
        due("read()", x.read(), 1);
        for (int i = 1; i <= 11; i++) {
            due("feed(8, 0)", x.feed(8, 0), 8 * i);
        }
        due("feed(3, 0)", x.feed(3, 0), -6);
        due("count(4)", x.count(4), 88);
        due("feed(2, 0)", x.feed(2, 0), 90);
        due("feed(1, 0)", x.feed(1, 0), -6);
        due("feed(0, 0)", x.feed(0, 0), -4);
        due("count(4)", x.count(4), 90);
        due("read()", x.read(), -20);
        due("feed(1, 200)", x.feed(1, -1), 1);
        due("read()", x.read(), -20);
    }

    private static void readStatements() {
        promise = "3";
        GalleryRows x = new GalleryRows();
        dueRead(x, "", 0);
        dueRead(x, "m0-99;m10-20;v5:ya;v15:ny;k01;e1;p12;p12;", 8);
        due("count(4)", x.count(4), 0);
        due("of(0, 0)", x.of(0, 0), 5);
        due("of(0, 1)", x.of(0, 1), 1);
        due("of(0, 2)", x.of(0, 2), 0);
        due("of(1, 0)", x.of(1, 0), 15);
        due("of(1, 1)", x.of(1, 1), 2);
        due("of(1, 2)", x.of(1, 2), 1);
        due("hold(1, 0)", x.hold(1, 0), -3);
        due("hold(1, -1)", x.hold(1, -1), -3);
        due("party(1, 0)", x.party(1, 0), 2);
        dueRead(x, "m5-5;v5:nay;", 2);
        due("of(2, 1)", x.of(2, 1), 4);
        due("of(1, 1)", x.of(1, 1), 2);
        GalleryRows none = new GalleryRows();
        dueRead(none, "v0:;v99:;", 2);
        due("of(1, 0)", none.of(1, 0), 99);
        due("of(1, 1)", none.of(1, 1), 0);
    }

    private static void readFaultsOfForm() {
        GalleryRows x = house(2);
        dueRead(x, "x", -20);
        dueRead(x, ";", -20);
        dueRead(x, "m", -21);
        dueRead(x, "mm", -21);
        dueRead(x, "m1", -22);
        dueRead(x, "m1;", -22);
        dueRead(x, "m12", -23);
        dueRead(x, "m123-5;", -23);
        dueRead(x, "m05-9;", -22);
        dueRead(x, "m00-9;", -22);
        dueRead(x, "m1-", -23);
        dueRead(x, "m1-;", -23);
        dueRead(x, "m1-05;", -23);
        dueRead(x, "m0-05;", -24);
        dueRead(x, "m1-2", -24);
        dueRead(x, "m1-22", -25);
        dueRead(x, "m1-100;", -25);
        dueRead(x, "v", -21);
        dueRead(x, "v:", -21);
        dueRead(x, "v01:yy;", -22);
        dueRead(x, "v1yy;", -22);
        dueRead(x, "v1:y", -24);
        dueRead(x, "v1:y;", -24);
        dueRead(x, "v1:yx;", -24);
        dueRead(x, "v1:yyy;", -25);
        dueRead(x, "v1:yy", -25);
        dueRead(x, "k", -21);
        dueRead(x, "k0", -22);
        dueRead(x, "kx1;", -21);
        dueRead(x, "k0x;", -22);
        dueRead(x, "k01", -23);
        dueRead(x, "e", -21);
        dueRead(x, "e1", -22);
        dueRead(x, "e1x", -22);
        dueRead(x, "p", -21);
        dueRead(x, "p0", -22);
        dueRead(x, "p01", -23);
        dueRead(x, "p01;;", -24);
        dueRead(x, "p00;M", -24);
        dueRead(x, "m1-\u00b3;", -23);
        due("count(0)", x.count(0), 2);
        due("count(1)", x.count(1), 0);
        due("count(2)", x.count(2), 0);
    }

    private static void readFaultsOfSense() {
        GalleryRows x = new GalleryRows();
        dueRead(x, "m0-9;m5-30;", 2);
        dueRead(x, "m9-8;", -23);
        dueRead(x, "m50-3;", -24);
        dueRead(x, "m50-49;", -24);
        dueRead(x, "m50-3x", -24);
        dueRead(x, "v10:yy;", -24);
        dueRead(x, "v4:yn;", -24);
        dueRead(x, "v31:an;", -25);
        dueRead(x, "v31:aa;", 1);
        dueRead(x, "k02;", -22);
        dueRead(x, "k20;", -21);
        dueRead(x, "k11;", -22);
        dueRead(x, "e2;", -21);
        dueRead(x, "p20;", -21);
        dueRead(x, "p04;", -22);
        dueRead(x, "k01;e0;", 2);
        dueRead(x, "e1;e1;", 2);
        due("count(2)", x.count(2), 3);
        dueRead(x, "v6:yn;m1-2;v3:yan;", -36);
        due("count(0)", x.count(0), 3);
        due("count(1)", x.count(1), 2);
        due("count(14)", x.count(14), 0);
        due("count(13)", x.count(13), 0);
    }

    private static void readWhatIsHeldAlready() {
        GalleryRows x = house(4);
        x.hold(0, -1);
        dueRead(x, "e0", -22);
        dueRead(x, "e0;", 1);
        dueRead(x, "e0;e0;e0x", -28);
        dueRead(x, "k12;k21;k12;", 3);
        due("count(2)", x.count(2), 2);
        dueRead(x, "k21", -23);
        dueRead(x, "k21k", -23);
        dueRead(x, "k21;p01;m5-4;", -31);
        dueRead(x, "e1;e0;k01;", 3);
        due("count(2)", x.count(2), 4);
        due("best(1)", x.best(1), -9);
        due("free()", x.free(), 4);
        dueRead(x, "k12;k21;e0;e0;", 4);
        due("best(1)", x.best(1), 4);
        due("hold(2, 1)", x.hold(2, 1), -3);
        dueRead(x, "k01;k02;k03;k13;k23;e1;e2;e2;k30;", 9);
        due("count(2)", x.count(2), 9);
        dueRead(x, "e3;e3;", -23);
        due("count(2)", x.count(2), 10);
    }

    private static void readFaultsOfRoom() {
        GalleryRows x = new GalleryRows();
        dueRead(x, "m0-9;m0-9;m0-9;m0-9;m0-9;m0-9;m0-9;m0-9;", -55);
        dueRead(x, "p60;m", -24);
        dueRead(x, "k06;k01;k02;k03;k04;k05;k12;k13;k14;", 9);
        dueRead(x, "e0;e1;", -23);
        dueRead(x, "k06;", -20);
        dueRead(x, "k60", -20);
        dueRead(x, "p01;e0;", -24);
        dueRead(x, "e", -20);
        due("count(2)", x.count(2), 10);
        due("free()", x.free(), 10);
        dueRead(x, "k06;e0;k60;e0;", 4);
        due("count(2)", x.count(2), 2);
        for (int i = 0; i < 23; i++) {
            x.vote(i, 0, 0);
        }
        dueRead(x, "v9:ynaynay;v9:ynaynay;", -31);
        dueRead(x, "v", -20);
        due("count(1)", x.count(1), 24);
        due("count(16)", x.count(16), 0);
    }

    private static void member() {
        promise = "4";
        GalleryRows x = new GalleryRows();
        due("member(-1, 0)", x.member(-1, 0), -4);
        due("member(0, -1)", x.member(0, -1), -4);
        due("member(100, -1)", x.member(100, -1), -4);
        due("member(100, 0)", x.member(100, 0), -6);
        due("member(0, 100)", x.member(0, 100), -6);
        due("member(1, 0)", x.member(1, 0), -3);
        due("member(0, 0)", x.member(0, 0), 0);
        due("member(99, 99)", x.member(99, 99), 1);
        for (int m = 2; m < 7; m++) {
            due("member(0, 99)", x.member(0, 99), m);
        }
        due("member(0, 99)", x.member(0, 99), -6);
        due("member(9, 5)", x.member(9, 5), -6);
        due("member(-1, 99)", x.member(-1, 99), -4);
        due("count(0)", x.count(0), 7);
        due("vote(0, 1, 0)", x.vote(0, 1, 0), 0);
        due("vote(1, 1, 0)", x.vote(1, 1, 0), -3);
        due("vote(99, 2, 0)", x.vote(99, 2, 0), 1);
        due("vote(98, 2, 0)", x.vote(98, 2, 0), -3);
    }

    private static void party() {
        promise = "5";
        GalleryRows x = house(2);
        due("party(0, 3)", x.party(0, 3), 0);
        due("party(0, 1)", x.party(0, 1), 3);
        due("party(0, 0)", x.party(0, 0), 1);
        due("party(1, 3)", x.party(1, 3), 0);
        due("party(2, -1)", x.party(2, -1), -1);
        due("party(-1, 4)", x.party(-1, 4), -1);
        due("party(1, -1)", x.party(1, -1), -4);
        due("party(1, 4)", x.party(1, 4), -6);
        due("party(1, 0)", x.party(1, 0), 3);
    }

    private static void vote() {
        promise = "6";
        GalleryRows x = new GalleryRows();
        x.member(10, 20);
        x.member(0, 99);
        due("vote(-1, 9, 9)", x.vote(-1, 9, 9), -4);
        due("vote(100, -1, 0)", x.vote(100, -1, 0), -4);
        due("vote(100, 0, min)", x.vote(100, 0, Integer.MIN_VALUE), -4);
        due("vote(100, 9, 9)", x.vote(100, 9, 9), -6);
        due("vote(5, 4, 4)", x.vote(5, 4, 4), -1);
        due("vote(5, 0, max)", x.vote(5, 0, Integer.MAX_VALUE), -1);
        due("vote(15, 1, 1)", x.vote(15, 1, 1), -3);
        due("vote(9, 0, 1)", x.vote(9, 0, 1), -3);
        due("vote(21, 1, 0)", x.vote(21, 1, 0), -3);
        due("vote(10, 1, 2)", x.vote(10, 1, 2), 0);
        due("vote(20, 0, 3)", x.vote(20, 0, 3), 1);
        for (int v = 2; v < 24; v++) {
            due("vote(99, 0, 0)", x.vote(99, 0, 0), v);
        }
        due("vote(99, 4, 0)", x.vote(99, 4, 0), -6);
        due("vote(-1, 0, 0)", x.vote(-1, 0, 0), -4);
        due("count(1)", x.count(1), 24);
    }

    private static void of() {
        promise = "7";
        GalleryRows x = house(3);
        x.vote(7, 5, 2);
        due("of(0, 0)", x.of(0, 0), 7);
        due("of(0, 1)", x.of(0, 1), 5);
        due("of(0, 2)", x.of(0, 2), 2);
        due("of(0, 3)", x.of(0, 3), -2);
        due("of(0, -1)", x.of(0, -1), -2);
        due("of(1, 3)", x.of(1, 3), -1);
        due("of(-1, 0)", x.of(-1, 0), -1);
    }

    private static void takeOut() {
        promise = "8";
        GalleryRows x = house(4);
        due("takeOut()", x.takeOut(), -3);
        x.vote(1, 3, 12);
        x.vote(2, 5, 10);
        due("best(0)", x.best(0), 1);
        due("knot()", x.knot(), 3);
        due("takeOut()", x.takeOut(), 1);
        due("best(0)", x.best(0), 0);
        due("knot()", x.knot(), -9);
        due("of(1, 0)", x.of(1, 0), -1);
        due("vote(3, 9, 6)", x.vote(3, 9, 6), 1);
        due("of(1, 0)", x.of(1, 0), 3);
        due("best(0)", x.best(0), 1);
        due("takeOut()", x.takeOut(), 1);
        due("takeOut()", x.takeOut(), 0);
        due("takeOut()", x.takeOut(), -3);
        due("sheet()", x.sheet(), 0);
    }

    private static void hold() {
        promise = "9";
        GalleryRows x = house(7);
        due("hold(7, 0)", x.hold(7, 0), -1);
        due("hold(-1, 0)", x.hold(-1, 0), -1);
        due("hold(-1, -1)", x.hold(-1, -1), -1);
        due("hold(0, 7)", x.hold(0, 7), -1);
        due("hold(0, -2)", x.hold(0, -2), -1);
        due("hold(3, 3)", x.hold(3, 3), -1);
        due("hold(0, 6)", x.hold(0, 6), 1);
        due("hold(6, 0)", x.hold(6, 0), -3);
        due("hold(0, 6)", x.hold(0, 6), -3);
        due("hold(0, -1)", x.hold(0, -1), 2);
        due("hold(0, -1)", x.hold(0, -1), -3);
        due("best(1)", x.best(1), 120);
        dueRow(x, 0, 0, 6, 1, 2, 3, 4, 5);
        due("hold(1, -1)", x.hold(1, -1), 3);
        due("best(1)", x.best(1), 24);
        dueRow(x, 0, 0, 6, 2, 3, 4, 5, 1);
        due("hold(2, 3)", x.hold(2, 3), 4);
        due("best(1)", x.best(1), 12);
        due("hold(2, 4)", x.hold(2, 4), 5);
        due("best(1)", x.best(1), 4);
        dueRow(x, 0, 0, 6, 3, 2, 4, 5, 1);
        due("hold(2, 5)", x.hold(2, 5), 6);
        due("best(1)", x.best(1), -9);
        due("hold(2, 6)", x.hold(2, 6), 7);
        due("hold(2, 1)", x.hold(2, 1), 8);
        due("hold(2, 0)", x.hold(2, 0), 9);
        due("hold(2, -1)", x.hold(2, -1), 10);
        due("hold(2, -1)", x.hold(2, -1), -3);
        due("hold(4, 5)", x.hold(4, 5), -6);
        due("hold(4, 4)", x.hold(4, 4), -1);
        GalleryRows alone = house(1);
        due("hold(0, -1)", alone.hold(0, -1), 1);
        due("best(1)", alone.best(1), 1);
    }

    private static void free() {
        promise = "10";
        GalleryRows x = house(3);
        due("free()", x.free(), 0);
        x.hold(0, 1);
        x.hold(2, -1);
        due("best(1)", x.best(1), 2);
        due("free()", x.free(), 2);
        due("count(2)", x.count(2), 0);
        due("best(1)", x.best(1), 3);
        due("hold(0, 1)", x.hold(0, 1), 1);
    }

    private static void apart() {
        promise = "11";
        GalleryRows x = house(3);
        x.vote(1, 1, 2);
        x.vote(1, 2, 1);
        x.vote(1, 3, 4);
        x.vote(1, 0, 7);
        x.vote(1, 1, 0);
        due("apart(0, 1)", x.apart(0, 1), 2);
        due("apart(1, 0)", x.apart(1, 0), 2);
        due("apart(0, 2)", x.apart(0, 2), 1);
        due("apart(2, 2)", x.apart(2, 2), 0);
        due("apart(3, 0)", x.apart(3, 0), -1);
        due("apart(0, -1)", x.apart(0, -1), -1);
    }

    private static void put() {
        promise = "12";
        GalleryRows x = house(2);
        due("put(2)", x.put(2), -1);
        due("put(-1)", x.put(-1), -1);
        due("put(1)", x.put(1), 1);
        due("put(1)", x.put(1), -3);
        due("put(0)", x.put(0), 2);
        due("put(0)", x.put(0), -3);
        due("count(3)", x.count(3), 2);
        x.member(0, 99);
        due("judge()", x.judge(), -3);
        due("put(2)", x.put(2), 3);
        due("judge()", x.judge(), 0);
        due("put(1)", x.put(1), 1);
        GalleryRows all = house(7);
        for (int m = 6; m >= 0; m--) {
            due("put(" + m + ")", all.put(m), 7 - m);
        }
        due("put(6)", all.put(6), -3);
    }

    private static void judge() {
        promise = "13";
        GalleryRows x = house(4);
        x.vote(1, 3, 12);
        x.vote(1, 5, 10);
        putAll(x, 0, 1, 2);
        due("judge()", x.judge(), -3);
        due("count(3)", x.count(3), 3);
        x.put(3);
        due("judge()", x.judge(), 1);
        due("count(3)", x.count(3), 0);
        due("judge()", x.judge(), -3);
        putAll(x, 0, 3, 1, 2);
        due("judge()", x.judge(), 2);
        x.vote(1, 9, 6);
        putAll(x, 0, 3, 1, 2);
        due("judge()", x.judge(), 2);
    }

    private static void cut() {
        promise = "14";
        GalleryRows x = house(4);
        x.vote(1, 12, 3);
        x.vote(1, 3, 12);
        x.vote(1, 15, 0);
        x.vote(1, 0, 15);
        x.vote(1, 0, 0);
        x.vote(1, 5, 10);
        x.vote(1, 8, 1);
        putAll(x, 0, 1, 2);
        due("cut(0)", x.cut(0), -3);
        due("cut(7)", x.cut(7), -1);
        x.put(3);
        due("cut(0)", x.cut(0), 5);
        due("cut(1)", x.cut(1), 4);
        due("cut(2)", x.cut(2), 1);
        due("cut(3)", x.cut(3), 0);
        due("cut(4)", x.cut(4), 0);
        due("cut(5)", x.cut(5), 102);
        due("cut(6)", x.cut(6), 3);
        due("cut(7)", x.cut(7), -1);
        due("cut(-1)", x.cut(-1), -1);
        due("count(3)", x.count(3), 4);
        x.judge();
        due("cut(0)", x.cut(0), -3);
        GalleryRows all = house(7);
        all.vote(1, 85, 42);
        all.vote(1, 42, 85);
        all.vote(1, 1, 126);
        all.vote(1, 127, 0);
        putAll(all, 1, 2, 3, 4, 5, 6, 0);
        due("cut(0)", all.cut(0), 203);
        due("cut(1)", all.cut(1), 202);
        due("cut(2)", all.cut(2), 13);
        due("cut(3)", all.cut(3), 1);
        all.judge();
        putAll(all, 0, 1, 2, 3, 4, 5, 6);
        due("cut(0)", all.cut(0), 301);
        due("cut(1)", all.cut(1), 300);
    }

    private static void wrongOnes() {
        promise = "15";
        GalleryRows x = house(4);
        x.vote(1, 5, 10);
        x.vote(1, 10, 5);
        x.vote(1, 3, 12);
        x.vote(1, 12, 3);
        putAll(x, 0, 1, 2);
        due("wrong(0)", x.wrong(0), -3);
        due("wrong(4)", x.wrong(4), -1);
        x.put(3);
        due("wrong(0)", x.wrong(0), 4);
        due("wrong(1)", x.wrong(1), 4);
        due("wrong(2)", x.wrong(2), 0);
        due("wrong(3)", x.wrong(3), 0);
        due("wrong(-1)", x.wrong(-1), -1);
        x.judge();
        putAll(x, 0, 3, 1, 2);
        due("wrong(2)", x.wrong(2), 2);
        due("cut(2)", x.cut(2), 102);
    }

    private static void best() {
        promise = "16";
        GalleryRows x = house(3);
        due("best(0)", x.best(0), 0);
        due("best(1)", x.best(1), 3);
        due("best(2)", x.best(2), -2);
        due("best(-1)", x.best(-1), -2);
        x.vote(1, 2, 5);
        due("best(0)", x.best(0), 0);
        due("best(1)", x.best(1), 2);
        x.hold(0, 1);
        x.hold(1, 2);
        due("best(0)", x.best(0), 1);
        due("best(1)", x.best(1), 1);
        x.hold(0, 2);
        due("best(0)", x.best(0), -9);
        due("best(1)", x.best(1), -9);
        due("best(2)", x.best(2), -2);
        due("best(1)", house(1).best(1), 1);
        due("best(1)", house(2).best(1), 1);
        due("best(1)", house(4).best(1), 12);
        due("best(1)", house(7).best(1), 2520);
    }

    private static void row() {
        promise = "17";
        GalleryRows x = house(3);
        dueRow(x, 0, 0, 1, 2);
        dueRow(x, 1, 0, 2, 1);
        dueRow(x, 2, 1, 0, 2);
        due("row(3, 0)", x.row(3, 0), -9);
        due("row(-1, 0)", x.row(-1, 0), -9);
        due("row(0, 3)", x.row(0, 3), -9);
        due("row(0, -1)", x.row(0, -1), -9);
        due("row(max, max)", x.row(Integer.MAX_VALUE, Integer.MAX_VALUE), -9);
        x.vote(1, 2, 5);
        dueRow(x, 0, 0, 2, 1);
        dueRow(x, 1, 1, 0, 2);
        due("row(2, 0)", x.row(2, 0), -9);
        x.member(0, 99);
        x.vote(1, 8, 2);
        dueRow(x, 0, 0, 2, 1, 3);
        GalleryRows all = house(7);
        dueRow(all, 2519, 5, 4, 3, 2, 1, 0, 6);
        due("row(2520, 0)", all.row(2520, 0), -9);
        dueRow(house(1), 0, 0);
        due("row(0, 0)", new GalleryRows().row(0, 0), -9);
    }

    private static void open() {
        promise = "18";
        due("open()", new GalleryRows().open(), 0);
        due("open()", house(2).open(), 0);
        GalleryRows x = house(3);
        due("open()", x.open(), 7);
        x.hold(0, -1);
        due("open()", x.open(), 6);
        x.hold(1, 0);
        due("open()", x.open(), 0);
        x.hold(2, 0);
        due("open()", x.open(), -9);
    }

    private static void knot() {
        promise = "19";
        GalleryRows x = house(4);
        due("knot()", x.knot(), -9);
        x.vote(1, 8, 7);
        due("knot()", x.knot(), -9);
        x.vote(1, 3, 12);
        x.vote(1, 9, 6);
        due("knot()", x.knot(), 6);
        x.vote(1, 5, 10);
        due("knot()", x.knot(), 6);
        GalleryRows three = house(4);
        three.vote(1, 15, 0);
        three.vote(1, 1, 14);
        three.vote(1, 2, 13);
        due("knot()", three.knot(), -9);
        three.vote(1, 4, 11);
        due("knot()", three.knot(), 14);
        three.vote(1, 8, 7);
        due("knot()", three.knot(), 14);
        three.hold(0, 1);
        three.hold(0, 2);
        three.hold(0, 3);
        due("knot()", three.knot(), 14);
        three.vote(1, 3, 12);
        three.vote(1, 5, 10);
        due("knot()", three.knot(), 96);
        due("knot()", house(7).knot(), -9);
    }

    private static void chance() {
        promise = "20";
        GalleryRows x = house(4);
        due("chance(0, 1)", x.chance(0, 1), -4);
        due("chance(21, 1)", x.chance(21, 1), -6);
        due("chance(20, 1)", x.chance(20, 1), 20);
        // Vote 0 is 4 yes: any lots leave it so, and take four numbers.
        x.vote(1, 15, 0);
        due("chance(5, min)", x.chance(5, Integer.MIN_VALUE), 5);
        x.vote(1, 3, 12);
        x.vote(1, 5, 10);
        x.vote(1, 9, 6);
        int[] few = new int[21];
        for (int n = 1; n <= 20; n++) {
            few[n] = x.chance(n, 77);
            due("chance(" + n + ", 77)", few[n], plainChance(n, 77));
        }
        due("chance(-5, 77)", x.chance(-5, 77), -4);
        due("best(0)", x.best(0), 2);
        x.hold(0, 1);
        x.hold(0, 2);
        x.hold(0, 3);
        due("chance(1, 1)", x.chance(1, 1), -9);
        due("chance(0, 1)", x.chance(0, 1), -4);
        due("chance(21, 1)", x.chance(21, 1), -6);
    }

    // The four votes of chance() in the row 0 1 2 3 with two wrong, told by words.
    private static int plainChance(int n, int seed) {
        String[] votes = {"yyyy", "yynn", "ynyn", "ynny"};
        int z = seed;
        int few = 0;
        for (int book = 0; book < n; book++) {
            int wrongs = 0;
            for (String vote : votes) {
                int left = 4;
                int yesLeft = vote.equals("yyyy") ? 4 : 2;
                String dealt = "";
                for (int m = 0; m < 4; m++) {
                    z = z * 1103515245 + 12345;
                    boolean isYes = (z >>> 8) % left < yesLeft;
                    dealt += isYes ? "y" : "n";
                    yesLeft -= isYes ? 1 : 0;
                    left--;
                }
                wrongs += dealt.matches("y*|yynn|nnyy") ? 0 : 1;
            }
            few += wrongs <= 2 ? 1 : 0;
        }
        return few;
    }

    private static void place() {
        promise = "21";
        GalleryRows x = house(2);
        due("place(0, 4, 3)", x.place(0, 4, 3), 0);
        due("place(0, 0, 4)", x.place(0, 0, 4), 23);
        due("place(0, 4, 4)", x.place(0, 4, 4), 4);
        due("place(1, 1, 0)", x.place(1, 1, 0), 0);
        due("place(2, -1, 5)", x.place(2, -1, 5), -1);
        due("place(-1, 0, 0)", x.place(-1, 0, 0), -1);
        due("place(0, -1, 5)", x.place(0, -1, 5), -4);
        due("place(0, 5, -1)", x.place(0, 5, -1), -4);
        due("place(0, 5, 0)", x.place(0, 5, 0), -6);
        due("place(0, 0, 5)", x.place(0, 0, 5), -6);
        due("place(0, 0, 0)", x.place(0, 0, 0), 24);
    }

    private static void line() {
        promise = "22";
        GalleryRows x = house(4);
        x.vote(1, 15, 0);
        x.vote(1, 0, 15);
        x.vote(1, 1, 6);
        due("line(0)", x.line(0), 1);
        due("line(1)", x.line(1), 0);
        due("line(2)", x.line(2), 1000);
        due("line(3)", x.line(3), -1);
        due("line(-1)", x.line(-1), -1);
        x.place(0, 4, 4);
        x.place(1, 0, 4);
        x.place(2, 4, 0);
        due("line(2)", x.line(2), 219);
        x.vote(1, 2, 4);
        due("line(3)", x.line(3), 10);
        x.vote(1, 8, 2);
        due("line(4)", x.line(4), 110);
        x.vote(1, 2, 8);
        due("line(5)", x.line(5), 111);
        x.place(3, 4, 4);
        x.vote(1, 2, 13);
        due("line(6)", x.line(6), 10);
        x.place(1, 1, 2);
        x.place(0, 0, 0);
        x.place(2, 1, 1);
        x.place(3, 2, 2);
        due("line(6)", x.line(6), 308);
        x.vote(1, 13, 2);
        due("line(7)", x.line(7), 309);
        x.vote(1, 8, 3);
        due("line(8)", x.line(8), 13);
        x.vote(1, 1, 14);
        due("line(9)", x.line(9), 10);
    }

    private static void sheet() {
        promise = "23";
        GalleryRows x = house(4);
        due("sheet()", x.sheet(), 0);
        x.vote(1, 3, 12);
        x.vote(1, 1, 14);
        due("sheet()", x.sheet(), 3);
        x.place(0, 4, 0);
        due("sheet()", x.sheet(), 1);
        x.place(1, 3, 0);
        due("sheet()", x.sheet(), 0);
        x.vote(1, 5, 10);
        due("sheet()", x.sheet(), 1);
        x.takeOut();
        due("sheet()", x.sheet(), 0);
    }

    private static void turn() {
        promise = "24";
        due("turn()", new GalleryRows().turn(), 0);
        GalleryRows x = house(3);
        x.vote(1, 1, 6);
        due("sheet()", x.sheet(), 1);
        due("turn()", x.turn(), 0);
        due("place(0, 2, 2)", x.place(0, 2, 2), 5);
        due("turn()", x.turn(), 0);
        due("place(0, 0, 0)", x.place(0, 0, 0), 12);
        due("place(1, 0, 0)", x.place(1, 0, 0), 0);
        GalleryRows two = house(4);
        two.place(0, 3, 3);
        two.place(1, 3, 3);
        two.place(2, 3, 3);
        two.place(3, 3, 3);
        two.vote(1, 3, 12);
        two.vote(1, 5, 10);
        due("sheet()", two.sheet(), 4);
        due("turn()", two.turn(), 0);
        // The first finds 3, 3 as good as elsewhere at 3: none better than by a place of his own.
        due("place(0, 0, 0)", two.place(0, 0, 0), 0);
    }

    private static void odd() {
        promise = "25";
        GalleryRows x = house(7);
        due("odd(1)", x.odd(1), 0);
        due("odd(0)", x.odd(0), -4);
        due("odd(4)", x.odd(4), -6);
        for (int m = 0; m < 6; m++) {
            x.hold(m, m + 1);
        }
        x.vote(1, 85, 42);
        x.vote(1, 5, 10);
        x.vote(1, 21, 42);
        x.vote(1, 3, 12);
        due("best(0)", x.best(0), 6);
        due("odd(1)", x.odd(1), 7);
        due("odd(2)", x.odd(2), 5);
        due("odd(3)", x.odd(3), 1);
        x.hold(0, 6);
        due("odd(1)", x.odd(1), -9);
        due("odd(0)", x.odd(0), -4);
        due("odd(4)", x.odd(4), -6);
    }

    private static void second() {
        promise = "26";
        GalleryRows x = house(4);
        due("second(1)", x.second(1), 0);
        due("second(0)", x.second(0), -4);
        due("second(4)", x.second(4), -6);
        x.hold(0, 1);
        x.hold(1, 2);
        x.hold(2, 3);
        x.vote(1, 5, 10);
        x.vote(1, 9, 6);
        x.vote(1, 3, 12);
        due("odd(1)", x.odd(1), 3);
        due("second(1)", x.second(1), 1);
        due("second(2)", x.second(2), 0);
        x.hold(0, 3);
        due("second(1)", x.second(1), -9);
        due("second(0)", x.second(0), -4);
        due("second(4)", x.second(4), -6);
    }

    private static void move() {
        promise = "27";
        GalleryRows x = house(3);
        for (int what = 0; what < 4; what++) {
            due("move(" + what + ")", x.move(what), -9);
        }
        due("move(4)", x.move(4), -2);
        due("move(-1)", x.move(-1), -2);
        // Each vote has one wrong if its yes stands in the middle: 0 1 2 is best by two.
        x.vote(10, 1, 6);
        x.vote(20, 4, 3);
        x.vote(25, 1, 6);
        x.vote(30, 4, 3);
        x.vote(40, 2, 5);
        x.vote(50, 2, 5);
        dueRow(x, 0, 0, 1, 2);
        due("best(0)", x.best(0), 2);
        due("move(0)", x.move(0), 2);
        due("move(1)", x.move(1), 0);
        due("move(2)", x.move(2), 26);
        due("move(3)", x.move(3), 1);
        // Now 0 in the middle is wrong in the year 51: 0 goes behind 2, once the year 30 is past.
        x.vote(29, 1, 6);
        x.vote(51, 1, 6);
        due("move(0)", x.move(0), 2);
        due("move(1)", x.move(1), 0);
        due("move(2)", x.move(2), 31);
        due("move(3)", x.move(3), 2);
        GalleryRows still = house(3);
        still.vote(10, 1, 6);
        still.vote(20, 4, 3);
        due("move(0)", still.move(0), -9);
        GalleryRows ends = house(3);
        ends.vote(0, 4, 3);
        ends.hold(0, 1);
        ends.hold(1, 2);
        ends.vote(99, 2, 5);
        due("move(0)", ends.move(0), 1);
        due("move(1)", ends.move(1), 0);
        due("move(2)", ends.move(2), 0);
        due("move(3)", ends.move(3), 1);
        ends.takeOut();
        ends.takeOut();
        ends.vote(0, 2, 5);
        due("move(0)", ends.move(0), 1);
        due("move(1)", ends.move(1), 0);
        due("move(2)", ends.move(2), 0);
        ends.hold(0, 2);
        due("move(0)", ends.move(0), -9);
        due("move(4)", ends.move(4), -2);
    }

    private static void stretches() {
        promise = "28";
        GalleryRows x = house(5);
        due("stretches(0)", x.stretches(0), 1);
        due("stretches(1)", x.stretches(1), 0);
        x.party(1, 2);
        x.party(3, 2);
        due("stretches(0)", x.stretches(0), 3);
        due("stretches(2)", x.stretches(2), 2);
        x.party(2, 2);
        due("stretches(0)", x.stretches(0), 2);
        due("stretches(2)", x.stretches(2), 1);
        due("stretches(4)", x.stretches(4), -1);
        due("stretches(-1)", x.stretches(-1), -1);
        x.hold(0, 1);
        x.hold(0, 2);
        x.hold(0, 3);
        due("stretches(2)", x.stretches(2), -9);
        due("stretches(4)", x.stretches(4), -1);
    }

    private static void parties() {
        promise = "29";
        GalleryRows x = house(7);
        due("parties(0)", x.parties(0), -9);
        due("parties(1)", x.parties(1), 0);
        due("parties(2)", x.parties(2), -2);
        due("parties(-1)", x.parties(-1), -2);
        int[] parties = {3, 1, 3, 1, 1, 0, 2};
        for (int m = 0; m < 7; m++) {
            x.party(m, parties[m]);
        }
        due("parties(0)", x.parties(0), 1);
        due("parties(1)", x.parties(1), 6);
        x.party(5, 3);
        due("parties(0)", x.parties(0), 3);
        due("parties(1)", x.parties(1), 6);
        x.party(6, 1);
        due("parties(0)", x.parties(0), 1);
        due("parties(1)", x.parties(1), 38);
        GalleryRows none = house(3);
        none.hold(0, 1);
        none.hold(1, 2);
        none.hold(0, 2);
        due("parties(0)", none.parties(0), -9);
        due("parties(1)", none.parties(1), -9);
        due("parties(2)", none.parties(2), -2);
    }

    private static void say() {
        promise = "30";
        GalleryRows x = house(4);
        x.vote(1, 1, 8);
        x.vote(1, 8, 1);
        x.vote(1, 0, 8);
        x.vote(1, 8, 0);
        x.vote(1, 3, 8);
        due("say(0, 1)", x.say(0, 1), 0);
        due("say(1, 2)", x.say(1, 2), 1);
        due("say(2, 0)", x.say(2, 0), 0);
        due("say(3, 0)", x.say(3, 0), 1);
        due("say(4, 2)", x.say(4, 2), 0);
        due("say(4, 1)", x.say(4, 1), -3);
        due("say(0, 3)", x.say(0, 3), -3);
        due("say(5, 0)", x.say(5, 0), -1);
        due("say(0, 4)", x.say(0, 4), -1);
        due("say(-1, 0)", x.say(-1, 0), -1);
        due("say(0, -1)", x.say(0, -1), -1);
        x.hold(0, 1);
        x.hold(0, 2);
        x.hold(0, 3);
        due("say(0, 1)", x.say(0, 1), -9);
        due("say(0, 0)", x.say(0, 0), -3);
        due("say(5, 0)", x.say(5, 0), -1);
        GalleryRows held = house(3);
        held.vote(1, 2, 4);
        held.hold(1, -1);
        held.hold(2, -1);
        dueRow(held, 0, 1, 0, 2);
        due("say(0, 0)", held.say(0, 0), 0);
    }

    private static void sure() {
        promise = "31";
        GalleryRows x = house(3);
        x.vote(1, 1, 4);
        x.vote(1, 7, 0);
        due("best(1)", x.best(1), 3);
        due("say(0, 1)", x.say(0, 1), 0);
        // In 1 0 2 the yes of 0 takes 1 along.
        due("sure(0, 1)", x.sure(0, 1), 0);
        x.hold(0, -1);
        x.hold(2, -1);
        due("best(1)", x.best(1), 1);
        due("sure(0, 1)", x.sure(0, 1), 1);
        due("sure(0, 0)", x.sure(0, 0), -3);
        due("sure(2, 0)", x.sure(2, 0), -1);
        due("sure(0, 3)", x.sure(0, 3), -1);
        due("sure(0, -1)", x.sure(0, -1), -1);
        x.hold(1, -1);
        due("sure(0, 1)", x.sure(0, 1), -9);
        due("sure(0, 0)", x.sure(0, 0), -3);
        due("sure(2, 1)", x.sure(2, 1), -1);
    }

    private static void image() {
        promise = "32";
        GalleryRows x = house(2);
        due("image()", x.image(), 0);
        x.vote(1, 1, 2);
        x.vote(2, 1, 2);
        due("image()", x.image(), 2);
        x.takeOut();
        due("restore()", x.restore(), 2);
        due("image()", x.image(), 2);
    }

    private static void restore() {
        promise = "33";
        GalleryRows x = house(3);
        due("restore()", x.restore(), -3);
        x.party(1, 2);
        x.place(2, 3, 4);
        x.hold(0, 1);
        x.vote(5, 1, 2);
        due("image()", x.image(), 1);
        x.member(0, 50);
        x.party(1, 3);
        x.place(2, 0, 1);
        x.free();
        x.hold(0, 3);
        x.vote(6, 8, 4);
        x.put(3);
        x.put(0);
        feedText(x, "m1-2");
        due("best(0)", x.best(0), 0);
        due("put(9)", x.put(9), -1);
        due("restore()", x.restore(), 1);
        due("count(0)", x.count(0), 3);
        due("count(1)", x.count(1), 1);
        due("count(2)", x.count(2), 1);
        due("count(3)", x.count(3), 0);
        due("count(4)", x.count(4), 4);
        due("count(11)", x.count(11), 1);
        due("count(13)", x.count(13), 1);
        due("best(1)", x.best(1), 2);
        dueRow(x, 0, 0, 1, 2);
        due("hold(0, 1)", x.hold(0, 1), -3);
        due("party(1, 0)", x.party(1, 0), 2);
        due("place(2, 0, 0)", x.place(2, 0, 0), 19);
        due("of(0, 0)", x.of(0, 0), 5);
        due("takeOut()", x.takeOut(), 0);
        due("restore()", x.restore(), 1);
        due("party(1, 0)", x.party(1, 0), 2);
        due("place(2, 0, 0)", x.place(2, 0, 0), 19);
        due("of(0, 2)", x.of(0, 2), 2);
        restoreOverOthers();
    }

    // What was put in the place of the image's own goes, and the image's own comes back.
    private static void restoreOverOthers() {
        GalleryRows x = new GalleryRows();
        x.image();
        x.member(10, 20);
        x.member(30, 40);
        x.vote(15, 1, 0);
        x.vote(35, 0, 2);
        x.hold(0, 1);
        x.restore();
        due("count(0)", x.count(0), 0);
        due("best(1)", x.best(1), 1);
        x.member(50, 60);
        x.member(70, 80);
        x.vote(55, 0, 1);
        x.vote(75, 2, 0);
        x.hold(1, -1);
        x.image();
        x.takeOut();
        x.takeOut();
        x.vote(1, 0, 0);
        x.vote(2, 0, 0);
        x.free();
        x.hold(0, -1);
        due("restore()", x.restore(), 2);
        due("of(0, 0)", x.of(0, 0), 55);
        due("of(0, 2)", x.of(0, 2), 1);
        due("of(1, 0)", x.of(1, 0), 75);
        due("of(1, 1)", x.of(1, 1), 2);
        due("hold(1, -1)", x.hold(1, -1), -3);
        due("hold(0, -1)", x.hold(0, -1), 2);
    }

    private static void count() {
        promise = "34";
        GalleryRows x = house(3);
        x.vote(1, 1, 2);
        x.vote(1, 0, 7);
        x.hold(0, 1);
        x.hold(2, -1);
        putAll(x, 0, 1, 2);
        feedText(x, "m0-1;");
        due("count(0)", x.count(0), 3);
        due("count(1)", x.count(1), 2);
        due("count(2)", x.count(2), 2);
        due("count(3)", x.count(3), 3);
        due("count(4)", x.count(4), 5);
        due("count(5)", x.count(5), 5);
        x.put(3);
        x.of(0, 3);
        x.of(0, 3);
        x.put(0);
        x.put(0);
        x.put(0);
        x.feed(0, 0);
        x.feed(0, 0);
        x.feed(0, 0);
        x.feed(0, 0);
        for (int i = 0; i < 6; i++) {
            x.feed(9, 0);
        }
        for (int what : new int[] {-1, 6, 10, 17, Integer.MIN_VALUE, Integer.MAX_VALUE}) {
            due("count(" + what + ")", x.count(what), -9);
        }
        int[] refusals = {1, 2, 3, 4, 0, 6};
        for (int i = 0; i < 6; i++) {
            due("count(" + (11 + i) + ")", x.count(11 + i), refusals[i]);
        }
    }

    private static void refusalsChangeNothing() {
        promise = "REFUSALS";
        GalleryRows x = house(3);
        x.vote(1, 1, 6);
        x.put(2);
        feedText(x, "k01");
        x.party(3, 1);
        x.party(0, 4);
        x.member(3, 2);
        x.vote(1, 3, 2);
        x.vote(1, 8, 0);
        x.hold(0, 0);
        x.put(2);
        x.judge();
        x.cut(0);
        x.wrong(0);
        x.place(0, 5, 5);
        x.restore();
        x.feed(9, 0);
        due("count(0)", x.count(0), 3);
        due("count(1)", x.count(1), 1);
        due("count(2)", x.count(2), 0);
        due("count(3)", x.count(3), 1);
        due("count(4)", x.count(4), 3);
        due("party(0, 0)", x.party(0, 0), 0);
        due("place(0, 0, 0)", x.place(0, 0, 0), 0);
        due("count(11)", x.count(11), 3);
        due("count(13)", x.count(13), 7);
        due("count(16)", x.count(16), 3);
    }

    /** Full houses, asked all that there is, again and again: no call may throw or fail to end. */
    private static void dearestCalls() {
        promise = "all";
        GalleryRows x = house(7);
        for (int v = 0; v < 24; v++) {
            int yes = (v * 37 + 11) % 128;
            x.vote(v, yes, ~yes & 127 & ~(1 << v % 7));
        }
        for (int i = 0; i < 30; i++) {
            x.takeOut();
            x.vote(i, i, 127 - i);
            x.best(0);
            x.knot();
            x.second(1);
            x.turn();
            x.move(0);
            x.chance(20, i);
            x.open();
            x.sure(0, 0);
        }
        due("count(1)", x.count(1), 24);
    }
}
