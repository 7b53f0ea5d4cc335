/** The edges of the TEXT and of a BOOK: promises 2 and 3, and in the Terms "A BOOK". */
public final class BookEdgesTest {
    public static void main(String[] args) {
        bytesOfOneFeed();
        lowestByteFirst();
        ninetyBytesAreTaken();
        textIsEmptyBehindRead();
        emptyTextIsABook();
        bookOfNinetyBytes();
        faultAtTheNinetiethPlace();
        numbers();
        yearsOfAMember();
        yearOfAVote();
        everyLetter();
        signsOfALetter();
        somethingLacks();
        somethingIsTooMuch();
        memberThatIsNotThere();
        memberWithoutMembers();
        memberNamedTwice();
        partyAboveThree();
        toAheadOfFrom();
        wordOfOneNotOfThatYear();
        eighthMember();
        twentyFifthVote();
        eleventhHeld();
        heldSoAlready();
        heldSoAlreadyOfTen();
        whatIsWholeCame();
        whatIsNotWholeDidNotCome();
        votesAheadOfAMember();
        aMemberReadIsNew();
        nothingIsCounted();
        theFirstOfSeveralFaults();
        Due.end("BookEdgesTest");
    }

    private static void counts(GalleryRows x, int members, int votes, int held) {
        Due.is("count(0)", x.count(0), members);
        Due.is("count(1)", x.count(1), votes);
        Due.is("count(2)", x.count(2), held);
    }

    private static void bytesOfOneFeed() {
        Due.by("promise 2, n 1 .. 8, how many it has");
        int has = 0;
        GalleryRows x = new GalleryRows();
        for (int n = 1; n <= 8; n++) {
            has += n;
            Due.is("feed(" + n + ", 0)", x.feed(n, 0), has);
            Due.is("count(4)", x.count(4), has);
        }
    }

    private static void lowestByteFirst() {
        Due.by("promise 2, the lowest first");
        GalleryRows x = new GalleryRows();
        // "m3-45;" and two bytes more, which are not of the six.
        x.feed(6, 0x7878_3b35_342d_336dL);
        Due.is("read()", x.read(), 1);
        Due.is("vote(3, 1, 0)", x.vote(3, 1, 0), 0);
        Due.is("vote(45, 1, 0)", x.vote(45, 1, 0), 1);
        Due.is("vote(2, 1, 0)", x.vote(2, 1, 0), -3);
        Due.is("vote(46, 1, 0)", x.vote(46, 1, 0), -3);
        // "v9:a;m1-" and "2;": the eighth byte is the uppermost.
        x.feed(8, 0x2d31_6d3b_613a_3976L);
        x.feed(2, 0x3b32L);
        Due.is("read()", x.read(), 2);
        // A byte above 127 stands as it is, also as the uppermost of eight.
        x.feed(8, 0xed3b_6161_3a37_3976L);
        Due.is("read()", x.read(), -27);
        counts(x, 2, 4, 0);
        x.feed(1, 0x176L);
        Due.is("read() of v alone", x.read(), -21);
        x.feed(1, -1L);
        Due.is("read() of byte 255", x.read(), -20);
    }

    private static void ninetyBytesAreTaken() {
        Due.by("promise 2, 90 bytes");
        for (int n = 1; n <= 8; n++) {
            GalleryRows x = new GalleryRows();
            for (int has = 0; has < 90 - n; has++) {
                x.feed(1, ';');
            }
            Due.is("feed(" + n + ", 0) at " + (90 - n), x.feed(n, 0), 90);
            Due.is("feed(1, 0) at 90", x.feed(1, 0), -6);
            Due.is("count(4)", x.count(4), 90);
        }
        for (int n = 2; n <= 8; n++) {
            GalleryRows x = new GalleryRows();
            for (int has = 0; has < 91 - n; has++) {
                x.feed(1, ';');
            }
            Due.is("feed(" + n + ", 0) at " + (91 - n), x.feed(n, 0), -6);
            Due.is("count(4)", x.count(4), 91 - n);
            Due.is("feed(" + (n - 1) + ", 0) at " + (91 - n), x.feed(n - 1, 0), 90);
        }
    }

    private static void textIsEmptyBehindRead() {
        Due.by("promise 3, the TEXT has none then");
        GalleryRows x = Due.ninetyBytes();
        Due.is("read()", x.read(), 18);
        Due.is("count(4)", x.count(4), 0);
        Due.is("read()", x.read(), 0);
        Due.is("count(1)", x.count(1), 18);
        Due.feedText(x, "v1:y;v");
        Due.is("read() with a fault", x.read(), -26);
        Due.is("count(4)", x.count(4), 0);
        Due.is("read()", x.read(), 0);
        Due.is("feed(1, e)", x.feed(1, 'e'), 1);
        Due.is("feed(2, 0;)", x.feed(2, ';' << 8 | '0'), 3);
        Due.is("read()", x.read(), 1);
    }

    private static void emptyTextIsABook() {
        Due.by("an empty TEXT is a BOOK");
        Due.is("read()", new GalleryRows().read(), 0);
        Due.still(GalleryRows::new, "read()", GalleryRows::read, 0);
        Due.still(Due::sevenMembers, "read()", GalleryRows::read, 0);
        Due.still(Due::withoutBest, "read()", GalleryRows::read, 0);
    }

    private static void bookOfNinetyBytes() {
        Due.by("a BOOK of 90 bytes");
        GalleryRows x = Due.house(1);
        Due.read(x, "p00;".repeat(22) + "p0", -110);
        Due.read(x, "p01;".repeat(20) + "m10-20;e0;", 22);
        counts(x, 2, 0, 1);
        GalleryRows none = new GalleryRows();
        Due.read(none, "v0:;".repeat(20) + "v9:;m0-99;", 22);
        counts(none, 1, 21, 0);
        Due.read(none, "e0;".repeat(30), 30);
        counts(none, 1, 21, 1);
    }

    private static void faultAtTheNinetiethPlace() {
        Due.by("a FAULT at the last byte and at the end of 90");
        GalleryRows x = Due.house(2);
        Due.read(x, "e0;".repeat(29) + "e1x", -109);
        Due.read(x, "e0;".repeat(29) + "k01", -110);
        Due.read(x, "e0;".repeat(29) + "p04", -109);
        Due.read(x, "e0;".repeat(29) + "e0;", 30);
        Due.read(x, "e0;".repeat(28) + "m1-23", -109);
        Due.read(x, "e0;".repeat(27) + "m5-9;p0y;", -108);
        counts(x, 3, 0, 1);
    }

    private static void numbers() {
        Due.by("NUMBERS have 1 or 2 digits, no 0 ahead of another");
        GalleryRows x = new GalleryRows();
        Due.read(x, "v0:;v1:;v9:;v10:;v11:;v90:;v99:;", 7);
        int[] years = {0, 1, 9, 10, 11, 90, 99};
        for (int v = 0; v < years.length; v++) {
            Due.is("of(" + v + ", 0)", x.of(v, 0), years[v]);
        }
        Due.read(x, "v00:;", -22);
        Due.read(x, "v01:;", -22);
        Due.read(x, "v09:;", -22);
        Due.read(x, "v100:;", -23);
        Due.read(x, "v990:;", -23);
        Due.read(x, "v:;", -21);
        Due.read(x, "v-1:;", -21);
        Due.read(x, "v/:;", -21);
        Due.read(x, "v1/:;", -22);
        Due.read(x, "v1::;", -23);
        Due.read(x, "m00-9;", -22);
        Due.read(x, "m01-9;", -22);
        Due.read(x, "m100-9;", -23);
        Due.read(x, "m0-00;", -24);
        Due.read(x, "m0-09;", -24);
        Due.read(x, "m0-100;", -25);
        Due.read(x, "m0-;", -23);
        Due.read(x, "m-9;", -21);
        counts(x, 0, 7, 0);
    }

    private static void yearsOfAMember() {
        Due.by("\"m\" NUMBER \"-\" NUMBER: a MEMBER of these YEARS");
        GalleryRows x = new GalleryRows();
        Due.read(x, "m0-0;m0-99;m99-99;m9-10;m10-10;", 5);
        Due.is("vote(0, 3, 0)", x.vote(0, 3, 0), 0);
        Due.is("vote(1, 1, 0)", x.vote(1, 1, 0), -3);
        Due.is("vote(99, 6, 0)", x.vote(99, 6, 0), 1);
        Due.is("vote(98, 4, 0)", x.vote(98, 4, 0), -3);
        Due.is("vote(8, 8, 0)", x.vote(8, 8, 0), -3);
        Due.is("vote(9, 8, 2)", x.vote(9, 8, 2), 2);
        Due.is("vote(9, 16, 0)", x.vote(9, 16, 0), -3);
        Due.is("vote(10, 24, 2)", x.vote(10, 24, 2), 3);
        Due.is("vote(11, 8, 0)", x.vote(11, 8, 0), -3);
        Due.is("vote(11, 16, 0)", x.vote(11, 16, 0), -3);
    }

    private static void yearOfAVote() {
        Due.by("\"v\" NUMBER \":\" and for each MEMBER \"y\", \"n\" or \"a\"");
        GalleryRows x = Due.house(7);
        Due.read(x, "v0:yyyyyyy;v99:nnnnnnn;v50:aaaaaaa;v7:ynaynay;", 4);
        int[][] due = {{0, 127, 0}, {99, 0, 127}, {50, 0, 0}, {7, 73, 18}};
        for (int v = 0; v < due.length; v++) {
            for (int what = 0; what < 3; what++) {
                Due.is("of(" + v + ", " + what + ")", x.of(v, what), due[v][what]);
            }
        }
        Due.read(x, "v0:yyyyyy;", -29);
        Due.read(x, "v0:yyyyyyyy;", -30);
        GalleryRows none = new GalleryRows();
        Due.read(none, "v5:a;", -23);
        Due.read(none, "v5:;", 1);
    }

    private static void everyLetter() {
        Due.by("STATEMENTS, each with \";\" behind");
        GalleryRows x = new GalleryRows();
        Due.read(x, "m0-99;", 1);
        Due.read(x, "m0-99;v5:yn;k01;e1;p13;", 5);
        counts(x, 2, 1, 2);
        Due.is("party(1, 0)", x.party(1, 0), 3);
        Due.is("hold(1, 0)", x.hold(1, 0), -3);
        Due.is("hold(1, -1)", x.hold(1, -1), -3);
        Due.is("hold(0, -1)", x.hold(0, -1), 3);
    }

    private static void signsOfALetter() {
        Due.by("FAULT: the first byte that can not stand, at the letter");
        for (int sign = 0; sign < 256; sign++) {
            boolean isLetter = "mvkep".indexOf(sign) >= 0;
            GalleryRows one = Due.house(3);
            one.feed(1, sign);
            Due.is("read of sign " + sign, one.read(), isLetter ? -21 : -20);
        }
        GalleryRows x = Due.house(3);
        Due.read(x, "e0; e1;", -23);
        Due.read(x, "e0;E1;", -23);
        Due.read(x, "e0;;", -23);
        Due.read(x, ";e0;", -20);
    }

    private static void somethingLacks() {
        Due.by("FAULT: the end, if something lacks");
        String[] statements = {"m0-9;", "m1-10;", "m23-45;", "v5:yna;", "v55:aaa;", "k01;", "k20;", "e2;", "p13;"};
        for (String statement : statements) {
            for (int end = 1; end < statement.length(); end++) {
                // Of "m23-4" the "to" is ahead of the "from".
                if (end == 5 && statement.startsWith("m23")) {
                    continue;
                }
                Due.read(Due.house(3), statement.substring(0, end), -20 - end);
                GalleryRows behindOther = Due.house(3);
                Due.read(behindOther, "p00;" + statement.substring(0, end), -24 - end);
                counts(behindOther, 3, 0, 0);
            }
            Due.read(Due.house(3), statement, 1);
        }
    }

    private static void somethingIsTooMuch() {
        Due.by("FAULT: the first byte that can not stand, within a STATEMENT");
        String[] statements = {"m0-9;", "m1-99;", "v55:aaa;", "k01;", "e2;", "p13;"};
        for (String statement : statements) {
            for (int at = 1; at < statement.length(); at++) {
                for (char sign : new char[] {'!', 'm', 0, 255, 178}) {
                    String text = statement.substring(0, at) + sign + statement.substring(at + 1);
                    Due.read(Due.house(3), text, -20 - at);
                }
            }
        }
    }

    private static void memberThatIsNotThere() {
        Due.by("FAULT: of a MEMBER that is not there its digit");
        GalleryRows x = Due.house(3);
        Due.read(x, "k23;", -22);
        Due.read(x, "k32;", -21);
        Due.read(x, "k33;", -21);
        Due.read(x, "k92;", -21);
        Due.read(x, "k29;", -22);
        Due.read(x, "e3;", -21);
        Due.read(x, "e9;", -21);
        Due.read(x, "p30;", -21);
        Due.read(x, "p90;", -21);
        Due.read(x, "p34;", -21);
        Due.read(x, "e:;", -21);
        Due.read(x, "e/;", -21);
        counts(x, 3, 0, 0);
        Due.read(x, "k21;e2;p20;", 3);
        GalleryRows seven = Due.house(7);
        Due.read(seven, "k67;", -22);
        Due.read(seven, "k76;", -21);
        Due.read(seven, "e7;", -21);
        Due.read(seven, "p70;", -21);
        Due.read(seven, "k65;e6;p63;", 3);
        Due.read(x, "e3;m0-9;", -21);
        Due.read(x, "m0-9;e3;", 2);
    }

    private static void memberWithoutMembers() {
        Due.by("FAULT: of a MEMBER that is not there, no MEMBERS");
        GalleryRows x = new GalleryRows();
        Due.read(x, "k00;", -21);
        Due.read(x, "k01;", -21);
        Due.read(x, "e0;", -21);
        Due.read(x, "p00;", -21);
        Due.read(x, "v0:y;", -23);
        counts(x, 0, 0, 0);
    }

    private static void memberNamedTwice() {
        Due.by("FAULT: of one twice its digit");
        GalleryRows x = Due.house(7);
        for (int m = 0; m < 7; m++) {
            Due.read(x, "k" + m + m + ";", -22);
            Due.read(x, "k" + m + m, -22);
        }
        counts(x, 7, 0, 0);
        Due.read(x, "p00;p11;p22;p33;", 4);
    }

    private static void partyAboveThree() {
        Due.by("FAULT: of a PARTY above 3 its digit");
        GalleryRows x = Due.house(1);
        Due.read(x, "p04;", -22);
        Due.read(x, "p09;", -22);
        Due.read(x, "p04", -22);
        Due.is("party(0, 2)", x.party(0, 2), 0);
        Due.read(x, "p03;", 1);
        Due.is("party(0, 2)", x.party(0, 2), 3);
        Due.read(x, "p00;", 1);
        Due.is("party(0, 2)", x.party(0, 2), 0);
    }

    private static void toAheadOfFrom() {
        Due.by("FAULT: of a YEAR \"to\" ahead of \"from\" its first digit");
        GalleryRows x = new GalleryRows();
        Due.read(x, "m1-0;", -23);
        Due.read(x, "m10-9;", -24);
        Due.read(x, "m99-98;", -24);
        Due.read(x, "m99-0;", -24);
        Due.read(x, "m50-49", -24);
        Due.read(x, "m50-49x", -24);
        Due.read(x, "m5-4x", -23);
        // The document leaves open whether a "to" that the end cuts short lacks its second digit.
        Due.read(x, "m5-4", -23);
        Due.read(x, "m23-4", -24);
        counts(x, 0, 0, 0);
        Due.read(x, "m1-1;m10-10;m99-99;m0-0;m9-10;", 5);
    }

    private static void wordOfOneNotOfThatYear() {
        Due.by("FAULT: of a word of one who is not of that YEAR and not \"a\" its own");
        GalleryRows x = new GalleryRows();
        Due.read(x, "m10-20;m0-99;m30-30;", 3);
        Due.read(x, "v9:yaa;", -23);
        Due.read(x, "v9:naa;", -23);
        Due.read(x, "v21:yaa;", -24);
        Due.read(x, "v29:aay;", -26);
        Due.read(x, "v31:ayn;", -26);
        Due.read(x, "v31:an", -26);
        Due.read(x, "v31:ann", -26);
        counts(x, 3, 0, 0);
        Due.read(x, "v9:aya;v10:yya;v20:nna;v21:ana;v29:aaa;v30:aan;v31:aya;", 7);
        Due.is("of(1, 1)", x.of(1, 1), 3);
        Due.is("of(2, 2)", x.of(2, 2), 3);
        Due.is("of(5, 2)", x.of(5, 2), 4);
    }

    private static void eighthMember() {
        Due.by("FAULT: of an eighth MEMBER its letter");
        GalleryRows x = Due.house(6);
        Due.read(x, "m3-4;m0-9;", -25);
        counts(x, 7, 0, 0);
        for (String text : new String[] {"m", "m1", "m1-2;", "m9-8;", "mx", "m05-6;"}) {
            Due.read(x, text, -20);
            Due.read(x, "e0;" + text, -23);
        }
        counts(x, 7, 0, 1);
        Due.is("vote(5, 64, 0)", x.vote(5, 64, 0), -3);
        Due.is("vote(4, 64, 0)", x.vote(4, 64, 0), 0);
        Due.is("count(16)", x.count(16), 0);
    }

    private static void twentyFifthVote() {
        Due.by("FAULT: of a 25th VOTE its letter");
        GalleryRows x = Due.house(1);
        for (int v = 0; v < 22; v++) {
            x.vote(v, 0, 0);
        }
        Due.read(x, "v5:y;v6:n;v7:a;", -30);
        counts(x, 1, 24, 0);
        Due.is("of(22, 1)", x.of(22, 1), 1);
        Due.is("of(23, 2)", x.of(23, 2), 1);
        for (String text : new String[] {"v", "v7", "v7:", "v7:x", "v100:", "v07:"}) {
            Due.read(x, text, -20);
        }
        x.takeOut();
        Due.read(x, "v9:y;v9:y;", -25);
        Due.is("of(23, 0)", x.of(23, 0), 9);
        Due.is("count(16)", x.count(16), 0);
    }

    private static void eleventhHeld() {
        Due.by("FAULT: of an eleventh HELD its letter");
        GalleryRows x = Due.house(7);
        Due.read(x, "k01;k12;k23;k34;k45;k56;k60;e0;", 8);
        Due.read(x, "e1;e2;e3;", -26);
        counts(x, 7, 0, 10);
        for (String text : new String[] {"e3;", "e", "e9;", "k02;", "k", "k0", "k77;", "k00;"}) {
            Due.read(x, text, -20);
            Due.read(x, "p00;" + text, -24);
        }
        counts(x, 7, 0, 10);
        Due.is("count(16)", x.count(16), 0);
        GalleryRows neighbours = Due.house(7);
        Due.read(neighbours, "k01;k02;k03;k04;k05;k06;k12;k13;k14;k15;k16;", -60);
        counts(neighbours, 7, 0, 10);
        GalleryRows ends = Due.house(7);
        Due.read(ends, "e0;e1;e2;e3;e4;e5;e6;k01;k12;k23;e0;", -53);
        counts(ends, 7, 0, 10);
    }

    private static void heldSoAlready() {
        Due.by("what is HELD so already is HELD once");
        GalleryRows x = Due.house(3);
        Due.read(x, "k01;k01;k10;e2;e2;", 5);
        counts(x, 3, 0, 2);
        Due.is("hold(1, 0)", x.hold(1, 0), -3);
        Due.is("hold(2, -1)", x.hold(2, -1), -3);
        Due.read(x, "k10", -23);
        Due.read(x, "e2", -22);
        Due.read(x, "e2x", -22);
        Due.read(x, "k10;e0;", 2);
        counts(x, 3, 0, 3);
        Due.is("free()", x.free(), 3);
        Due.read(x, "k10;k01;", 2);
        counts(x, 3, 0, 1);
    }

    private static void heldSoAlreadyOfTen() {
        Due.by("FAULT: of one that is HELD so too its letter, with ten HELD");
        GalleryRows x = Due.tenHeld();
        Due.read(x, "k01;", -20);
        Due.read(x, "k10;", -20);
        Due.read(x, "e0;", -20);
        Due.read(x, "p00;e0", -24);
        counts(x, 7, 0, 10);
        GalleryRows nine = Due.house(7);
        Due.read(nine, "k01;k12;k23;k34;k45;k56;k60;e0;e1;", 9);
        Due.read(nine, "k01;e1;e0;k65;e2;e2;", -37);
        counts(nine, 7, 0, 10);
    }

    private static void whatIsWholeCame() {
        Due.by("what is whole ahead of a FAULT came, too");
        GalleryRows x = new GalleryRows();
        Due.read(x, "m0-99;m0-9;v5:yn;k01;e0;p12;x", -48);
        counts(x, 2, 1, 2);
        Due.is("party(1, 0)", x.party(1, 0), 2);
        Due.is("of(0, 1)", x.of(0, 1), 1);
        Due.is("best(1)", x.best(1), 1);
        Due.read(x, "m0-99;m", -27);
        Due.is("best(1)", x.best(1), 1);
        Due.row(x, 0, 0, 1, 2);
        Due.read(x, "v3:nyn;v", -28);
        Due.is("odd(1)", x.odd(1), 2);
    }

    private static void whatIsNotWholeDidNotCome() {
        Due.by("what is not whole ahead of a FAULT did not come");
        GalleryRows x = Due.house(2);
        for (String text : new String[] {"m0-99", "m0-99x", "v5:yn", "v5:yn,", "k01", "k01.", "e0", "e0e", "p13", "p13p"}) {
            Due.readText(x, text);
            counts(x, 2, 0, 0);
        }
        Due.is("party(1, 0)", x.party(1, 0), 0);
        Due.is("best(1)", x.best(1), 1);
    }

    private static void votesAheadOfAMember() {
        Due.by("VOTES ahead of a MEMBER have it away");
        GalleryRows x = new GalleryRows();
        Due.read(x, "v5:;m0-99;v5:y;m0-99;v5:yn;", 5);
        int[][] due = {{0, 0}, {1, 0}, {1, 2}};
        for (int v = 0; v < 3; v++) {
            Due.is("of(" + v + ", 1)", x.of(v, 1), due[v][0]);
            Due.is("of(" + v + ", 2)", x.of(v, 2), due[v][1]);
        }
        Due.is("count(5)", x.count(5), 3);
        Due.is("say(0, 0)", x.say(0, 0), 0);
        Due.is("say(1, 1)", x.say(1, 1), 1);
        Due.is("say(2, 1)", x.say(2, 1), -3);
    }

    private static void aMemberReadIsNew() {
        Due.by("a PARTY is 0 at first, a place 0, 0 at first");
        GalleryRows x = new GalleryRows();
        x.image();
        Due.read(x, "m0-99;p03;", 2);
        x.place(0, 4, 4);
        x.restore();
        Due.read(x, "m0-99;", 1);
        Due.is("party(0, 1)", x.party(0, 1), 0);
        Due.is("place(0, 1, 1)", x.place(0, 1, 1), 0);
    }

    private static void nothingIsCounted() {
        Due.by("promise 3, nothing is counted");
        GalleryRows x = Due.tenHeld();
        for (String text : new String[] {"m0-9;", "v5:yyyyyyyy;", "k07;", "e9;", "p80;", "p04;", "q", "", "m"}) {
            Due.readText(x, text);
        }
        for (int what = 11; what <= 16; what++) {
            Due.is("count(" + what + ")", x.count(what), 0);
        }
    }

    private static void theFirstOfSeveralFaults() {
        Due.by("FAULT: the first of several");
        GalleryRows x = Due.house(3);
        Due.read(x, "p94;", -21);
        Due.read(x, "k99;", -21);
        Due.read(x, "k9", -21);
        Due.read(x, "m50-1x;x", -24);
        Due.read(x, "v1:yxz", -24);
        Due.read(x, "v100:x", -23);
        Due.read(x, "e0;e9;x", -24);
        counts(x, 3, 0, 1);
    }
}
