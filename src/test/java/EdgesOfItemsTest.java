import java.time.YearMonth;
import java.util.Arrays;

/** ITEMS, FAULTS and promise 23: each sentence that names a boundary has a test of its own. */
public final class EdgesOfItemsTest {
    private static final Due DUE = new Due();
    private static final int CERT = 0;
    private static final int ASK = 1;
    private static final int ANSWER = 2;
    private static final int STRANGE = 5;
    private static final long LAST = 3155759999L;
    private static final byte[] NAME = Texts.text("root");
    private static final byte[] ID = Texts.id(NAME, Texts.key(5), 7);
    private static final byte[][] TEXTS = {cert(), Texts.ask(new byte[3], ID, ID), answer()};

    private EdgesOfItemsTest() {
    }

    public static void main(String[] args) {
        DUE.sentence("23: what = 0 a cert, 1 an ask, 2 an answer; BAD", EdgesOfItemsTest::whats);
        DUE.sentence("23: It stays", EdgesOfItemsTest::tapeStays);
        DUE.sentence("23: how many items of all sorts", EdgesOfItemsTest::counts);
        DUE.sentence("length: one byte below 128", EdgesOfItemsTest::shortLengths);
        DUE.sentence("length: 129 and one byte, 128 at least", EdgesOfItemsTest::lengthsOf129);
        DUE.sentence("length: 130 and two bytes, 256 at least", EdgesOfItemsTest::lengthsOf130);
        DUE.sentence("length: no other", EdgesOfItemsTest::otherLengths);
        DUE.sentence("INTEGER: 0 .. 2^63 - 1", EdgesOfItemsTest::integers);
        DUE.sentence("INTEGER: as few bytes as can be, the highest bit 0", EdgesOfItemsTest::integerBytes);
        DUE.sentence("a serial, also of an id, below 2^31", EdgesOfItemsTest::serials);
        DUE.sentence("a key 2 .. P - 1", EdgesOfItemsTest::keys);
        DUE.sentence("flags 0 .. 3", EdgesOfItemsTest::flags);
        DUE.sentence("CODE: one byte, 0 .. 10", EdgesOfItemsTest::codes);
        DUE.sentence("TIME: fifteen characters", EdgesOfItemsTest::timeCharacters);
        DUE.sentence("TIME: of years 2000 .. 2099", EdgesOfItemsTest::timeYears);
        DUE.sentence("TIME: a day that there is", EdgesOfItemsTest::timeDays);
        DUE.sentence("TIME: hhmmss", EdgesOfItemsTest::timeOfDay);
        DUE.sentence("BITS: a byte 0; signatures are 8 bytes behind the 0", EdgesOfItemsTest::bits);
        DUE.sentence("names, also of body, 1 to 16 bytes", EdgesOfItemsTest::names);
        DUE.sentence("HASHES: 8 bytes each", EdgesOfItemsTest::hashes);
        DUE.sentence("nonce, 1 to 16", EdgesOfItemsTest::nonces);
        DUE.sentence("ROW of 1 to 8 ids", EdgesOfItemsTest::idsOfAsk);
        DUE.sentence("ROW of 1 to 8 singles", EdgesOfItemsTest::singles);
        DUE.sentence("state: without anything", EdgesOfItemsTest::states);
        DUE.sentence("[1] { name } or [2] { HASH }", EdgesOfItemsTest::tellers);
        DUE.sentence("CODE status; if that is 0: [0]", EdgesOfItemsTest::statuses);
        DUE.sentence("perhaps", EdgesOfItemsTest::perhaps);
        DUE.sentence("FAULTS: the first item that can't be there", EdgesOfItemsTest::cannotBeThere);
        DUE.sentence("FAULTS: it is in the wrong one of two", EdgesOfItemsTest::inTheWrongOne);
        DUE.sentence("FAULTS: another sort", EdgesOfItemsTest::otherSorts);
        DUE.sentence("FAULTS: goes beyond what it is in", EdgesOfItemsTest::beyond);
        DUE.sentence("FAULTS: the length itself goes beyond what it is in", EdgesOfItemsTest::noLength);
        DUE.sentence("FAULTS: the end of what it should be in, if one lacks", EdgesOfItemsTest::lacks);
        DUE.sentence("FAULTS: what stands behind all", EdgesOfItemsTest::behindAll);
        DUE.sentence("FAULTS: the first of several", EdgesOfItemsTest::firstOfSeveral);
        DUE.sentence("FAULTS: of an empty text", EdgesOfItemsTest::empty);
        DUE.end("EdgesOfItemsTest");
    }

    private static byte[] cert() {
        return Texts.signed(Texts.certInner(5, NAME, NAME, 0, LAST, 2147483578L, 3), 5);
    }

    /** All that is perhaps there is there, and each state. */
    private static byte[] answer() {
        byte[] body = Texts.body(Texts.byKey(9), 2000, new byte[16], Texts.single(ID, Texts.takenBack(5, 1), 2000, 2500),
                Texts.single(ID, Texts.good(), 0, LAST), Texts.single(ID, Texts.notKnown(), LAST, 0));
        return Texts.answer(body, Texts.sign(5, body), cert());
    }

    private static Tree tree(int what) {
        return Tree.of(what, TEXTS[what]);
    }

    private static int check(int what, byte[] text) {
        StatusDesk desk = new StatusDesk();
        Texts.feed(desk, text);
        return desk.check(what);
    }

    private static void isRight(String call, int what, Tree tree) {
        DUE.is(call, check(what, tree.bytes()), tree.items());
    }

    private static void isFault(String call, int what, Tree tree, int place) {
        DUE.is(call, check(what, tree.bytes()), -10 - place);
    }

    /** The item at a path has these bytes and is right, or a fault at its place. */
    private static void has(String call, int what, boolean right, byte[] bytes, int... path) {
        Tree tree = tree(what);
        tree.at(path).has = bytes;
        if (right) {
            isRight(call + " at " + Arrays.toString(path), what, tree);
        } else {
            isFault(call + " at " + Arrays.toString(path), what, tree, tree.place(path));
        }
    }

    private static void whats() {
        for (int on = 0; on < 3; on++) {
            for (int what : new int[] {-1, 3, 4, Integer.MIN_VALUE, Integer.MAX_VALUE}) {
                DUE.is("what " + what, check(what, TEXTS[on]), StatusDesk.BAD);
            }
            for (int what = 0; what < 3; what++) {
                DUE.is("text " + on + " as " + what, check(what, TEXTS[on]) > 0, what == on);
            }
        }
        DUE.is("-1 of an empty TAPE", check(-1, Texts.none()), StatusDesk.BAD);
        DUE.is("3 of an empty TAPE", check(3, Texts.none()), StatusDesk.BAD);
    }

    private static void tapeStays() {
        StatusDesk desk = new StatusDesk();
        Texts.feed(desk, TEXTS[ANSWER]);
        long hash = desk.hash();
        for (int what : new int[] {2, 0, 1, -1, 3}) {
            desk.check(what);
            DUE.is("so many behind check " + what, desk.told(3), TEXTS[ANSWER].length);
            DUE.is("the same behind check " + what, desk.hash(), hash);
        }
        DUE.is("again", desk.check(2), tree(ANSWER).items());
    }

    private static void counts() {
        DUE.is("a cert", check(CERT, TEXTS[CERT]), 10);
        DUE.is("the least ask", check(ASK, Texts.ask(Texts.none(), ID)), 6);
        DUE.is("with a nonce", check(ASK, Texts.ask(new byte[1], ID)), 8);
        DUE.is("the largest ask", check(ASK, Texts.ask(new byte[16], ID, ID, ID, ID, ID, ID, ID, ID)), 36);
        DUE.is("the least answer", check(ANSWER, Texts.status(1)), 2);
        byte[] good = Texts.single(ID, Texts.good(), 0, -1);
        byte[] least = Texts.body(Texts.byName(NAME), 0, Texts.none(), good);
        DUE.is("the least of status 0", check(ANSWER, Texts.answer(least, new byte[8], Texts.none())), 5 + 2 + 1 + 1 + 7 + 1);
        byte[] taken = Texts.single(ID, Texts.takenBack(0, 0), 0, 0);
        byte[] most = Texts.body(Texts.byKey(5), 0, new byte[16], taken, taken, taken, taken, taken, taken, taken, taken);
        DUE.is("the largest", check(ANSWER, Texts.answer(most, new byte[8], cert())), 5 + 2 + 1 + 1 + 88 + 2 + 1 + 1 + 10);
    }

    private static byte[] longRow(int length) {
        byte[] row = Texts.none();
        for (int n = length; n > 0; n -= 2) {
            row = Texts.join(row, n % 2 == 1 ? new byte[] {STRANGE, 1, 0} : new byte[] {STRANGE, 0});
            n -= n % 2;
        }
        return row;
    }

    /** A ROW whose length is told like that is gone into: the fault is in it, not the ROW. */
    private static void isGoneInto(String call, int length, int... head) {
        byte[] told = new byte[head.length];
        for (int i = 0; i < head.length; i++) {
            told[i] = (byte) head[i];
        }
        byte[] text = Texts.join(new byte[] {48}, told, longRow(length));
        for (int what = 0; what < 3; what++) {
            DUE.is(call, check(what, text), -10 - (1 + head.length));
        }
    }

    private static void isNotGoneInto(String call, int length, int... head) {
        byte[] told = new byte[head.length];
        for (int i = 0; i < head.length; i++) {
            told[i] = (byte) head[i];
        }
        byte[] text = Texts.join(new byte[] {48}, told, longRow(length));
        for (int what = 0; what < 3; what++) {
            DUE.is(call, check(what, text), -10);
        }
    }

    private static void shortLengths() {
        isGoneInto("0", 0, 0);
        isGoneInto("2", 2, 2);
        isGoneInto("126", 126, 126);
        isGoneInto("127", 127, 127);
        isNotGoneInto("128 in one byte", 128, 128);
        isNotGoneInto("255 in one byte", 255, 255);
    }

    private static void lengthsOf129() {
        isNotGoneInto("129 0", 0, 129, 0);
        isNotGoneInto("129 127", 127, 129, 127);
        isGoneInto("129 128", 128, 129, 128);
        isGoneInto("129 129", 129, 129, 129);
        isGoneInto("129 254", 254, 129, 254);
        isGoneInto("129 255", 255, 129, 255);
        for (int what = 0; what < 3; what++) {
            DUE.is("its byte lacks", check(what, new byte[] {48, (byte) 129}), -10);
            longHeads(what, 129);
        }
    }

    private static void lengthsOf130() {
        isNotGoneInto("130 0 0", 0, 130, 0, 0);
        isNotGoneInto("130 0 127", 127, 130, 0, 127);
        isNotGoneInto("130 0 128", 128, 130, 0, 128);
        isNotGoneInto("130 0 255", 255, 130, 0, 255);
        isGoneInto("130 1 0", 256, 130, 1, 0);
        isGoneInto("130 1 1: the higher first", 257, 130, 1, 1);
        isGoneInto("130 1 255", 511, 130, 1, 255);
        isGoneInto("130 2 0", 512, 130, 2, 0);
        isGoneInto("as long as the TAPE", 1496, 130, 5, 216);
        isNotGoneInto("longer than the TAPE", 1496, 130, 5, 217);
        isNotGoneInto("the longest", 1496, 130, 255, 255);
        for (int what = 0; what < 3; what++) {
            DUE.is("its bytes lack", check(what, new byte[] {48, (byte) 130}), -10);
            DUE.is("one of them lacks", check(what, new byte[] {48, (byte) 130, 1}), -10);
            longHeads(what, 130);
        }
    }

    /** Each item, its length told with a head that is not the shortest one. */
    private static void longHeads(int what, int first) {
        for (int[] path : tree(what).paths()) {
            Tree tree = tree(what);
            int length = tree.at(path).inside().length;
            if (length < (first == 129 ? 128 : 256)) {
                byte[] head = {(byte) first, (byte) (length >> 8), (byte) length};
                tree.at(path).head = first == 129 ? new byte[] {head[0], head[2]} : head;
                isFault("text " + what + ", " + first + " " + length + " at " + Arrays.toString(path), what, tree, tree.place(path));
            }
        }
    }

    private static void otherLengths() {
        isNotGoneInto("128", 0, 128);
        isNotGoneInto("128, and two bytes 0", 2, 128);
        isNotGoneInto("131 0 1 0", 256, 131, 0, 1, 0);
        isNotGoneInto("132 0 0 1 0", 256, 132, 0, 0, 1, 0);
        for (int first = 131; first < 256; first++) {
            isNotGoneInto("head " + first, first, first);
        }
        for (int what = 0; what < 3; what++) {
            for (int[] path : tree(what).paths()) {
                for (int first : new int[] {128, 131, 255}) {
                    Tree tree = tree(what);
                    int length = tree.at(path).inside().length;
                    tree.at(path).head = first == 131 ? new byte[] {(byte) first, 0, (byte) (length >> 8), (byte) length}
                            : new byte[] {(byte) first};
                    isFault("text " + what + ", head " + first + " at " + Arrays.toString(path), what, tree, tree.place(path));
                }
            }
        }
    }

    /** Where there is an INTEGER: a cert's serial, key and flags, also in an answer; the serials of ids. */
    private static final int[][] CERT_INTEGERS = {{0, 0}, {0, 5}, {0, 6}};
    private static final int[][] ASK_INTEGERS = {{0, 0, 2}, {0, 1, 2}};
    private static final int[][] ANSWER_INTEGERS = {{1, 0, 0, 2, 0, 0, 2}, {1, 0, 0, 2, 1, 0, 2}, {1, 0, 0, 2, 2, 0, 2},
        {1, 0, 2, 0, 0, 0}, {1, 0, 2, 0, 0, 5}, {1, 0, 2, 0, 0, 6}};
    private static final int[][][] INTEGERS = {CERT_INTEGERS, ASK_INTEGERS, ANSWER_INTEGERS};

    private static byte[] number(int... bytes) {
        byte[] number = new byte[bytes.length];
        for (int i = 0; i < bytes.length; i++) {
            number[i] = (byte) bytes[i];
        }
        return number;
    }

    private static void integers() {
        for (int what = 0; what < 3; what++) {
            for (int[] path : INTEGERS[what]) {
                has("2^63 - 1", what, false, number(127, 255, 255, 255, 255, 255, 255, 255), path);
                has("2^63", what, false, number(0, 128, 0, 0, 0, 0, 0, 0, 0), path);
                has("2^64 + 2", what, false, number(1, 0, 0, 0, 0, 0, 0, 0, 2), path);
                has("2^32 + 2", what, false, number(1, 0, 0, 0, 2), path);
                has("2^56 + 2", what, false, number(1, 0, 0, 0, 0, 0, 0, 2), path);
                has("2, the least for all", what, true, number(2), path);
            }
        }
    }

    private static void integerBytes() {
        for (int what = 0; what < 3; what++) {
            for (int[] path : INTEGERS[what]) {
                has("no byte", what, false, number(), path);
                has("the highest bit", what, false, number(128), path);
                has("all bits", what, false, number(255), path);
                has("the highest bit of four", what, false, number(128, 0, 0, 2), path);
                has("the highest bit of eight", what, false, number(255, 255, 255, 255, 255, 255, 255, 254), path);
                has("2 in two bytes", what, false, number(0, 2), path);
                has("0 in two bytes", what, false, number(0, 0), path);
                has("2 in eight bytes", what, false, number(0, 0, 0, 0, 0, 0, 0, 2), path);
                has("2 in nine bytes", what, false, number(0, 0, 0, 0, 0, 0, 0, 0, 2), path);
                has("127 in two bytes", what, false, number(0, 127), path);
            }
        }
        has("128 needs two", CERT, true, number(0, 128), 0, 0);
        has("255 needs two", ASK, true, number(0, 255), 0, 0, 2);
        has("32767 in three", ASK, false, number(0, 127, 255), 0, 0, 2);
        has("32768 needs three", ASK, true, number(0, 128, 0), 0, 0, 2);
    }

    private static void serials() {
        int[][][] paths = {{{0, 0}}, ASK_INTEGERS, Arrays.copyOf(ANSWER_INTEGERS, 4)};
        for (int what = 0; what < 3; what++) {
            for (int[] path : paths[what]) {
                has("0", what, true, number(0), path);
                has("2^31 - 1", what, true, number(127, 255, 255, 255), path);
                has("2^31", what, false, number(0, 128, 0, 0, 0), path);
                has("2^32 - 1", what, false, number(0, 255, 255, 255, 255), path);
                has("2^32", what, false, number(1, 0, 0, 0, 0), path);
            }
        }
    }

    private static void keys() {
        for (int what : new int[] {CERT, ANSWER}) {
            int[] path = what == CERT ? new int[] {0, 5} : new int[] {1, 0, 2, 0, 0, 5};
            has("0", what, false, number(0), path);
            has("1", what, false, number(1), path);
            has("2", what, true, number(2), path);
            has("P - 1", what, true, number(127, 255, 255, 186), path);
            has("P", what, false, number(127, 255, 255, 187), path);
            has("2^31 - 1", what, false, number(127, 255, 255, 255), path);
        }
    }

    private static void flags() {
        for (int what : new int[] {CERT, ANSWER}) {
            int[] path = what == CERT ? new int[] {0, 6} : new int[] {1, 0, 2, 0, 0, 6};
            for (int flags = 0; flags <= 127; flags++) {
                has("flags " + flags, what, flags <= 3, number(flags), path);
            }
            has("flags 256", what, false, number(1, 0), path);
        }
    }

    private static void codes() {
        int[] reason = {1, 0, 0, 2, 0, 1, 1};
        for (int code = 0; code < 256; code++) {
            has("reason " + code, ANSWER, code <= 10, number(code), reason);
            DUE.is("status " + code, check(ANSWER, Texts.status(code)), code == 0 ? -15 : code <= 10 ? 2 : -12);
        }
        has("no byte", ANSWER, false, number(), reason);
        has("two bytes", ANSWER, false, number(0, 0), reason);
        has("no byte", ANSWER, false, number(), 0);
        has("two bytes", ANSWER, false, number(0, 0), 0);
    }

    private static final int[][] CERT_TIMES = {{0, 3}, {0, 4}};
    private static final int[][] ANSWER_TIMES = {{1, 0, 0, 1}, {1, 0, 0, 2, 0, 1, 0}, {1, 0, 0, 2, 0, 2}, {1, 0, 0, 2, 0, 3, 0},
        {1, 0, 0, 2, 1, 2}, {1, 0, 0, 2, 2, 3, 0}, {1, 0, 2, 0, 0, 3}, {1, 0, 2, 0, 0, 4}};

    /** At each place where a TIME is. */
    private static void isTime(String stamp, boolean right) {
        for (int[] path : CERT_TIMES) {
            has(stamp, CERT, right, Texts.text(stamp), path);
        }
        for (int[] path : ANSWER_TIMES) {
            has(stamp, ANSWER, right, Texts.text(stamp), path);
        }
    }

    private static void timeCharacters() {
        String right = "20400615101112Z";
        isTime(right, true);
        for (String stamp : new String[] {"", "2040061510111Z", "204006151011120Z", "20400615101112", "204006151011123", "20400615101112z"}) {
            isTime(stamp, false);
        }
        for (int i = 0; i < 14; i++) {
            for (char c : new char[] {'/', ':', ' ', '+', '-', 'Z', 'a', (char) 0, (char) 128, (char) 0xB2, (char) 255}) {
                has("character " + i + " is " + (int) c, CERT, false, Texts.text(right.substring(0, i) + c + right.substring(i + 1)), 0, 3);
            }
        }
        for (int c = 0; c < 256; c++) {
            has("the last is " + c, CERT, c == 'Z', Texts.text(right.substring(0, 14) + (char) c), 0, 4);
        }
    }

    private static void timeYears() {
        isTime("20000101000000Z", true);
        isTime("19991231235959Z", false);
        isTime("20991231235959Z", true);
        isTime("21000101000000Z", false);
        for (int year : new int[] {0, 1, 99, 100, 1900, 1970, 1999, 2100, 2999, 9999}) {
            isTime(String.format("%04d0615101112Z", year), false);
        }
        for (int year = 2000; year < 2100; year++) {
            has("year " + year, CERT, true, Texts.text(year + "0615101112Z"), 0, 3);
        }
    }

    private static void timeDays() {
        isTime("20000229000000Z", true);
        isTime("20010229000000Z", false);
        for (int year : new int[] {2000, 2001, 2003, 2004, 2096, 2099}) {
            for (int month = 0; month <= 13; month++) {
                int last = month < 1 || month > 12 ? 0 : YearMonth.of(year, month).lengthOfMonth();
                for (int day : new int[] {0, 1, 28, 29, 30, 31, 32, 99}) {
                    String stamp = String.format("%04d%02d%02d235959Z", year, month, day);
                    has(stamp, CERT, day >= 1 && day <= last, Texts.text(stamp), 0, 3);
                }
            }
        }
        for (int year = 2000; year < 2100; year++) {
            has("29 February " + year, CERT, year % 4 == 0, Texts.text(year + "0229101112Z"), 0, 3);
        }
        isTime("20019901000000Z", false);
    }

    private static void timeOfDay() {
        for (int n = 0; n < 100; n++) {
            has("hour " + n, CERT, n < 24, Texts.text(String.format("20400615%02d0000Z", n)), 0, 3);
            has("minute " + n, CERT, n < 60, Texts.text(String.format("2040061500%02d00Z", n)), 0, 3);
            has("second " + n, CERT, n < 60, Texts.text(String.format("204006150000%02dZ", n)), 0, 3);
        }
        isTime("20400615235959Z", true);
        isTime("20400615240000Z", false);
        isTime("20400615236059Z", false);
        isTime("20400615235960Z", false);
    }

    private static void bits() {
        int[][] paths = {{1}, {1, 0, 1}, {1, 0, 2, 0, 1}};
        for (int i = 0; i < 3; i++) {
            int what = i == 0 ? CERT : ANSWER;
            for (int n = 0; n <= 18; n++) {
                has(n + " bytes", what, n == 9, new byte[n], paths[i]);
            }
            for (int first = 1; first < 256; first++) {
                has("first " + first, what, false, number(first, 0, 0, 0, 0, 0, 0, 0, 0), paths[i]);
            }
            has("no signature of anybody", what, true, number(0, 255, 255, 255, 255, 255, 255, 255, 255), paths[i]);
        }
    }

    private static void names() {
        for (int n = 0; n <= 20; n++) {
            boolean right = n >= 1 && n <= 16;
            has("issuer of " + n, CERT, right, new byte[n], 0, 1);
            has("name of " + n, CERT, right, new byte[n], 0, 2);
            has("issuer of " + n, ANSWER, right, new byte[n], 1, 0, 2, 0, 0, 1);
            has("name of " + n, ANSWER, right, new byte[n], 1, 0, 2, 0, 0, 2);
            Tree tree = tree(ANSWER);
            tree.at(1, 0, 0, 0).sort = 161;
            tree.at(1, 0, 0, 0, 0).has = new byte[n];
            if (right) {
                isRight("body's name of " + n, ANSWER, tree);
            } else {
                isFault("body's name of " + n, ANSWER, tree, tree.place(1, 0, 0, 0, 0));
            }
        }
    }

    private static void hashes() {
        int[][] asked = {{0, 0, 0}, {0, 0, 1}, {0, 1, 0}, {0, 1, 1}};
        int[][] answered = {{1, 0, 0, 0, 0}, {1, 0, 0, 2, 0, 0, 0}, {1, 0, 0, 2, 0, 0, 1}, {1, 0, 0, 2, 2, 0, 0}, {1, 0, 0, 2, 2, 0, 1}};
        for (int n = 0; n <= 17; n++) {
            for (int[] path : asked) {
                has("HASH of " + n, ASK, n == 8, new byte[n], path);
            }
            for (int[] path : answered) {
                has("HASH of " + n, ANSWER, n == 8, new byte[n], path);
            }
        }
    }

    private static void nonces() {
        for (int n = 0; n <= 20; n++) {
            has("nonce of " + n, ASK, n >= 1 && n <= 16, new byte[n], 1, 0);
            has("nonce of " + n, ANSWER, n >= 1 && n <= 16, new byte[n], 1, 0, 0, 3, 0);
        }
    }

    private static void isRowOf(int what, int n, int most, int... path) {
        Tree tree = tree(what);
        Tree row = tree.at(path);
        while (row.parts.size() > n) {
            row.parts.remove(0);
        }
        while (row.parts.size() < n) {
            row.parts.add(row.parts.get(0));
        }
        if (n == 0) {
            isFault("none", what, tree, tree.end(path));
        } else if (n > most) {
            int[] ninth = Arrays.copyOf(path, path.length + 1);
            ninth[path.length] = most;
            isFault(n + " of them", what, tree, tree.place(ninth));
        } else {
            isRight(n + " of them", what, tree);
        }
    }

    private static void idsOfAsk() {
        for (int n = 0; n <= 10; n++) {
            isRowOf(ASK, n, 8, 0);
        }
    }

    private static void singles() {
        for (int n = 0; n <= 10; n++) {
            isRowOf(ANSWER, n, 8, 1, 0, 0, 2);
        }
    }

    private static void states() {
        for (int single = 0; single < 3; single++) {
            int[] path = {1, 0, 0, 2, single, 1};
            for (int sort = 0; sort < 256; sort++) {
                Tree tree = tree(ANSWER);
                tree.at(1, 0, 0, 2, single).parts.set(1, new Tree(sort, new byte[0]));
                if (sort == 128 || sort == 130) {
                    isRight("state " + sort, ANSWER, tree);
                } else {
                    isFault("state " + sort, ANSWER, tree, sort == 161 ? tree.end(path) : tree.place(path));
                }
            }
            for (int sort : new int[] {128, 130}) {
                for (byte[] inside : new byte[][] {{0}, {5, 0}, Texts.time(0), new byte[128]}) {
                    Tree tree = tree(ANSWER);
                    tree.at(1, 0, 0, 2, single).parts.set(1, new Tree(sort, inside));
                    isFault("state " + sort + " with " + inside.length, ANSWER, tree, tree.place(path));
                }
            }
        }
    }

    private static void tellers() {
        byte[] name = Texts.bytes(new byte[8]);
        int[] path = {1, 0, 0, 0};
        for (int sort = 0; sort < 256; sort++) {
            Tree tree = tree(ANSWER);
            tree.at(1, 0, 0).parts.set(0, new Tree(sort, name));
            byte[] text = tree.bytes();
            boolean right = sort == 161 || sort == 162;
            DUE.is("told by " + sort, check(ANSWER, text), right ? tree(ANSWER).items() : -10 - tree.place(path));
        }
        for (int sort : new int[] {161, 162}) {
            Tree none = tree(ANSWER);
            none.at(1, 0, 0).parts.set(0, new Tree(sort, new byte[0]));
            isFault("nothing in it", ANSWER, none, none.end(path));
            Tree two = tree(ANSWER);
            two.at(1, 0, 0).parts.set(0, new Tree(sort, Texts.join(name, name)));
            isFault("two in it", ANSWER, two, two.end(path) - name.length);
        }
    }

    private static void statuses() {
        for (int status = 1; status <= 10; status++) {
            DUE.is("status " + status + " alone", check(ANSWER, Texts.status(status)), 2);
            Tree tree = tree(ANSWER);
            tree.at(0).has = number(status);
            isFault("status " + status + " with more", ANSWER, tree, tree.place(1));
        }
        DUE.is("status 0 alone", check(ANSWER, Texts.status(0)), -15);
        isRight("status 0 with it", ANSWER, tree(ANSWER));
        for (int sort : new int[] {161, 162, 48, 128, STRANGE}) {
            Tree tree = tree(ANSWER);
            tree.at(1).sort = sort;
            isFault("sort " + sort + " for [0]", ANSWER, tree, tree.place(1));
        }
    }

    private static void without(String call, int what, int... path) {
        Tree tree = tree(what);
        int[] holder = Arrays.copyOf(path, path.length - 1);
        tree.at(holder).parts.remove(path[path.length - 1]);
        isRight("without " + call, what, tree);
        tree = tree(what);
        int[] second = path.clone();
        second[path.length - 1]++;
        tree.at(holder).parts.add(tree.at(path));
        isFault("twice " + call, what, tree, tree.place(second));
    }

    private static void perhaps() {
        without("an ask's nonce", ASK, 1);
        without("a body's nonce", ANSWER, 1, 0, 0, 3);
        without("a cert", ANSWER, 1, 0, 2);
        without("next", ANSWER, 1, 0, 0, 2, 0, 3);
        without("next", ANSWER, 1, 0, 0, 2, 1, 3);
        without("next", ANSWER, 1, 0, 0, 2, 2, 3);
    }

    /** An item that is nowhere told, in front of each item and at the end of each that has items. */
    private static void cannotBeThere() {
        for (int what = 0; what < 3; what++) {
            for (int[] path : tree(what).paths()) {
                Tree inside = tree(what);
                if (inside.at(path).parts != null) {
                    int[] last = Arrays.copyOf(path, path.length + 1);
                    last[path.length] = inside.at(path).parts.size();
                    inside.at(path).parts.add(new Tree(STRANGE, new byte[0]));
                    isFault("text " + what + ", at the end of " + Arrays.toString(path), what, inside, inside.place(last));
                }
                if (path.length > 0) {
                    Tree before = tree(what);
                    before.at(Arrays.copyOf(path, path.length - 1)).parts.add(path[path.length - 1], new Tree(STRANGE, new byte[0]));
                    isFault("text " + what + ", in front of " + Arrays.toString(path), what, before, before.place(path));
                }
            }
        }
    }

    /** No byte is another but for lengths: an item takes the next one in, or leaves its own last one out. */
    private static void inTheWrongOne() {
        for (int what = 0; what < 3; what++) {
            for (int[] path : tree(what).paths()) {
                if (path.length > 0 && tree(what).at(path).parts != null) {
                    takesIn(what, path);
                    leavesOut(what, path);
                }
            }
        }
    }

    private static void takesIn(int what, int[] path) {
        Tree tree = tree(what);
        Tree outer = tree.at(Arrays.copyOf(path, path.length - 1));
        Tree item = tree.at(path);
        int next = path[path.length - 1] + 1;
        if (next < outer.parts.size()) {
            int[] place = Arrays.copyOf(path, path.length + 1);
            place[path.length] = item.parts.size();
            item.parts.add(outer.parts.remove(next));
            isFault("text " + what + ", one more in " + Arrays.toString(path), what, tree, tree.place(place));
        }
    }

    private static void leavesOut(int what, int[] path) {
        Tree tree = tree(what);
        Tree outer = tree.at(Arrays.copyOf(path, path.length - 1));
        Tree item = tree.at(path);
        int last = item.parts.size() - 1;
        int[] lastPath = Arrays.copyOf(path, path.length + 1);
        lastPath[path.length] = last;
        if (!isPerhaps(what, lastPath)) {
            outer.parts.add(path[path.length - 1] + 1, item.parts.remove(last));
            isFault("text " + what + ", one less in " + Arrays.toString(path), what, tree, tree.end(path));
        }
    }

    /** Each item with each other sort: another than those that may be there is a fault at its place. */
    private static void otherSorts() {
        for (int what = 0; what < 3; what++) {
            for (int[] path : tree(what).paths()) {
                int sort = tree(what).at(path).sort;
                for (int other : new int[] {0, 2, 3, 4, 10, 24, 48, 160, 161, 162, 163, 255}) {
                    Tree tree = tree(what);
                    tree.at(path).sort = other;
                    boolean teller = what == ANSWER && Arrays.equals(path, new int[] {1, 0, 0, 0});
                    boolean state = what == ANSWER && path.length == 6 && path[2] == 0 && path[5] == 1;
                    if (other != sort && !teller && !state) {
                        isFault("text " + what + ", sort " + other + " at " + Arrays.toString(path), what, tree, tree.place(path));
                    }
                }
            }
        }
    }

    /** The last of each that has items is told longer by one than what it is in. */
    private static void beyond() {
        for (int what = 0; what < 3; what++) {
            for (int[] path : tree(what).paths()) {
                Tree tree = tree(what);
                boolean last = path.length == 0
                        || path[path.length - 1] == tree.at(Arrays.copyOf(path, path.length - 1)).parts.size() - 1;
                if (last) {
                    int length = tree.at(path).inside().length + 1;
                    byte[] shortest = Texts.item(48, new byte[length]);
                    tree.at(path).head = Arrays.copyOfRange(shortest, 1, shortest.length - length);
                    isFault("text " + what + ", beyond at " + Arrays.toString(path), what, tree, tree.place(path));
                }
            }
        }
    }

    /** Of each item, as the last of what it is in, there is the sort alone, or a part of its length. */
    private static void noLength() {
        for (int what = 0; what < 3; what++) {
            for (int[] path : tree(what).paths()) {
                for (byte[] length : new byte[][] {{}, {(byte) 129}, {(byte) 130}, {(byte) 130, 1}, {(byte) 131, 0}, {1}, {127}}) {
                    Tree tree = tree(what);
                    int[] holder = Arrays.copyOf(path, Math.max(0, path.length - 1));
                    tree.at(path).raw = Texts.join(new byte[] {(byte) tree.at(path).sort}, length);
                    if (path.length > 0) {
                        Tree in = tree.at(holder);
                        in.parts = in.parts.subList(0, path[path.length - 1] + 1);
                    }
                    isFault("text " + what + ", " + length.length + " of the length at " + Arrays.toString(path), what, tree, tree.place(path));
                }
            }
        }
    }

    private static boolean isPerhaps(int what, int[] path) {
        String at = Arrays.toString(path);
        boolean next = path.length == 6 && path[0] == 1 && path[2] == 0 && path[3] == 2 && path[5] == 3;
        return what == ASK && at.equals("[1]") || what == ANSWER && (at.equals("[1, 0, 0, 3]") || at.equals("[1, 0, 2]") || next)
                || what == ASK && at.equals("[0, 1]") || what == ANSWER && (at.equals("[1, 0, 0, 2, 1]") || at.equals("[1, 0, 0, 2, 2]"));
    }

    /** Each item that must be there lacks, with all that stands behind it in the same item. */
    private static void lacks() {
        for (int what = 0; what < 3; what++) {
            for (int[] path : tree(what).paths()) {
                if (path.length > 0) {
                    Tree tree = tree(what);
                    int[] holder = Arrays.copyOf(path, path.length - 1);
                    Tree in = tree.at(holder);
                    in.parts = in.parts.subList(0, path[path.length - 1]);
                    if (isPerhaps(what, path)) {
                        isRight("text " + what + ", without " + Arrays.toString(path), what, tree);
                    } else {
                        isFault("text " + what + ", without " + Arrays.toString(path), what, tree, tree.end(holder));
                    }
                }
            }
        }
        byte[] noSerial = Texts.row(Texts.bytes(new byte[8]), Texts.bytes(new byte[8]));
        byte[] text = Texts.row(Texts.row(noSerial, ID));
        DUE.is("the end of the id, though another stands behind", check(ASK, text), -10 - (4 + noSerial.length));
    }

    private static void behindAll() {
        for (int what = 0; what < 3; what++) {
            byte[] text = TEXTS[what];
            for (byte[] more : new byte[][] {{0}, {48}, {5, 0}, text, new byte[100]}) {
                DUE.is("text " + what + " and " + more.length, check(what, Texts.join(text, more)), -10 - text.length);
            }
        }
        DUE.is("behind a status alone", check(ANSWER, Texts.join(Texts.status(6), new byte[] {10, 1, 0})), -15);
    }

    private static void firstOfSeveral() {
        for (int what = 0; what < 3; what++) {
            Tree tree = tree(what);
            int[] last = null;
            for (int[] path : tree.paths()) {
                last = tree.at(path).parts == null ? path : last;
            }
            tree.at(last).sort = STRANGE;
            byte[] both = Texts.join(tree.bytes(), new byte[3]);
            DUE.is("text " + what + ", inside before behind all", check(what, both), -10 - tree.place(last));
        }
        Tree times = tree(CERT);
        times.at(0, 3).has = Texts.text("20010229000000Z");
        times.at(0, 5).has = number(1);
        isFault("the TIME before the key", CERT, times, times.place(0, 3));
        times.at(0).sort = 49;
        isFault("the ROW before what it has", CERT, times, times.place(0));
        times.sort = 49;
        isFault("and the outermost", CERT, times, 0);
    }

    private static void empty() {
        for (int what = 0; what < 3; what++) {
            DUE.is("no byte", check(what, Texts.none()), -10);
            DUE.is("a sort alone", check(what, new byte[] {48}), -10);
            DUE.is("a ROW of nothing", check(what, new byte[] {48, 0}), -12);
            DUE.is("another sort of nothing", check(what, new byte[] {49, 0}), -10);
        }
    }
}
