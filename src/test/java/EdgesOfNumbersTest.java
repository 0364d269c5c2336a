import java.time.LocalDate;

/** NUMBERS, TIMES and promises 24 to 27: each sentence that names a boundary has a test of its own. */
public final class EdgesOfNumbersTest {
    private static final Due DUE = new Due();
    private static final int BAD = StatusDesk.BAD;
    private static final long LAST = 3155759999L;
    private static final int LAST_SECRET = 1073741788;
    private static final long P = 2147483579L;
    private static final long[] NO_TIMES = {-1, LAST + 1, -LAST, 1L << 32, Long.MIN_VALUE, Long.MAX_VALUE};
    private static final int[] FAR = {Integer.MIN_VALUE, -100, 100, Integer.MAX_VALUE};

    private EdgesOfNumbersTest() {
    }

    public static void main(String[] args) {
        DUE.sentence("A SECRET is 1 .. Q - 1, of an authority", EdgesOfNumbersTest::secrets);
        DUE.sentence("A SECRET is 1 .. Q - 1, of a signer", EdgesOfNumbersTest::signerSecrets);
        DUE.sentence("its KEY G^SECRET mod P", EdgesOfNumbersTest::keys);
        DUE.sentence("HASH: h, at first", EdgesOfNumbersTest::hashOfNothing);
        DUE.sentence("HASH: for each byte b", EdgesOfNumbersTest::hashOfEachByte);
        DUE.sentence("HASH: of the longest TAPE", EdgesOfNumbersTest::hashOfLongest);
        DUE.sentence("without sign where they are divided", EdgesOfNumbersTest::withoutSign);
        DUE.sentence("TIMES in calls are 0 .. 3155759999", EdgesOfNumbersTest::timesInCalls);
        DUE.sentence("24: A TIME as characters", EdgesOfNumbersTest::clockEdges);
        DUE.sentence("24: character i (0 .. 14)", EdgesOfNumbersTest::clockCharacters);
        DUE.sentence("24: BAD", EdgesOfNumbersTest::clockBad);
        DUE.sentence("25: which stays", EdgesOfNumbersTest::hashStays);
        DUE.sentence("26: of an authority (0), of signer k (1)", EdgesOfNumbersTest::keyNumbers);
        DUE.sentence("26: BAD", EdgesOfNumbersTest::keyBad);
        DUE.sentence("27: BAD", EdgesOfNumbersTest::toldBad);
        DUE.sentence("27: as many as can be", EdgesOfNumbersTest::toldMost);
        DUE.sentence("27: looks, but those refused", EdgesOfNumbersTest::toldLooks);
        DUE.sentence("27: answers of status 0 and others", EdgesOfNumbersTest::toldAnswers);
        DUE.end("EdgesOfNumbersTest");
    }

    private static int authority(StatusDesk desk, String name, int secret) {
        Texts.feed(desk, Texts.text(name));
        return desk.authority(secret);
    }

    private static StatusDesk root() {
        StatusDesk desk = new StatusDesk();
        authority(desk, "root", 12345);
        return desk;
    }

    private static void secrets() {
        for (int secret : new int[] {0, -1, -LAST_SECRET, LAST_SECRET + 1, LAST_SECRET + 2, Integer.MIN_VALUE, Integer.MAX_VALUE}) {
            StatusDesk desk = new StatusDesk();
            DUE.is("authority " + secret, authority(desk, "a", secret), BAD);
            DUE.is("none was made", desk.told(0), 0);
        }
        for (int secret : new int[] {1, 2, LAST_SECRET - 1, LAST_SECRET}) {
            DUE.is("authority " + secret, authority(new StatusDesk(), "a", secret), 0);
        }
    }

    private static int signer(StatusDesk desk, int secret) {
        desk.feed('s', 1);
        return desk.signer(0, secret, 5, 0, 0, 1);
    }

    private static void signerSecrets() {
        for (int secret : new int[] {0, -1, -LAST_SECRET, LAST_SECRET + 1, LAST_SECRET + 2, Integer.MIN_VALUE, Integer.MAX_VALUE}) {
            StatusDesk desk = root();
            DUE.is("signer " + secret, signer(desk, secret), BAD);
            DUE.is("none was made", desk.told(1), 0);
        }
        for (int secret : new int[] {1, 2, LAST_SECRET - 1, LAST_SECRET}) {
            DUE.is("signer " + secret, signer(root(), secret), 0);
        }
    }

    private static void isKey(int secret, long due) {
        StatusDesk desk = new StatusDesk();
        authority(desk, "a", secret);
        DUE.is("key of SECRET " + secret, desk.key(0, 0), due);
    }

    private static void keys() {
        isKey(1, 4);
        isKey(2, 16);
        isKey(15, 1073741824);
        isKey(16, (1L << 32) % P);
        // 4 times the KEY of Q - 1 is 4^Q, which is 1.
        isKey(LAST_SECRET, (P + 1) / 4);
        isKey(LAST_SECRET - 1, Texts.key(LAST_SECRET - 1));
        for (int bit = 0; bit < 30; bit++) {
            isKey(1 << bit, Texts.key(1 << bit));
        }
    }

    private static void hashOfNothing() {
        DUE.is("of no byte", new StatusDesk().hash(), 340954278254150813L);
    }

    private static void hashOfEachByte() {
        for (int b = 0; b < 256; b++) {
            StatusDesk desk = new StatusDesk();
            desk.feed(b, 1);
            DUE.is("of " + b, desk.hash(), Texts.hash(new byte[] {(byte) b}));
            desk.feed(b, 2);
            DUE.is("of " + b + ", that, 0", desk.hash(), Texts.hash(new byte[] {(byte) b, (byte) b, 0}));
        }
    }

    private static void hashOfLongest() {
        for (int fill : new int[] {0, 1, 128, 255}) {
            byte[] bytes = new byte[1500];
            java.util.Arrays.fill(bytes, (byte) fill);
            StatusDesk desk = new StatusDesk();
            Texts.feed(desk, bytes);
            DUE.is("of 1500 times " + fill, desk.hash(), Texts.hash(bytes));
        }
    }

    /** Certs of which both HASHES that are divided have the highest bit, or one, or none. */
    private static void withoutSign() {
        int[] seen = new int[4];
        for (int serial = 0; serial < 40; serial++) {
            StatusDesk desk = root();
            Texts.feed(desk, Texts.text("s"));
            desk.signer(0, 777, serial, 0, LAST, 3);
            byte[] inner = Texts.certInner(serial, Texts.text("root"), Texts.text("s"), 0, LAST, Texts.key(777), 3);
            byte[] due = Texts.signed(inner, 12345);
            DUE.is("cert of " + serial, Texts.hash(Texts.out(desk)), Texts.hash(due));
            seen[highestBits(inner)]++;
        }
        for (int bits = 0; bits < 4; bits++) {
            DUE.is("certs with bits " + bits + " seen", seen[bits] > 0, true);
        }
    }

    private static int highestBits(byte[] signed) {
        byte[] d = Texts.hashBytes(signed);
        long first = Texts.hash(Texts.join(Texts.eight(12345), d));
        long k = 1 + Long.remainderUnsigned(first, LAST_SECRET);
        long second = Texts.hash(Texts.join(Texts.eight(Texts.key(k)), d));
        return (first < 0 ? 1 : 0) + (second < 0 ? 2 : 0);
    }

    private static int signer(StatusDesk desk, long from, long to) {
        desk.feed('s', 1);
        return desk.signer(0, 5, 5, from, to, 1);
    }

    private static void timesInCalls() {
        for (long time : NO_TIMES) {
            StatusDesk desk = root();
            desk.issue(0, 7);
            DUE.is("takeBack at " + time, desk.takeBack(0, 7, time, 1), BAD);
            DUE.is("signer from " + time, signer(desk, time, 5), BAD);
            DUE.is("signer to " + time, signer(desk, 5, time), BAD);
            DUE.is("answer at " + time, desk.answer(0, time, 0), BAD);
            DUE.is("look at " + time, desk.look(0, 7, time, 0, 0), BAD);
            DUE.is("held at " + time, desk.held(0, 7, time), BAD);
            DUE.is("clock at " + time, desk.clock(time, 0), BAD);
        }
        for (long time : new long[] {0, 1, Integer.MAX_VALUE, Integer.MAX_VALUE + 1L, LAST - 1, LAST}) {
            StatusDesk desk = root();
            desk.issue(0, 7);
            DUE.is("takeBack at " + time, desk.takeBack(0, 7, time, 1), 1);
            DUE.is("signer from " + time, signer(desk, time, 5), 0);
            DUE.is("signer to " + time, signer(desk, 5, time), 1);
            DUE.is("answer at " + time, desk.answer(0, time, 0), 1);
            DUE.is("look at " + time, desk.look(0, 7, time, 0, 0), 21);
            DUE.is("held at " + time, desk.held(0, 7, time), 0);
            DUE.is("clock at " + time, desk.clock(time, 0), '2');
        }
    }

    private static void isClock(long time, String due) {
        StatusDesk desk = new StatusDesk();
        for (int i = 0; i < due.length(); i++) {
            DUE.is("clock " + time + ", " + due + " at " + i, desk.clock(time, i), due.charAt(i));
        }
    }

    private static void clockEdges() {
        isClock(0, "20000101000000Z");
        isClock(59, "20000101000059Z");
        isClock(60, "20000101000100Z");
        isClock(3599, "20000101005959Z");
        isClock(3600, "20000101010000Z");
        isClock(86399, "20000101235959Z");
        isClock(86400, "20000102000000Z");
        isClock(LAST, "20991231235959Z");
        LocalDate start = LocalDate.of(2000, 1, 1);
        for (int year = 2000; year < 2100; year++) {
            for (int month = 1; month <= 12; month++) {
                LocalDate first = LocalDate.of(year, month, 1);
                LocalDate last = first.withDayOfMonth(first.lengthOfMonth());
                isClock(first.toEpochDay() * 86400 - start.toEpochDay() * 86400, first.toString().replace("-", "") + "000000Z");
                isClock((last.toEpochDay() + 1 - start.toEpochDay()) * 86400 - 1, last.toString().replace("-", "") + "235959Z");
            }
        }
    }

    private static void clockCharacters() {
        StatusDesk desk = new StatusDesk();
        DUE.is("the first", desk.clock(0, 0), '2');
        DUE.is("the last", desk.clock(0, 14), 'Z');
        DUE.is("the last digit", desk.clock(9, 13), '9');
        DUE.is("-1", desk.clock(0, -1), BAD);
        DUE.is("15", desk.clock(0, 15), BAD);
        for (int i : FAR) {
            DUE.is("character " + i, desk.clock(0, i), BAD);
        }
    }

    private static void clockBad() {
        StatusDesk desk = new StatusDesk();
        for (long time : NO_TIMES) {
            for (int i : new int[] {0, 14, 15}) {
                DUE.is("clock " + time + ", " + i, desk.clock(time, i), BAD);
            }
        }
    }

    private static void hashStays() {
        StatusDesk desk = root();
        DUE.is("of an empty TAPE", desk.hash(), desk.hash());
        desk.feed(0x0201, 2);
        long hash = desk.hash();
        DUE.is("again", desk.hash(), hash);
        DUE.is("so many", desk.told(3), 2);
        DUE.is("it can be a name still", desk.authority(7), 1);
        DUE.is("and is read then", desk.hash(), 340954278254150813L);
    }

    private static void keyNumbers() {
        StatusDesk desk = new StatusDesk();
        for (int i = 0; i < 4; i++) {
            DUE.is("authority " + i + ", not yet", desk.key(0, i), BAD);
            authority(desk, "a" + i, 10 + i);
            DUE.is("authority " + i, desk.key(0, i), Texts.key(10 + i));
        }
        for (int k = 0; k < 8; k++) {
            DUE.is("signer " + k + ", not yet", desk.key(1, k), BAD);
            desk.feed('s', 1);
            desk.signer(3, 20 + k, k, 0, 0, 0);
            DUE.is("signer " + k, desk.key(1, k), Texts.key(20 + k));
        }
        DUE.is("no fifth authority", desk.key(0, 4), BAD);
        DUE.is("no ninth signer", desk.key(1, 8), BAD);
        DUE.is("the first is as it was", desk.key(0, 0), Texts.key(10));
        DUE.is("and the first signer", desk.key(1, 0), Texts.key(20));
    }

    private static void keyBad() {
        StatusDesk desk = root();
        signer(desk, 777);
        for (int what : new int[] {-1, 2, 3, Integer.MIN_VALUE, Integer.MAX_VALUE}) {
            DUE.is("what " + what, desk.key(what, 0), BAD);
        }
        for (int k : new int[] {-1, 1, Integer.MIN_VALUE, Integer.MAX_VALUE}) {
            DUE.is("authority " + k, desk.key(0, k), BAD);
            DUE.is("signer " + k, desk.key(1, k), BAD);
        }
    }

    private static void toldBad() {
        StatusDesk desk = new StatusDesk();
        DUE.is("-1", desk.told(-1), BAD);
        DUE.is("0", desk.told(0), 0);
        DUE.is("7", desk.told(7), 0);
        DUE.is("8", desk.told(8), BAD);
        for (int what : FAR) {
            DUE.is("told " + what, desk.told(what), BAD);
        }
    }

    private static void toldMost() {
        StatusDesk desk = new StatusDesk();
        for (int i = 0; i < 5; i++) {
            authority(desk, "a" + i, 10 + i);
        }
        DUE.is("authorities", desk.told(0), 4);
        for (int i = 0; i < 9; i++) {
            desk.feed('s', 1);
            desk.signer(0, 7, i, 0, 0, 0);
        }
        DUE.is("signers", desk.told(1), 8);
        for (int i = 0; i < 9; i++) {
            desk.want(0, i);
        }
        DUE.is("ids wanted", desk.told(2), 8);
        desk.ask();
        DUE.is("none behind the ask", desk.told(2), 0);
        desk.take();
        desk.answer(0, 2000, 500);
        for (int i = 0; i < 17; i++) {
            desk.take();
            desk.look(0, i % 8, 2000, 0, 0);
            desk.hold();
            DUE.is("held", desk.told(4), Math.min(16, i + 1));
        }
        DUE.is("looks go on", desk.told(7), 17);
        for (int i = 0; i < 188; i++) {
            desk.feed(0, 8);
        }
        DUE.is("bytes, eight at a time", desk.told(3), 1496);
        desk.feed(0, 4);
        DUE.is("bytes", desk.told(3), 1500);
    }

    private static void toldLooks() {
        StatusDesk desk = root();
        desk.look(0, 7, 0, 0, 0);
        DUE.is("one of verdict 21", desk.told(7), 1);
        desk.look(1, 7, 0, 0, 0);
        desk.look(0, -1, 0, 0, 0);
        desk.look(0, 7, LAST + 1, 0, 0);
        desk.look(0, 7, 0, -1, 0);
        desk.look(0, 7, 0, 0, 1000000001);
        DUE.is("five refused", desk.told(7), 1);
        desk.look(0, 7, LAST, 1000000000, 1000000000);
        DUE.is("another one", desk.told(7), 2);
    }

    private static void toldAnswers() {
        StatusDesk desk = root();
        authority(desk, "other", 5);
        desk.answer(0, 0, -1);
        desk.answer(2, 0, 0);
        desk.answer(0, LAST, 1);
        DUE.is("refused, of status 0", desk.told(5), 0);
        DUE.is("refused, of another", desk.told(6), 0);
        desk.answer(0, 0, 0);
        DUE.is("status 1 is another", desk.told(6), 1);
        desk.want(0, 7);
        desk.ask();
        desk.take();
        DUE.is("by one whose it is not", desk.answer(1, 0, 0), 6);
        DUE.is("status 6 is another", desk.told(6), 2);
        desk.want(0, 7);
        desk.ask();
        desk.take();
        DUE.is("a serial not known", desk.answer(0, 0, 0), 0);
        DUE.is("has status 0", desk.told(5), 1);
        DUE.is("others are as many as before", desk.told(6), 2);
    }
}
