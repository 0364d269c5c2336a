import java.util.TreeSet;

/** TO ANSWER and promises 14 to 17: each sentence that names a boundary has a test of its own. */
public final class EdgesOfAsksTest {
    private static final Due DUE = new Due();
    private static final int BAD = StatusDesk.BAD;
    private static final int FULL = StatusDesk.FULL;
    private static final int NONE = StatusDesk.NONE;
    private static final int LAST_SERIAL = Integer.MAX_VALUE;
    private static final long LAST = 3155759999L;
    private static final byte[] ROOT = Texts.text("root");
    private static final byte[] OTHER = Texts.text("other");
    private static final int ROOT_SECRET = 12345;
    private static final int OTHER_SECRET = 54321;
    private static final int SIGNER_SECRET = 777;

    private EdgesOfAsksTest() {
    }

    public static void main(String[] args) {
        DUE.sentence("14: BAD", EdgesOfAsksTest::wantBad);
        DUE.sentence("14: FULL (8)", EdgesOfAsksTest::wantMost);
        DUE.sentence("14: an id, the same twice", EdgesOfAsksTest::wantTwice);
        DUE.sentence("15: n bytes (0 .. 8), the lowest first", EdgesOfAsksTest::nonceBytes);
        DUE.sentence("15: 0: none", EdgesOfAsksTest::nonceNone);
        DUE.sentence("15: BAD", EdgesOfAsksTest::nonceBad);
        DUE.sentence("16: the ids that are wanted, which are gone then", EdgesOfAsksTest::askGone);
        DUE.sentence("16: NONE without any", EdgesOfAsksTest::askNone);
        DUE.sentence("16: a serial as few bytes as can be", EdgesOfAsksTest::askSerials);
        DUE.sentence("a RESPONDER is 0 .. 3, or 4 + k; 17: BAD (responder)", EdgesOfAsksTest::responders);
        DUE.sentence("17: BAD (TIME)", EdgesOfAsksTest::answerTimes);
        DUE.sentence("17: BAD (a life below 0 or beyond the last TIME)", EdgesOfAsksTest::lives);
        DUE.sentence("17: refused, but the TAPE is read", EdgesOfAsksTest::answerRefused);
        DUE.sentence("a TAPE that is no ask: status 1", EdgesOfAsksTest::statusOne);
        DUE.sentence("none of its ids is of the authority (both HASHES): status 6", EdgesOfAsksTest::statusSix);
        DUE.sentence("else status 0: one is enough", EdgesOfAsksTest::statusNought);
        DUE.sentence("an authority is told by its name, a signer by its key, with its cert", EdgesOfAsksTest::tellers);
        DUE.sentence("good, if it is of the authority and ISSUED there", EdgesOfAsksTest::goodOrNotKnown);
        DUE.sentence("taken back at the TIME (since when is not behind it)", EdgesOfAsksTest::takenBackSince);
        DUE.sentence("next, if a life above 0 is told", EdgesOfAsksTest::nextTimes);
        DUE.sentence("the ask's nonce", EdgesOfAsksTest::nonceOfTheAsk);
        DUE.sentence("the ids in their order, 1 to 8", EdgesOfAsksTest::order);
        DUE.sentence("lengths as they are written: 127, 128, 255, 256", EdgesOfAsksTest::lengths);
        DUE.end("EdgesOfAsksTest");
    }

    /** Authorities 0 and 1, signer 0 of the first, with serial 50. */
    private static StatusDesk desk() {
        StatusDesk desk = new StatusDesk();
        Texts.feed(desk, ROOT);
        desk.authority(ROOT_SECRET);
        Texts.feed(desk, OTHER);
        desk.authority(OTHER_SECRET);
        Texts.feed(desk, Texts.text("sig"));
        desk.signer(0, SIGNER_SECRET, 50, 0, 100000, 1);
        return desk;
    }

    private static byte[] rootId(long serial) {
        return Texts.id(ROOT, Texts.key(ROOT_SECRET), serial);
    }

    private static byte[] otherId(long serial) {
        return Texts.id(OTHER, Texts.key(OTHER_SECRET), serial);
    }

    private static void isOut(String call, StatusDesk desk, byte[] due) {
        DUE.is(call + ", size", desk.size(), due.length);
        desk.take();
        DUE.is(call + ", bytes", desk.hash(), Texts.hash(due));
        desk.cut(0);
    }

    private static byte[] answer(byte[] nonce, long time, byte[]... singles) {
        byte[] body = Texts.body(Texts.byName(ROOT), time, nonce, singles);
        return Texts.answer(body, Texts.sign(ROOT_SECRET, body), Texts.none());
    }

    private static int answer(StatusDesk desk, byte[] ask, int responder, long time, long life) {
        Texts.feed(desk, ask);
        int status = desk.answer(responder, time, life);
        DUE.is("the TAPE is read", desk.told(3), 0);
        return status;
    }

    private static void wantBad() {
        StatusDesk desk = desk();
        for (int authority : new int[] {-1, 2, 3, 4, Integer.MIN_VALUE, Integer.MAX_VALUE}) {
            DUE.is("of " + authority, desk.want(authority, 5), BAD);
        }
        DUE.is("serial -1", desk.want(0, -1), BAD);
        DUE.is("the least serial", desk.want(0, Integer.MIN_VALUE), BAD);
        DUE.is("none is wanted", desk.told(2), 0);
        DUE.is("serial 0", desk.want(0, 0), 1);
        DUE.is("the last serial", desk.want(1, LAST_SERIAL), 2);
        DUE.is("they need not be ISSUED", desk.told(2), 2);
    }

    private static void wantMost() {
        StatusDesk desk = desk();
        byte[][] ids = new byte[8][];
        for (int i = 0; i < 8; i++) {
            DUE.is("so many", desk.want(0, i), i + 1);
            ids[i] = rootId(i);
        }
        DUE.is("a ninth", desk.want(0, 8), FULL);
        DUE.is("one that is there", desk.want(0, 0), FULL);
        DUE.is("of another", desk.want(1, 8), FULL);
        DUE.is("BAD before FULL", desk.want(0, -1), BAD);
        DUE.is("no such authority, before FULL", desk.want(2, 8), BAD);
        DUE.is("eight", desk.told(2), 8);
        desk.ask();
        isOut("the first eight", desk, Texts.ask(Texts.none(), ids));
        DUE.is("there is room again", desk.want(0, 8), 1);
    }

    private static void wantTwice() {
        StatusDesk desk = desk();
        DUE.is("once", desk.want(0, 7), 1);
        DUE.is("twice", desk.want(0, 7), 2);
        desk.ask();
        isOut("both", desk, Texts.ask(Texts.none(), rootId(7), rootId(7)));
    }

    private static void nonceBytes() {
        long bytes = 0xF8E7D6C5B4A39281L;
        byte[] all = {(byte) 0x81, (byte) 0x92, (byte) 0xA3, (byte) 0xB4, (byte) 0xC5, (byte) 0xD6, (byte) 0xE7, (byte) 0xF8};
        for (int n = 0; n <= 8; n++) {
            StatusDesk desk = desk();
            DUE.is("nonce of " + n, desk.nonce(bytes, n), n);
            desk.want(0, 7);
            desk.ask();
            isOut("nonce of " + n, desk, Texts.ask(java.util.Arrays.copyOf(all, n), rootId(7)));
        }
        StatusDesk desk = desk();
        desk.nonce(0, 8);
        desk.want(0, 7);
        desk.ask();
        isOut("eight bytes 0 are a nonce", desk, Texts.ask(new byte[8], rootId(7)));
        desk.nonce(5, 1);
        desk.want(0, 7);
        desk.ask();
        isOut("a shorter one behind", desk, Texts.ask(new byte[] {5}, rootId(7)));
        desk.want(0, 7);
        desk.ask();
        isOut("it is that of asks to come", desk, Texts.ask(new byte[] {5}, rootId(7)));
    }

    private static void nonceNone() {
        StatusDesk desk = desk();
        desk.nonce(-1, 8);
        DUE.is("none", desk.nonce(-1, 0), 0);
        desk.want(0, 7);
        desk.ask();
        isOut("without", desk, Texts.ask(Texts.none(), rootId(7)));
        Texts.feed(desk, answer(Texts.none(), 2000, Texts.single(rootId(7), Texts.good(), 2000, -1)));
        DUE.is("the look asks for none", desk.look(0, 7, 2000, 0, 0), 1);
    }

    private static void nonceBad() {
        StatusDesk desk = desk();
        desk.nonce(0x0201, 2);
        for (int n : new int[] {-1, 9, 16, Integer.MIN_VALUE, Integer.MAX_VALUE}) {
            DUE.is("nonce of " + n, desk.nonce(-1, n), BAD);
        }
        desk.want(0, 7);
        desk.ask();
        isOut("it is as it was", desk, Texts.ask(new byte[] {1, 2}, rootId(7)));
    }

    private static void askGone() {
        StatusDesk desk = desk();
        desk.want(0, 7);
        desk.want(1, 8);
        byte[] due = Texts.ask(Texts.none(), rootId(7), otherId(8));
        DUE.is("ask", desk.ask(), due.length);
        DUE.is("gone", desk.told(2), 0);
        isOut("both", desk, due);
        desk.want(1, 9);
        desk.ask();
        isOut("the next has none of them", desk, Texts.ask(Texts.none(), otherId(9)));
    }

    private static void askNone() {
        StatusDesk desk = desk();
        int size = desk.size();
        long hash = Texts.hash(Texts.out(desk));
        desk.nonce(5, 1);
        DUE.is("ask", desk.ask(), NONE);
        DUE.is("OUT is as it was", desk.size(), size);
        DUE.is("its bytes, too", Texts.hash(Texts.out(desk)), hash);
        desk.want(0, -1);
        desk.want(2, 0);
        DUE.is("wants that were refused", desk.ask(), NONE);
        desk.want(0, 7);
        desk.ask();
        DUE.is("a second time", desk.ask(), NONE);
        isOut("the first stays", desk, Texts.ask(new byte[] {5}, rootId(7)));
    }

    private static void askSerials() {
        StatusDesk desk = desk();
        for (int serial : new int[] {0, 1, 127, 128, 255, 256, 32767, 32768, 65535, 65536, 8388607, 8388608, 16777215, 16777216, LAST_SERIAL}) {
            desk.want(0, serial);
            desk.ask();
            isOut("serial " + serial, desk, Texts.ask(Texts.none(), rootId(serial)));
        }
    }

    private static void responders() {
        byte[] ask = Texts.ask(Texts.none(), rootId(50));
        StatusDesk desk = desk();
        for (int responder : new int[] {-1, 2, 3, 5, 11, 12, 13, Integer.MIN_VALUE, Integer.MIN_VALUE + 3, Integer.MIN_VALUE + 4,
            Integer.MAX_VALUE - 3, Integer.MAX_VALUE}) {
            DUE.is("responder " + responder, answer(desk, ask, responder, 2000, 0), BAD);
        }
        DUE.is("0", answer(desk, ask, 0, 2000, 0), 0);
        DUE.is("1", answer(desk, ask, 1, 2000, 0), 6);
        DUE.is("4", answer(desk, ask, 4, 2000, 0), 0);
        StatusDesk full = desk();
        for (int i = 2; i < 4; i++) {
            Texts.feed(full, new byte[] {(byte) i});
            full.authority(i);
        }
        for (int k = 1; k < 8; k++) {
            DUE.is("responder " + (4 + k) + ", not yet", full.answer(4 + k, 2000, 0), BAD);
            full.feed('s', 1);
            full.signer(0, 100 + k, k, 0, 0, 1);
        }
        for (int responder = 0; responder < 12; responder++) {
            DUE.is("responder " + responder, answer(full, ask, responder, 2000, 0), responder == 0 || responder > 3 ? 0 : 6);
        }
        DUE.is("responder 12", answer(full, ask, 12, 2000, 0), BAD);
        StatusDesk noSigner = new StatusDesk();
        for (int i = 0; i < 4; i++) {
            noSigner.feed(i, 1);
            noSigner.authority(7);
        }
        DUE.is("4 authorities, no signer", noSigner.answer(4, 0, 0), BAD);
        DUE.is("the fourth", noSigner.answer(3, 0, 0), 1);
    }

    private static void answerTimes() {
        byte[] ask = Texts.ask(Texts.none(), rootId(50));
        StatusDesk desk = desk();
        for (long time : new long[] {-1, LAST + 1, Long.MIN_VALUE, Long.MAX_VALUE}) {
            DUE.is("at " + time, answer(desk, ask, 0, time, 0), BAD);
            DUE.is("at " + time + ", by a signer", answer(desk, ask, 4, time, 0), BAD);
        }
        for (long time : new long[] {0, LAST}) {
            DUE.is("at " + time, answer(desk, ask, 0, time, 0), 0);
            isOut("at " + time, desk, answer(Texts.none(), time, Texts.single(rootId(50), Texts.good(), time, -1)));
        }
    }

    private static void lives() {
        byte[] ask = Texts.ask(Texts.none(), rootId(50));
        StatusDesk desk = desk();
        long[][] wrong = {{0, -1}, {0, Long.MIN_VALUE}, {0, LAST + 1}, {1, LAST}, {LAST, 1}, {LAST - 1, 2}, {5, LAST - 4},
            {0, Long.MAX_VALUE}, {LAST, Long.MAX_VALUE}, {1, Long.MAX_VALUE}, {LAST, Long.MAX_VALUE - LAST + 1}, {LAST, -LAST}};
        for (long[] one : wrong) {
            DUE.is("at " + one[0] + " for " + one[1], answer(desk, ask, 0, one[0], one[1]), BAD);
        }
        long[][] right = {{0, 0}, {0, 1}, {0, LAST}, {1, LAST - 1}, {LAST, 0}, {LAST - 1, 1}, {5, LAST - 5}};
        for (long[] one : right) {
            DUE.is("at " + one[0] + " for " + one[1], answer(desk, ask, 0, one[0], one[1]), 0);
            long next = one[1] == 0 ? -1 : one[0] + one[1];
            isOut("at " + one[0] + " for " + one[1], desk,
                    answer(Texts.none(), one[0], Texts.single(rootId(50), Texts.good(), one[0], next)));
        }
    }

    private static void answerRefused() {
        StatusDesk desk = desk();
        int size = desk.size();
        desk.take();
        DUE.is("no responder", desk.answer(3, 0, 0), BAD);
        DUE.is("the TAPE is read", desk.told(3), 0);
        desk.take();
        DUE.is("no TIME", desk.answer(0, -1, 0), BAD);
        DUE.is("the TAPE is read", desk.told(3), 0);
        desk.take();
        DUE.is("no life", desk.answer(0, 0, -1), BAD);
        DUE.is("the TAPE is read", desk.told(3), 0);
        DUE.is("OUT is as it was", desk.size(), size);
        DUE.is("no answer of status 0", desk.told(5), 0);
        DUE.is("nor of another", desk.told(6), 0);
    }

    private static void statusOne() {
        StatusDesk desk = desk();
        byte[] right = Texts.ask(Texts.none(), rootId(50));
        byte[][] wrong = {Texts.none(), {48}, {48, 0}, java.util.Arrays.copyOf(right, right.length - 1),
            Texts.join(right, new byte[1]), Texts.row(Texts.row()), Texts.status(0), ROOT,
            Texts.ask(new byte[17], rootId(50)),
            Texts.ask(Texts.none(), rootId(1), rootId(2), rootId(3), rootId(4), rootId(5), rootId(6), rootId(7), rootId(8), rootId(9))};
        for (int i = 0; i < wrong.length; i++) {
            DUE.is("text " + i, answer(desk, wrong[i], 0, 2000, 500), 1);
            isOut("text " + i, desk, Texts.status(1));
        }
        DUE.is("another's, and no ask", answer(desk, Texts.join(Texts.ask(Texts.none(), otherId(5)), new byte[1]), 0, 2000, 0), 1);
        DUE.is("by a signer", answer(desk, Texts.none(), 4, 2000, 0), 1);
        isOut("by a signer", desk, Texts.status(1));
        DUE.is("others", desk.told(6), wrong.length + 2);
    }

    private static byte[] mixedId(byte[] name, int secret, long serial) {
        return Texts.id(name, Texts.key(secret), serial);
    }

    private static void statusSix() {
        StatusDesk desk = desk();
        byte[][] others = {otherId(50), mixedId(ROOT, OTHER_SECRET, 50), mixedId(OTHER, ROOT_SECRET, 50)};
        for (int i = 0; i < others.length; i++) {
            DUE.is("id " + i, answer(desk, Texts.ask(Texts.none(), others[i]), 0, 2000, 500), 6);
            isOut("id " + i, desk, Texts.status(6));
        }
        DUE.is("all of them", answer(desk, Texts.ask(new byte[] {1}, others), 0, 2000, 500), 6);
        isOut("all of them", desk, Texts.status(6));
        DUE.is("by a signer of the authority", answer(desk, Texts.ask(Texts.none(), others), 4, 2000, 500), 6);
        isOut("by a signer", desk, Texts.status(6));
        DUE.is("others", desk.told(6), 5);
    }

    private static void statusNought() {
        byte[] o = otherId(50);
        for (int at = 0; at < 8; at++) {
            byte[][] ids = {o, o, o, o, o, o, o, o};
            ids[at] = rootId(9);
            DUE.is("at " + at + " of 8", answer(desk(), Texts.ask(Texts.none(), ids), 0, 2000, 0), 0);
        }
        DUE.is("alone, and not ISSUED", answer(desk(), Texts.ask(Texts.none(), rootId(9)), 0, 2000, 0), 0);
    }

    private static void tellers() {
        byte[] ask = Texts.ask(Texts.none(), rootId(50));
        byte[] single = Texts.single(rootId(50), Texts.good(), 2000, -1);
        StatusDesk desk = desk();
        desk.cert(0);
        byte[] cert = Texts.out(desk);
        answer(desk, ask, 0, 2000, 0);
        isOut("an authority, without a cert", desk, answer(Texts.none(), 2000, single));
        answer(desk, ask, 4, 2000, 0);
        byte[] body = Texts.body(Texts.byKey(Texts.key(SIGNER_SECRET)), 2000, Texts.none(), single);
        isOut("a signer", desk, Texts.answer(body, Texts.sign(SIGNER_SECRET, body), cert));
        desk.feed('x', 1);
        desk.signer(0, ROOT_SECRET, 51, 5, 4, 0);
        byte[] useless = Texts.out(desk);
        answer(desk, ask, 5, 2000, 0);
        body = Texts.body(Texts.byKey(Texts.key(ROOT_SECRET)), 2000, Texts.none(), single);
        isOut("a signer that may not, and out of time", desk, Texts.answer(body, Texts.sign(ROOT_SECRET, body), useless));
        desk.feed('y', 1);
        desk.signer(1, 99, 51, 0, 0, 0);
        DUE.is("a signer of the second authority", answer(desk, ask, 6, 2000, 0), 6);
        DUE.is("of its own", answer(desk, Texts.ask(Texts.none(), otherId(51)), 6, 2000, 0), 0);
        DUE.is("by which the first's have nothing", answer(desk, Texts.ask(Texts.none(), otherId(51)), 5, 2000, 0), 6);
    }

    private static void goodOrNotKnown() {
        StatusDesk desk = desk();
        desk.issue(0, 0);
        desk.issue(1, 9);
        desk.issue(0, LAST_SERIAL);
        byte[][] ids = {rootId(0), rootId(LAST_SERIAL), rootId(9), otherId(9), mixedId(ROOT, OTHER_SECRET, 0), rootId(1), otherId(0)};
        DUE.is("answer", answer(desk, Texts.ask(Texts.none(), ids), 0, 2000, 0), 0);
        byte[][] singles = new byte[ids.length][];
        for (int i = 0; i < ids.length; i++) {
            singles[i] = Texts.single(ids[i], i < 2 ? Texts.good() : Texts.notKnown(), 2000, -1);
        }
        isOut("good are the first two", desk, answer(Texts.none(), 2000, singles));
    }

    private static void takenBackSince() {
        byte[] ask = Texts.ask(Texts.none(), rootId(7));
        for (long since : new long[] {0, 2000, LAST}) {
            StatusDesk desk = desk();
            desk.issue(0, 7);
            desk.takeBack(0, 7, since, 10);
            for (long time : new long[] {Math.max(0, since - 1), since, Math.min(LAST, since + 1)}) {
                answer(desk, ask, 0, time, 0);
                byte[] state = time < since ? Texts.good() : Texts.takenBack(since, 10);
                isOut("since " + since + ", at " + time, desk,
                        answer(Texts.none(), time, Texts.single(rootId(7), state, time, -1)));
            }
        }
        for (int reason = 0; reason <= 10; reason++) {
            StatusDesk desk = desk();
            desk.issue(0, 7);
            desk.takeBack(0, 7, 2000, reason);
            answer(desk, ask, 0, 2000, 0);
            isOut("reason " + reason, desk,
                    answer(Texts.none(), 2000, Texts.single(rootId(7), Texts.takenBack(2000, reason), 2000, -1)));
        }
    }

    private static void nextTimes() {
        byte[] ask = Texts.ask(Texts.none(), rootId(50), otherId(7));
        for (long life : new long[] {0, 1, 2, 86400, LAST - 2000}) {
            StatusDesk desk = desk();
            answer(desk, ask, 0, 2000, life);
            long next = life == 0 ? -1 : 2000 + life;
            isOut("a life of " + life, desk, answer(Texts.none(), 2000,
                    Texts.single(rootId(50), Texts.good(), 2000, next), Texts.single(otherId(7), Texts.notKnown(), 2000, next)));
        }
    }

    private static void nonceOfTheAsk() {
        byte[] single = Texts.single(rootId(50), Texts.good(), 2000, -1);
        for (int n = 0; n <= 16; n++) {
            byte[] nonce = java.util.Arrays.copyOf(new byte[] {-1, 1, 2, 3, 4, 5, 6, 7, 8, 9, 10, 11, 12, 13, 14, -2}, n);
            StatusDesk desk = desk();
            desk.nonce(5, 1);
            answer(desk, Texts.ask(nonce, rootId(50)), 0, 2000, 0);
            isOut("a nonce of " + n, desk, answer(nonce, 2000, single));
            answer(desk, Texts.ask(Texts.none(), rootId(50)), 0, 2000, 0);
            isOut("none behind it", desk, answer(Texts.none(), 2000, single));
        }
    }

    private static void order() {
        for (int n = 1; n <= 8; n++) {
            StatusDesk desk = desk();
            byte[][] ids = new byte[n][];
            byte[][] singles = new byte[n][];
            for (int i = 0; i < n; i++) {
                int serial = 1000 - 7 * (i % 5);
                ids[i] = i == 1 ? otherId(serial) : rootId(serial);
                singles[i] = Texts.single(ids[i], Texts.notKnown(), 2000, 2100);
            }
            answer(desk, Texts.ask(Texts.none(), ids), 0, 2000, 100);
            isOut("of " + n, desk, answer(Texts.none(), 2000, singles));
        }
    }

    /** Of many asks and answers those are tried of which an item has a length at an edge. */
    private static void lengths() {
        TreeSet<Integer> left = new TreeSet<>(java.util.List.of(126, 127, 128, 129, 254, 255, 256, 257));
        for (int size = 1; size <= 16; size++) {
            for (int n = 0; n <= 16; n++) {
                for (int count = 1; count <= 8; count++) {
                    answerOfLength(new byte[size], new byte[n], count, left);
                }
            }
        }
        DUE.is("edges that no answer has, " + left, left.size(), 0);
        left.addAll(java.util.List.of(126, 127, 128, 129));
        for (int longer = 0; longer < 6; longer++) {
            askOfLength(longer, left);
        }
        DUE.is("edges that no ask has, " + left, left.size(), 0);
    }

    /** Five ids, some of which have a serial of two bytes. */
    private static void askOfLength(int longer, TreeSet<Integer> left) {
        byte[][] ids = new byte[5][];
        StatusDesk desk = desk();
        for (int i = 0; i < 5; i++) {
            int serial = i < longer ? 128 : 127;
            desk.want(0, serial);
            ids[i] = rootId(serial);
        }
        desk.ask();
        byte[] due = Texts.ask(Texts.none(), ids);
        left.removeAll(lengthsOf(Grammar.read(1, due)));
        isOut("an ask of " + due.length, desk, due);
    }

    private static void answerOfLength(byte[] name, byte[] nonce, int count, TreeSet<Integer> left) {
        byte[] id = Texts.id(name, Texts.key(5), 7);
        byte[][] ids = new byte[count][];
        byte[][] singles = new byte[count][];
        for (int i = 0; i < count; i++) {
            ids[i] = id;
            singles[i] = Texts.single(id, Texts.notKnown(), 2000, 2100);
        }
        byte[] body = Texts.body(Texts.byName(name), 2000, nonce, singles);
        byte[] due = Texts.answer(body, Texts.sign(5, body), Texts.none());
        if (!left.removeAll(lengthsOf(Grammar.read(2, due)))) {
            return;
        }
        StatusDesk desk = new StatusDesk();
        Texts.feed(desk, name);
        desk.authority(5);
        Texts.feed(desk, Texts.ask(nonce, ids));
        desk.answer(0, 2000, 100);
        isOut("an answer of " + due.length, desk, due);
        Texts.feed(desk, due);
        DUE.is("read again", desk.look(0, 7, 2000, 0, 0), 3);
    }

    private static TreeSet<Integer> lengthsOf(Grammar.Node node) {
        TreeSet<Integer> all = new TreeSet<>();
        all.add(node.has.length);
        for (Grammar.Node part : node.parts) {
            all.addAll(lengthsOf(part));
        }
        return all;
    }
}
