/** Promises 18 to 22: look, passes, found, hold, held. */
public final class LooksTest {
    private static final Due DUE = new Due();
    private static final int BAD = StatusDesk.BAD;
    private static final int NONE = StatusDesk.NONE;
    private static final long LAST = 3155759999L;
    private static final byte[] ROOT = Texts.text("root");
    private static final byte[] OTHER = Texts.text("other");
    private static final byte[] SIG = Texts.text("sig");
    private static final int ROOT_SECRET = 12345;
    private static final int SIGNER_SECRET = 777;
    private static final long ROOT_KEY = Texts.key(ROOT_SECRET);
    private static final long SIGNER_KEY = Texts.key(SIGNER_SECRET);

    private LooksTest() {
    }

    public static void main(String[] args) {
        noAnswer();
        whoSigned();
        certs();
        signatures();
        nonces();
        nonceOfBefore();
        singles();
        days();
        times();
        lookRefused();
        passes();
        found();
        hold();
        held();
        DUE.end("LooksTest");
    }

    /** Authority 0 with serial 7 ISSUED, and another authority. */
    private static StatusDesk desk() {
        StatusDesk desk = new StatusDesk();
        Texts.feed(desk, ROOT);
        desk.authority(ROOT_SECRET);
        Texts.feed(desk, OTHER);
        desk.authority(54321);
        desk.issue(0, 7);
        return desk;
    }

    private static byte[] id(long serial) {
        return Texts.id(ROOT, ROOT_KEY, serial);
    }

    private static byte[] body(byte[] teller, byte[]... singles) {
        return Texts.body(teller, 2000, Texts.none(), singles);
    }

    private static byte[] good(long serial) {
        return Texts.single(id(serial), Texts.good(), 2000, 2500);
    }

    private static byte[] byRoot(byte[]... singles) {
        byte[] body = body(Texts.byName(ROOT), singles);
        return Texts.answer(body, Texts.sign(ROOT_SECRET, body), Texts.none());
    }

    /** On a desk of its own: to feed an answer takes so many calls that one would not do for all. */
    private static int look(byte[] answer) {
        return look(desk(), answer, 2100);
    }

    private static int look(StatusDesk desk, byte[] answer) {
        return look(desk, answer, 2100);
    }

    private static int look(StatusDesk desk, byte[] answer, long time) {
        Texts.feed(desk, answer);
        int verdict = desk.look(0, 7, time, 10, 100);
        DUE.is("18: the TAPE is read", desk.told(3), 0);
        return verdict;
    }

    private static byte[] cert(byte[] issuer, int issuerSecret, long from, long to, int flags) {
        return Texts.signed(Texts.certInner(50, issuer, SIG, from, to, SIGNER_KEY, flags), issuerSecret);
    }

    private static byte[] bySigner(byte[] teller, byte[] cert) {
        byte[] body = body(teller, good(7));
        return Texts.answer(body, Texts.sign(SIGNER_SECRET, body), cert);
    }

    private static void noAnswer() {
        StatusDesk desk = desk();
        DUE.is("18: an empty TAPE", look(desk, Texts.none()), 21);
        DUE.is("18: an ask", look(desk, Texts.ask(Texts.none(), id(7))), 21);
        DUE.is("18: a byte behind", look(desk, Texts.join(byRoot(good(7)), new byte[1])), 21);
        DUE.is("18: no status 11", look(desk, Texts.status(11)), 21);
        for (int status = 1; status <= 10; status++) {
            DUE.is("18: status " + status, look(desk, Texts.status(status)), 22);
        }
        DUE.is("18: it is right", look(desk, byRoot(good(7))), 1);
        DUE.is("27: looks", desk.told(7), 15);
    }

    private static void whoSigned() {
        byte[] cert = cert(ROOT, ROOT_SECRET, 0, 9000, 1);
        byte[] wrongCert = cert(OTHER, 5, 0, 0, 0);
        byte[] body = body(Texts.byKey(ROOT_KEY), good(7));
        byte[] signature = Texts.sign(ROOT_SECRET, body);
        DUE.is("18: the authority's key", look(Texts.answer(body, signature, Texts.none())), 1);
        DUE.is("18: whether a cert is there", look(Texts.answer(body, signature, wrongCert)), 1);
        byte[] named = body(Texts.byName(ROOT), good(7));
        DUE.is("18: or not", look(Texts.answer(named, Texts.sign(ROOT_SECRET, named), wrongCert)), 1);
        DUE.is("18: no cert", look(bySigner(Texts.byKey(SIGNER_KEY), Texts.none())), 23);
        DUE.is("18: another name than the cert's", look(bySigner(Texts.byName(OTHER), cert)), 23);
        DUE.is("18: another first byte", look(bySigner(Texts.byName(Texts.text("zig")), cert)), 23);
        DUE.is("18: another last byte", look(bySigner(Texts.byName(Texts.text("siz")), cert)), 23);
        DUE.is("18: a longer one", look(bySigner(Texts.byName(Texts.text("sigg")), cert)), 23);
        DUE.is("18: a shorter one", look(bySigner(Texts.byName(Texts.text("si")), cert)), 23);
        DUE.is("18: another key than the cert's", look(bySigner(Texts.byKey(SIGNER_KEY + 1), cert)), 23);
        DUE.is("18: nobody, before a wrong cert", look(bySigner(Texts.byName(OTHER), wrongCert)), 23);
        DUE.is("18: the cert's name", look(bySigner(Texts.byName(SIG), cert)), 1);
        DUE.is("18: the cert's key", look(bySigner(Texts.byKey(SIGNER_KEY), cert)), 1);
    }

    private static int lookAtCert(StatusDesk desk, byte[] cert, long time) {
        return look(desk, bySigner(Texts.byKey(SIGNER_KEY), cert), time);
    }

    private static void certs() {
        DUE.is("18: issuer another", lookAtCert(desk(), cert(OTHER, ROOT_SECRET, 0, 9000, 1), 2100), 24);
        DUE.is("18: another signed it", lookAtCert(desk(), cert(ROOT, 54321, 0, 9000, 1), 2100), 24);
        DUE.is("18: 24 before 25", lookAtCert(desk(), cert(ROOT, 54321, 0, 9000, 0), 2100), 24);
        DUE.is("18: it may not SIGN", lookAtCert(desk(), cert(ROOT, ROOT_SECRET, 0, 9000, 0), 2100), 25);
        DUE.is("18: flag 2 alone", lookAtCert(desk(), cert(ROOT, ROOT_SECRET, 0, 9000, 2), 2100), 25);
        DUE.is("18: 25 before 26", lookAtCert(desk(), cert(ROOT, ROOT_SECRET, 0, 5, 0), 2100), 25);
        DUE.is("18: before its from", lookAtCert(desk(), cert(ROOT, ROOT_SECRET, 2101, 9000, 1), 2100), 26);
        DUE.is("18: at its from", lookAtCert(desk(), cert(ROOT, ROOT_SECRET, 2100, 9000, 1), 2100), 1);
        DUE.is("18: behind its to", lookAtCert(desk(), cert(ROOT, ROOT_SECRET, 0, 2099, 1), 2100), 26);
        DUE.is("18: at its to", lookAtCert(desk(), cert(ROOT, ROOT_SECRET, 0, 2100, 1), 2100), 1);
        StatusDesk desk = desk();
        byte[] lookedUp = cert(ROOT, ROOT_SECRET, 0, 9000, 1);
        byte[] notLookedUp = cert(ROOT, ROOT_SECRET, 0, 9000, 3);
        DUE.is("18: a serial on no LIST", lookAtCert(desk, lookedUp, 2100), 1);
        desk.issue(1, 50);
        desk.takeBack(1, 50, 0, 1);
        desk.issue(0, 50);
        DUE.is("18: on another's LIST", lookAtCert(desk, lookedUp, 2100), 1);
        desk.takeBack(0, 50, 2100, 6);
        DUE.is("18: taken back later", lookAtCert(desk, lookedUp, 2099), 1);
        DUE.is("18: taken back now", lookAtCert(desk, lookedUp, 2100), 27);
        DUE.is("18: NOT LOOKED UP", lookAtCert(desk, notLookedUp, 2100), 1);
        DUE.is("18: 26 before 27", lookAtCert(desk, cert(ROOT, ROOT_SECRET, 0, 2099, 1), 2100), 26);
        desk.lift(0, 50);
        DUE.is("18: lifted", lookAtCert(desk, lookedUp, 2100), 1);
        StatusDesk first = new StatusDesk();
        Texts.feed(first, ROOT);
        first.authority(ROOT_SECRET);
        first.issue(0, 50);
        first.takeBack(0, 50, 0, 1);
        DUE.is("18: the first on the LIST", lookAtCert(first, lookedUp, 2100), 27);
    }

    private static void signatures() {
        byte[] body = body(Texts.byName(ROOT), good(7));
        byte[] right = Texts.sign(ROOT_SECRET, body);
        DUE.is("18: another's SECRET", look(Texts.answer(body, Texts.sign(54321, body), Texts.none())), 28);
        for (int i = 0; i < 8; i++) {
            byte[] wrong = right.clone();
            wrong[i] ^= 1;
            DUE.is("18: a bit of byte " + i, look(Texts.answer(body, wrong, Texts.none())), 28);
        }
        // z and z + Q lead to the same power, so that only the bound tells them apart.
        long z = Texts.lowestFirst(new byte[] {right[7], right[6], right[5], right[4]}, 0, 4) + 1073741789L;
        byte[] beyond = right.clone();
        System.arraycopy(Texts.eight(z), 4, beyond, 4, 4);
        DUE.is("18: z not below Q", look(Texts.answer(body, beyond, Texts.none())), 28);
        byte[] cert = cert(ROOT, ROOT_SECRET, 0, 9000, 1);
        byte[] told = body(Texts.byName(SIG), good(7));
        DUE.is("18: the authority, for a signer", look(Texts.answer(told, Texts.sign(ROOT_SECRET, told), cert)), 28);
        StatusDesk desk = desk();
        desk.nonce(5, 1);
        DUE.is("18: 28 before 29", look(desk, Texts.answer(body, new byte[8], Texts.none())), 28);
    }

    private static byte[] withNonce(byte[] nonce) {
        byte[] body = Texts.body(Texts.byName(ROOT), 2000, nonce, good(7));
        return Texts.answer(body, Texts.sign(ROOT_SECRET, body), Texts.none());
    }

    private static void nonces() {
        StatusDesk desk = desk();
        DUE.is("18: none was told", look(desk, withNonce(new byte[] {1})), 1);
        desk.nonce(0x0201, 2);
        DUE.is("18: the answer has none", look(desk, withNonce(Texts.none())), 29);
        DUE.is("18: the same", look(desk, withNonce(new byte[] {1, 2})), 1);
        DUE.is("18: another", look(desk, withNonce(new byte[] {1, 3})), 29);
        DUE.is("18: a shorter", look(desk, withNonce(new byte[] {1})), 29);
        DUE.is("18: a longer", look(desk, withNonce(new byte[] {1, 2, 0})), 29);
        desk.nonce(0x0201, 9);
        DUE.is("15: refused changes nothing", look(desk, withNonce(new byte[] {1, 3})), 29);
        desk.nonce(0, 0);
        DUE.is("18: none is told any more", look(desk, withNonce(Texts.none())), 1);
        desk.nonce(0x0201, 2);
        Texts.feed(desk, withNonce(Texts.none()));
        DUE.is("18: 29 before 30", desk.look(0, 8, 2100, 10, 100), 29);
    }

    /** An answer without a nonce, with that byte where the answer before had its nonce. */
    private static void nonceOfBefore() {
        byte[] without = withNonce(Texts.none());
        int place = withNonce(new byte[1]).length - 11 - 1;
        byte nonce = without[place];
        StatusDesk desk = desk();
        desk.nonce(nonce, 1);
        DUE.is("18: with it", look(desk, withNonce(new byte[] {nonce})), 1);
        DUE.is("18: without", look(desk, without), 29);
    }

    /** What answer() writes as a TIME is read as that TIME, on each day. */
    private static void days() {
        StatusDesk desk = desk();
        for (int day = 0; day < 36525; day++) {
            if (day % 70 == 0) {
                desk = desk();
            }
            long time = day * 86400L + day * 7919L % 86400;
            desk.want(0, 7);
            desk.ask();
            desk.take();
            desk.answer(0, time, 0);
            desk.take();
            DUE.is("18: at " + time, desk.look(0, 7, time, 0, 0), 1);
            DUE.is("20: this", desk.found(3), time);
        }
    }

    private static void singles() {
        DUE.is("18: another serial", look(byRoot(good(8))), 30);
        byte[] others = Texts.single(Texts.id(OTHER, Texts.key(54321), 7), Texts.good(), 2000, 2500);
        byte[] otherKey = Texts.single(Texts.id(ROOT, Texts.key(54321), 7), Texts.good(), 2000, 2500);
        byte[] otherName = Texts.single(Texts.id(OTHER, ROOT_KEY, 7), Texts.good(), 2000, 2500);
        DUE.is("18: another's HASHES", look(byRoot(others, otherKey, otherName)), 30);
        byte[] unknown = Texts.single(id(7), Texts.notKnown(), 2000, 2500);
        byte[] taken = Texts.single(id(7), Texts.takenBack(1000, 3), 2000, 2500);
        DUE.is("18: the first counts", look(byRoot(others, good(8), taken, good(7))), 2);
        DUE.is("18: not known", look(byRoot(unknown, good(7))), 3);
        DUE.is("18: the first, though it is stale",
                look(byRoot(Texts.single(id(7), Texts.good(), 2000, 2001), good(7))), 32);
    }

    private static int lookAtTimes(long from, long next, long time) {
        return look(desk(), byRoot(Texts.single(id(7), Texts.good(), from, next)), time);
    }

    private static void times() {
        DUE.is("18: this at TIME and slack", lookAtTimes(2000, 2500, 1990), 1);
        DUE.is("18: this behind them", lookAtTimes(2000, 2500, 1989), 31);
        DUE.is("18: without next, too", lookAtTimes(2000, -1, 1989), 31);
        DUE.is("18: next at TIME less slack", lookAtTimes(2000, 2500, 2510), 1);
        DUE.is("18: next before it", lookAtTimes(2000, 2500, 2511), 32);
        DUE.is("18: next at this", lookAtTimes(2000, 2000, 2000), 1);
        DUE.is("18: next before this", lookAtTimes(2000, 1999, 2000), 32);
        DUE.is("18: 31 before 32", lookAtTimes(2000, 1999, 1989), 31);
        DUE.is("18: the age counts not with next", lookAtTimes(2000, 5000, 4000), 1);
        DUE.is("18: this at TIME less age", lookAtTimes(2000, -1, 2100), 1);
        DUE.is("18: this before it", lookAtTimes(2000, -1, 2101), 33);
        DUE.is("18: at the beginning", lookAtTimes(0, 0, 0), 1);
        DUE.is("18: at the end", lookAtTimes(LAST, LAST, LAST), 1);
        StatusDesk desk = desk();
        Texts.feed(desk, byRoot(good(7)));
        DUE.is("18: the longest slack", desk.look(0, 7, 1000002500, 1000000000, 0), 1);
        Texts.feed(desk, byRoot(Texts.single(id(7), Texts.good(), 2000, -1)));
        DUE.is("18: the longest age", desk.look(0, 7, 1000002000, 0, 1000000000), 1);
        DUE.is("20: this and the age", desk.found(4), 1000002000);
    }

    private static void lookRefused() {
        StatusDesk desk = desk();
        DUE.is("18: first a right one", look(desk, byRoot(good(7))), 1);
        long[][] wrong = {{-1, 7, 5, 0, 0}, {2, 7, 5, 0, 0}, {4, 7, 5, 0, 0}, {0, -1, 5, 0, 0}, {0, 7, -1, 0, 0},
            {0, 7, LAST + 1, 0, 0}, {0, 7, 5, -1, 0}, {0, 7, 5, 1000000001, 0}, {0, 7, 5, 0, -1},
            {0, 7, 5, 0, 1000000001}, {0, 7, 5, Integer.MIN_VALUE, 0}, {0, 7, Long.MIN_VALUE, 0, 0}};
        for (long[] n : wrong) {
            Texts.feed(desk, Texts.status(1));
            DUE.is("18: " + java.util.Arrays.toString(n), desk.look((int) n[0], (int) n[1], n[2], (int) n[3], (int) n[4]), BAD);
            DUE.is("18: refused, but read", desk.told(3), 0);
        }
        DUE.is("19: those refused count not", desk.passes(true), true);
        DUE.is("27: nor as looks", desk.told(7), 1);
    }

    private static void isPassing(String call, StatusDesk desk, boolean hard, boolean soft) {
        DUE.is("19: hard, " + call, desk.passes(true), hard);
        DUE.is("19: soft, " + call, desk.passes(false), soft);
    }

    private static void passes() {
        StatusDesk desk = desk();
        isPassing("before any", desk, false, false);
        look(desk, byRoot(good(7)));
        isPassing("1", desk, true, true);
        look(desk, byRoot(Texts.single(id(7), Texts.takenBack(5, 5), 2000, 2500)));
        isPassing("2", desk, false, false);
        look(desk, byRoot(Texts.single(id(7), Texts.notKnown(), 2000, 2500)));
        isPassing("3", desk, false, true);
        look(desk, Texts.none());
        isPassing("21", desk, false, true);
        look(desk, Texts.status(3));
        isPassing("22", desk, false, false);
        look(desk, bySigner(Texts.byKey(SIGNER_KEY), Texts.none()));
        isPassing("23", desk, false, true);
        desk = desk();
        lookAtCert(desk, cert(OTHER, ROOT_SECRET, 0, 9000, 1), 2100);
        isPassing("24", desk, false, false);
        lookAtCert(desk, cert(ROOT, ROOT_SECRET, 0, 9000, 0), 2100);
        isPassing("25", desk, false, false);
        lookAtCert(desk, cert(ROOT, ROOT_SECRET, 0, 5, 1), 2100);
        isPassing("26", desk, false, false);
        desk.issue(0, 50);
        desk.takeBack(0, 50, 5, 5);
        lookAtCert(desk, cert(ROOT, ROOT_SECRET, 0, 9000, 1), 2100);
        isPassing("27", desk, false, false);
        byte[] body = body(Texts.byName(ROOT), good(7));
        look(desk, Texts.answer(body, new byte[8], Texts.none()));
        isPassing("28", desk, false, false);
        desk = desk();
        desk.nonce(1, 1);
        look(desk, byRoot(good(7)));
        isPassing("29", desk, false, true);
        desk.nonce(0, 0);
        look(desk, byRoot(good(8)));
        isPassing("30", desk, false, true);
        look(desk, byRoot(good(7)), 100);
        isPassing("31", desk, false, true);
        look(desk, byRoot(good(7)), 9000);
        isPassing("32", desk, false, true);
        look(desk, byRoot(Texts.single(id(7), Texts.good(), 2000, -1)), 9000);
        isPassing("33", desk, false, true);
    }

    private static void isFound(String call, StatusDesk desk, long... due) {
        for (int what = 0; what < 5; what++) {
            DUE.is("20: " + call + ", " + what, desk.found(what), due[what]);
        }
        DUE.is("20: what -1", desk.found(-1), BAD);
        DUE.is("20: what 5", desk.found(5), BAD);
    }

    private static void found() {
        StatusDesk desk = desk();
        isFound("before any", desk, NONE, NONE, NONE, NONE, NONE);
        look(desk, Texts.none());
        isFound("before any FIND", desk, NONE, NONE, NONE, NONE, NONE);
        look(desk, byRoot(good(7)));
        isFound("good", desk, 1, NONE, NONE, 2000, 2500);
        look(desk, byRoot(Texts.single(id(7), Texts.takenBack(0, 0), 2000, 2600)));
        isFound("taken back", desk, 2, 0, 0, 2000, 2600);
        look(desk, byRoot(Texts.single(id(7), Texts.takenBack(LAST, 10), 2001, -1)));
        isFound("taken back, without next", desk, 2, LAST, 10, 2001, 2101);
        look(desk, Texts.status(1));
        isFound("a look that was none", desk, 2, LAST, 10, 2001, 2101);
        Texts.feed(desk, byRoot(good(7)));
        desk.look(0, 7, -1, 0, 0);
        isFound("a look refused", desk, 2, LAST, 10, 2001, 2101);
        look(desk, byRoot(Texts.single(id(7), Texts.notKnown(), 2002, -1)));
        isFound("not known", desk, 3, NONE, NONE, 2002, 2102);
        desk.hold();
        isFound("held", desk, 3, NONE, NONE, 2002, 2102);
    }

    private static void hold() {
        StatusDesk desk = desk();
        DUE.is("21: before any", desk.hold(), NONE);
        look(desk, Texts.none());
        DUE.is("21: before any FIND", desk.hold(), NONE);
        look(desk, byRoot(good(7)));
        look(desk, Texts.none());
        DUE.is("21: the latest FIND", desk.hold(), 1);
        DUE.is("21: not twice", desk.hold(), NONE);
        DUE.is("21: held", desk.held(0, 7, 2500), 1);
        look(desk, Texts.none());
        DUE.is("21: no FIND since", desk.hold(), NONE);
        look(desk, byRoot(good(7)));
        DUE.is("21: the same again", desk.hold(), 2);
        DUE.is("21: so many", desk.told(4), 2);
    }

    /** A find of any serial, good, till its number and 3000. */
    private static void findOne(StatusDesk desk, int serial) {
        desk.issue(0, serial);
        desk.want(0, serial);
        desk.ask();
        desk.take();
        desk.answer(0, 2000, 1000 + serial);
        desk.take();
        DUE.is("18: a find", desk.look(0, serial, 2100, 0, 0), 1);
    }

    private static void held() {
        StatusDesk desk = desk();
        DUE.is("22: nothing", desk.held(0, 7, 5), 0);
        DUE.is("22: no authority", desk.held(2, 7, 5), BAD);
        DUE.is("22: below 0", desk.held(0, -1, 5), BAD);
        DUE.is("22: no TIME", desk.held(0, 7, -1), BAD);
        DUE.is("22: no TIME", desk.held(0, 7, LAST + 1), BAD);
        look(desk, byRoot(Texts.single(id(7), Texts.takenBack(5, 5), 2000, 2600)));
        DUE.is("22: not yet held", desk.held(0, 7, 2100), 0);
        desk.hold();
        DUE.is("22: at next", desk.held(0, 7, 2600), 2);
        DUE.is("22: behind next", desk.held(0, 7, 2601), 0);
        DUE.is("22: long before", desk.held(0, 7, 0), 2);
        DUE.is("22: another serial", desk.held(0, 8, 2100), 0);
        DUE.is("22: another authority", desk.held(1, 7, 2100), 0);
        look(desk, byRoot(Texts.single(id(7), Texts.notKnown(), 2000, 2500)));
        desk.hold();
        DUE.is("22: the one held last", desk.held(0, 7, 2500), 3);
        DUE.is("22: counts, though it is stale", desk.held(0, 7, 2501), 0);
        StatusDesk many = desk();
        for (int i = 1; i <= 16; i++) {
            findOne(many, i);
            DUE.is("21: " + i, many.hold(), i);
        }
        DUE.is("22: the first", many.held(0, 1, 3001), 1);
        for (int i = 17; i <= 19; i++) {
            findOne(many, i);
            DUE.is("21: sixteen", many.hold(), 16);
            DUE.is("22: the one held first is gone", many.held(0, i - 16, 3001), 0);
            DUE.is("22: the next is there", many.held(0, i - 15, 3001), 1);
            DUE.is("22: the last is there", many.held(0, i, 3000 + i), 1);
            DUE.is("22: till it is stale", many.held(0, i, 3001 + i), 0);
        }
        DUE.is("27: FINDS held", many.told(4), 16);
    }
}
