import java.math.BigInteger;
import java.nio.ByteBuffer;
import java.time.LocalDate;
import java.util.Arrays;

/** THE LOOK, HELD FINDS and promises 18 to 22: each sentence that names a boundary has a test of its own. */
public final class EdgesOfLooksTest {
    private static final Due DUE = new Due();
    private static final int BAD = StatusDesk.BAD;
    private static final int NONE = StatusDesk.NONE;
    private static final long LAST = 3155759999L;
    private static final int MOST = 1000000000;
    private static final long Q = 1073741789L;
    private static final int LAST_SERIAL = Integer.MAX_VALUE;

    private EdgesOfLooksTest() {
    }

    public static void main(String[] args) {
        DUE.sentence("18: BAD (authority)", EdgesOfLooksTest::noAuthority);
        DUE.sentence("18: BAD (serial)", EdgesOfLooksTest::noSerial);
        DUE.sentence("18: BAD (TIME)", EdgesOfLooksTest::noTime);
        DUE.sentence("18: BAD (slack or age not 0 .. 10^9)", EdgesOfLooksTest::noSpan);
        DUE.sentence("18: refused, but the TAPE is read", EdgesOfLooksTest::refused);
        DUE.sentence("21 the TAPE is no answer", EdgesOfLooksTest::noAnswer);
        DUE.sentence("22 its status is not 0", EdgesOfLooksTest::otherStatus);
        DUE.sentence("23 the authority, told by its name or HASH of its key", EdgesOfLooksTest::toldByAuthority);
        DUE.sentence("23 whether a cert is there or not", EdgesOfLooksTest::certOrNot);
        DUE.sentence("23 else the cert must be there", EdgesOfLooksTest::certLacks);
        DUE.sentence("23 told by that one's name, or HASH of its key", EdgesOfLooksTest::toldByCert);
        DUE.sentence("24 issuer another name", EdgesOfLooksTest::otherIssuer);
        DUE.sentence("24 its signature not RIGHT", EdgesOfLooksTest::certNotRight);
        DUE.sentence("25 it may not SIGN", EdgesOfLooksTest::mayNotSign);
        DUE.sentence("26 before its from, or behind its to", EdgesOfLooksTest::certTimes);
        DUE.sentence("27 TAKEN BACK, not behind the TIME", EdgesOfLooksTest::certTakenBack);
        DUE.sentence("27 it is LOOKED UP", EdgesOfLooksTest::notLookedUp);
        DUE.sentence("28 the answer's signature is not RIGHT", EdgesOfLooksTest::notRight);
        DUE.sentence("RIGHT, if c and z are below Q", EdgesOfLooksTest::belowQ);
        DUE.sentence("RIGHT: the least and the largest c", EdgesOfLooksTest::leastAndLargestC);
        DUE.sentence("RIGHT: the least and the largest z", EdgesOfLooksTest::leastAndLargestZ);
        DUE.sentence("RIGHT for a KEY 2 .. P - 1", EdgesOfLooksTest::oddKeys);
        DUE.sentence("29 the answer has none, or another nonce", EdgesOfLooksTest::nonces);
        DUE.sentence("30 no single has the id (with this authority's HASHES)", EdgesOfLooksTest::noSingle);
        DUE.sentence("the first that has it counts", EdgesOfLooksTest::firstSingle);
        DUE.sentence("31 this is behind the TIME and the slack", EdgesOfLooksTest::thisTooLate);
        DUE.sentence("32 next is before the TIME less the slack", EdgesOfLooksTest::nextTooEarly);
        DUE.sentence("32 or before this", EdgesOfLooksTest::nextBeforeThis);
        DUE.sentence("33 next is not there, and this before the TIME less the age", EdgesOfLooksTest::thisTooOld);
        DUE.sentence("A TIME as a number is the seconds since the beginning of 2000", EdgesOfLooksTest::timesAsNumbers);
        DUE.sentence("1 good, 2 taken back, 3 not known", EdgesOfLooksTest::states);
        DUE.sentence("the first that is so", EdgesOfLooksTest::firstVerdict);
        DUE.sentence("19: hard: verdict 1 alone; else all but 2, 22, 24 to 28", EdgesOfLooksTest::passes);
        DUE.sentence("19: False before any", EdgesOfLooksTest::passesBefore);
        DUE.sentence("20: NONE before any", EdgesOfLooksTest::foundBefore);
        DUE.sentence("20: NONE of both otherwise", EdgesOfLooksTest::foundOtherwise);
        DUE.sentence("20: next, or this and the age", EdgesOfLooksTest::foundNext);
        DUE.sentence("20: the latest look() that was a FIND", EdgesOfLooksTest::foundLatest);
        DUE.sentence("20: BAD (what)", EdgesOfLooksTest::foundBad);
        DUE.sentence("21: NONE: there was no FIND since the latest hold()", EdgesOfLooksTest::holdNone);
        DUE.sentence("21: when there are 16, the one held first goes", EdgesOfLooksTest::holdSixteen);
        DUE.sentence("22: 0: nothing", EdgesOfLooksTest::heldNothing);
        DUE.sentence("22: 0: it is stale", EdgesOfLooksTest::heldStale);
        DUE.sentence("the one that was held last counts", EdgesOfLooksTest::heldLast);
        DUE.sentence("22: BAD", EdgesOfLooksTest::heldBad);
        DUE.end("EdgesOfLooksTest");
    }

    private static int lookAt(int authority, int serial, long time, int slack, int age) {
        StatusDesk desk = Made.desk();
        Texts.feed(desk, new Made().bytes());
        int verdict = desk.look(authority, serial, time, slack, age);
        DUE.is("the TAPE is read", desk.told(3), 0);
        DUE.is("looks", desk.told(7), verdict == BAD ? 0 : 1);
        return verdict;
    }

    private static void noAuthority() {
        for (int authority : new int[] {-1, 2, 3, 4, Integer.MIN_VALUE, Integer.MAX_VALUE}) {
            DUE.is("of " + authority, lookAt(authority, 7, 2100, 10, 100), BAD);
        }
        DUE.is("of 0", lookAt(0, 7, 2100, 10, 100), 1);
        DUE.is("of 1", lookAt(1, 7, 2100, 10, 100), 23);
    }

    private static void noSerial() {
        for (int serial : new int[] {-1, -7, Integer.MIN_VALUE}) {
            DUE.is("of " + serial, lookAt(0, serial, 2100, 10, 100), BAD);
        }
        DUE.is("of 0", lookAt(0, 0, 2100, 10, 100), 30);
        DUE.is("of the last", lookAt(0, LAST_SERIAL, 2100, 10, 100), 30);
    }

    private static void noTime() {
        for (long time : new long[] {-1, LAST + 1, Long.MIN_VALUE, Long.MAX_VALUE}) {
            DUE.is("at " + time, lookAt(0, 7, time, 10, 100), BAD);
        }
        DUE.is("at 0", lookAt(0, 7, 0, 10, 100), 31);
        DUE.is("at the last", lookAt(0, 7, LAST, 10, 100), 32);
    }

    private static void noSpan() {
        for (int span : new int[] {-1, MOST + 1, Integer.MIN_VALUE, Integer.MAX_VALUE}) {
            DUE.is("a slack of " + span, lookAt(0, 7, 2100, span, 100), BAD);
            DUE.is("an age of " + span, lookAt(0, 7, 2100, 10, span), BAD);
        }
        for (int span : new int[] {0, 1, MOST - 1, MOST}) {
            DUE.is("a slack of " + span, lookAt(0, 7, 2100, span, 100), 1);
            DUE.is("an age of " + span, lookAt(0, 7, 2100, 10, span), 1);
        }
    }

    private static void refused() {
        StatusDesk desk = Made.desk();
        Made taken = new Made();
        taken.state = Texts.takenBack(5, 5);
        taken.look(desk);
        Texts.feed(desk, new Made().bytes());
        desk.look(0, 7, 2100, -1, 100);
        DUE.is("the TAPE is read", desk.told(3), 0);
        DUE.is("the latest look is as it was", desk.passes(false), false);
        DUE.is("and the FIND", desk.found(0), 2);
        DUE.is("looks", desk.told(7), 1);
        DUE.is("the FIND can be held", desk.hold(), 1);
        Texts.feed(desk, new Made().bytes());
        desk.look(0, 7, 2100, 10, MOST + 1);
        DUE.is("no FIND by that", desk.hold(), NONE);
    }

    private static int lookAt(byte[] text) {
        StatusDesk desk = Made.desk();
        Texts.feed(desk, text);
        return desk.look(0, 7, 2100, 10, 100);
    }

    private static void noAnswer() {
        byte[] right = new Made().bytes();
        DUE.is("an empty TAPE", lookAt(Texts.none()), 21);
        DUE.is("an ask", lookAt(Texts.ask(Texts.none(), Made.id(7))), 21);
        DUE.is("a cert", lookAt(Made.bySigner().cert()), 21);
        DUE.is("a byte too few", lookAt(Arrays.copyOf(right, right.length - 1)), 21);
        DUE.is("a byte too many", lookAt(Arrays.copyOf(right, right.length + 1)), 21);
        DUE.is("another sort", lookAt(Texts.join(new byte[] {49}, Arrays.copyOfRange(right, 1, right.length))), 21);
        DUE.is("status 11", lookAt(Texts.status(11)), 21);
        DUE.is("status 0 alone", lookAt(Texts.status(0)), 21);
        DUE.is("status 1 with more", lookAt(Texts.row(Texts.code(1), Texts.tagged(0))), 21);
        Made made = new Made();
        made.nonce = new byte[17];
        DUE.is("a longer nonce", made.look(), 21);
        made = new Made();
        made.singles = new byte[0][];
        DUE.is("no single", made.look(), 21);
        made = Made.bySigner();
        made.flags = 4;
        DUE.is("a wrong cert in it", made.look(), 21);
        made = new Made();
        made.hasCert = true;
        made.flags = 4;
        DUE.is("though it is not asked", made.look(), 21);
        DUE.is("as it should be", lookAt(right), 1);
    }

    private static void otherStatus() {
        for (int status = 1; status <= 10; status++) {
            DUE.is("status " + status, lookAt(Texts.status(status)), 22);
        }
    }

    private static Made told(byte[] teller) {
        Made made = new Made();
        made.teller = teller;
        return made;
    }

    private static void toldByAuthority() {
        long rootKey = Texts.key(Made.ROOT_SECRET);
        DUE.is("by its name", told(Texts.byName(Made.ROOT)).look(), 1);
        DUE.is("by HASH of its key", told(Texts.byKey(rootKey)).look(), 1);
        DUE.is("by another's name", told(Texts.byName(Made.OTHER)).look(), 23);
        DUE.is("by another's key", told(Texts.byKey(Texts.key(Made.OTHER_SECRET))).look(), 23);
        DUE.is("by HASH of its name", told(Texts.tagged(2, Texts.bytes(Texts.hashBytes(Made.ROOT)))).look(), 23);
        DUE.is("by a name that is HASH of its key", told(Texts.tagged(1, Texts.bytes(Texts.keyHash(rootKey)))).look(), 23);
        for (String name : new String[] {"r", "roo", "roots", "Root", "rooT", "sixteen bytes ab"}) {
            DUE.is("by " + name, told(Texts.byName(Texts.text(name))).look(), 23);
        }
        byte[] hash = Texts.keyHash(rootKey);
        for (int i = 0; i < 8; i++) {
            byte[] near = hash.clone();
            near[i] ^= 1;
            DUE.is("byte " + i + " of the HASH", told(Texts.tagged(2, Texts.bytes(near))).look(), 23);
        }
    }

    private static void certOrNot() {
        for (byte[] teller : new byte[][] {Texts.byName(Made.ROOT), Texts.byKey(Texts.key(Made.ROOT_SECRET))}) {
            Made made = told(teller);
            DUE.is("without", made.look(), 1);
            made.hasCert = true;
            DUE.is("with a right one", made.look(), 1);
            made.issuer = Made.OTHER;
            made.flags = 0;
            made.to = 5;
            DUE.is("with one that is wrong in all", made.look(), 1);
            made.secret = Made.SIGNER_SECRET;
            DUE.is("its key is not asked", made.look(), 28);
        }
        Made same = Made.bySigner();
        same.certName = Made.ROOT;
        same.teller = Texts.byName(Made.ROOT);
        DUE.is("a cert with the authority's name: the authority it is", same.look(), 28);
        same.secret = Made.ROOT_SECRET;
        DUE.is("and has signed", same.look(), 1);
    }

    private static void certLacks() {
        for (byte[] teller : new byte[][] {Texts.byName(Made.SIG), Texts.byKey(Texts.key(Made.SIGNER_SECRET))}) {
            Made made = Made.bySigner();
            made.teller = teller;
            DUE.is("with it", made.look(), 1);
            made.hasCert = false;
            DUE.is("without", made.look(), 23);
            StatusDesk desk = Made.desk();
            Texts.feed(desk, Made.SIG);
            desk.signer(0, Made.SIGNER_SECRET, 50, 0, 9000, 1);
            DUE.is("though the desk knows the signer", made.look(desk), 23);
            desk = Made.desk();
            made.hasCert = true;
            made.look(desk);
            made.hasCert = false;
            DUE.is("though the answer before had it", made.look(desk), 23);
        }
    }

    private static void toldByCert() {
        for (String name : new String[] {"s", "si", "sigg", "zig", "siz", "Sig"}) {
            Made made = Made.bySigner();
            made.teller = Texts.byName(Texts.text(name));
            DUE.is("by " + name, made.look(), 23);
        }
        Made made = Made.bySigner();
        made.teller = Texts.byName(Made.SIG);
        DUE.is("by its name", made.look(), 1);
        made.teller = Texts.byKey(Texts.key(Made.SIGNER_SECRET));
        DUE.is("by its key", made.look(), 1);
        made.teller = Texts.byKey(Texts.key(Made.SIGNER_SECRET) + 1);
        DUE.is("by another key", made.look(), 23);
        made.teller = Texts.byName(Made.OTHER);
        made.issuer = Made.OTHER;
        DUE.is("by the cert's issuer", made.look(), 23);
        made = Made.bySigner();
        made.certName = Texts.text("sixteen bytes ab");
        made.teller = Texts.byName(Texts.text("sixteen bytes ab"));
        DUE.is("by the longest name", made.look(), 1);
        made.teller = Texts.byName(Texts.text("sixteen bytes ac"));
        DUE.is("by one with another end", made.look(), 23);
    }

    private static void otherIssuer() {
        for (String name : new String[] {"other", "roo", "roots", "r", "Root", "rooT", "sig", "sixteen bytes ab"}) {
            Made made = Made.bySigner();
            made.issuer = Texts.text(name);
            DUE.is("issuer " + name, made.look(), 24);
        }
        DUE.is("issuer root", Made.bySigner().look(), 1);
    }

    private static void certNotRight() {
        Made made = Made.bySigner();
        byte[] right = Texts.sign(Made.ROOT_SECRET, made.certInner());
        for (int bit = 0; bit < 64; bit++) {
            made.certSignature = right.clone();
            made.certSignature[bit / 8] ^= (byte) (1 << bit % 8);
            DUE.is("bit " + bit, made.look(), 24);
        }
        made.certSignature = right;
        DUE.is("right", made.look(), 1);
        made.certSignature = null;
        made.issuerSecret = Made.SIGNER_SECRET;
        DUE.is("signed by itself", made.look(), 24);
        made.issuerSecret = Made.OTHER_SECRET;
        DUE.is("signed by another", made.look(), 24);
        made = Made.bySigner();
        made.certSignature = Texts.sign(Made.ROOT_SECRET, made.certInner());
        made.certSerial = 51;
        DUE.is("of another inner ROW", made.look(), 24);
    }

    private static void mayNotSign() {
        int[] due = {25, 1, 25, 1};
        for (int flags = 0; flags <= 3; flags++) {
            Made made = Made.bySigner();
            made.flags = flags;
            DUE.is("flags " + flags, made.look(), due[flags]);
        }
    }

    private static int lookAtCert(long from, long to, long time) {
        Made made = Made.bySigner();
        made.from = from;
        made.to = to;
        made.at = time;
        made.next = time;
        return made.look(Made.desk(), time);
    }

    private static void certTimes() {
        DUE.is("before from", lookAtCert(2000, 3000, 1999), 26);
        DUE.is("at from", lookAtCert(2000, 3000, 2000), 1);
        DUE.is("at to", lookAtCert(2000, 3000, 3000), 1);
        DUE.is("behind to", lookAtCert(2000, 3000, 3001), 26);
        DUE.is("one second alone", lookAtCert(2000, 2000, 2000), 1);
        DUE.is("before it", lookAtCert(2000, 2000, 1999), 26);
        DUE.is("behind it", lookAtCert(2000, 2000, 2001), 26);
        DUE.is("no second at all", lookAtCert(2001, 2000, 2000), 26);
        DUE.is("nor the other", lookAtCert(2001, 2000, 2001), 26);
        DUE.is("the first TIME", lookAtCert(0, 0, 0), 1);
        DUE.is("the last TIME", lookAtCert(LAST, LAST, LAST), 1);
        DUE.is("before the last TIME", lookAtCert(LAST, LAST, LAST - 1), 26);
        DUE.is("slack and age count not", lookAtCert(0, 2000, 2005), 26);
    }

    private static int lookAtTakenBack(long since, long time) {
        StatusDesk desk = Made.desk();
        desk.issue(0, 50);
        desk.takeBack(0, 50, since, 0);
        Made made = Made.bySigner();
        made.to = LAST;
        made.at = time;
        made.next = time;
        return made.look(desk, time);
    }

    private static void certTakenBack() {
        DUE.is("a second before", lookAtTakenBack(2001, 2000), 1);
        DUE.is("at that TIME", lookAtTakenBack(2000, 2000), 27);
        DUE.is("a second behind", lookAtTakenBack(1999, 2000), 27);
        DUE.is("since 0, at 0", lookAtTakenBack(0, 0), 27);
        DUE.is("since the last, at the last", lookAtTakenBack(LAST, LAST), 27);
        DUE.is("since the last, before", lookAtTakenBack(LAST, LAST - 1), 1);
        StatusDesk desk = Made.desk();
        DUE.is("not on the LIST", Made.bySigner().look(desk), 1);
        desk.issue(0, 50);
        DUE.is("on it, not TAKEN BACK", Made.bySigner().look(desk), 1);
        desk.takeBack(0, 7, 0, 1);
        DUE.is("another one is", Made.bySigner().look(desk), 1);
        desk.takeBack(0, 50, 0, 6);
        DUE.is("held for a while", Made.bySigner().look(desk), 27);
        desk.lift(0, 50);
        DUE.is("lifted", Made.bySigner().look(desk), 1);
        StatusDesk others = Made.desk();
        others.issue(1, 50);
        others.takeBack(1, 50, 0, 1);
        DUE.is("on another's LIST", Made.bySigner().look(others), 1);
        StatusDesk edges = Made.desk();
        for (int serial : new int[] {0, LAST_SERIAL}) {
            Made made = Made.bySigner();
            made.certSerial = serial;
            DUE.is("serial " + serial, made.look(edges), 1);
            edges.issue(0, serial);
            edges.takeBack(0, serial, 5, 5);
            DUE.is("serial " + serial + ", TAKEN BACK", made.look(edges), 27);
        }
    }

    private static void notLookedUp() {
        StatusDesk desk = Made.desk();
        desk.issue(0, 50);
        desk.takeBack(0, 50, 0, 1);
        int[] due = {25, 27, 25, 1};
        for (int flags = 0; flags <= 3; flags++) {
            Made made = Made.bySigner();
            made.flags = flags;
            DUE.is("flags " + flags, made.look(desk), due[flags]);
        }
    }

    private static void notRight() {
        for (Made made : new Made[] {new Made(), Made.bySigner()}) {
            byte[] right = Texts.sign(made.secret, made.body());
            for (int bit = 0; bit < 64; bit++) {
                made.signature = right.clone();
                made.signature[bit / 8] ^= (byte) (1 << bit % 8);
                DUE.is("bit " + bit, made.look(), 28);
            }
            made.signature = right;
            DUE.is("right", made.look(), 1);
            made.at = 2001;
            DUE.is("of another body", made.look(), 28);
            made.at = 2000;
            made.signature = new byte[8];
            DUE.is("nothing but 0", made.look(), 28);
            made.signature = null;
            made.secret = Made.OTHER_SECRET;
            DUE.is("of another SECRET", made.look(), 28);
        }
        Made made = Made.bySigner();
        made.secret = Made.ROOT_SECRET;
        DUE.is("the authority's, told by a signer", made.look(), 28);
    }

    private static byte[] signature(long c, long z) {
        return ByteBuffer.allocate(8).putInt((int) c).putInt((int) z).array();
    }

    /** z and z + Q lead to the same power of G: only the bound tells them apart. */
    private static void belowQ() {
        for (Made made : new Made[] {new Made(), Made.bySigner()}) {
            ByteBuffer right = ByteBuffer.wrap(Texts.sign(made.secret, made.body()));
            long c = right.getInt();
            long z = right.getInt();
            for (int times = 1; times <= 3; times++) {
                made.signature = signature(c, z + times * Q);
                DUE.is("z and " + times + " Q", made.look(), 28);
                made.signature = signature(c + times * Q, z);
                DUE.is("c and " + times + " Q", made.look(), 28);
            }
            for (long edge : new long[] {Q - 1, Q, Q + 1, 1L << 31, (1L << 32) - 1}) {
                made.signature = signature(edge, z);
                DUE.is("c is " + edge, made.look(), 28);
                made.signature = signature(c, edge);
                DUE.is("z is " + edge, made.look(), 28);
            }
            made.signature = signature(c, z);
            DUE.is("as it is", made.look(), 1);
        }
        Made made = Made.bySigner();
        ByteBuffer right = ByteBuffer.wrap(Texts.sign(Made.ROOT_SECRET, made.certInner()));
        long c = right.getInt();
        made.certSignature = signature(c, right.getInt() + Q);
        DUE.is("z of a cert's signature", made.look(), 24);
    }

    /** These k were sought: with them c is 0, and Q - 1, for the body of a Made as it is. */
    private static void leastAndLargestC() {
        Made made = new Made();
        for (long z : new long[] {823695006, 891982071}) {
            made.signature = signature(0, z);
            DUE.is("c is 0", made.look(), 1);
            made.signature = signature(0, z + 1);
            DUE.is("c is 0, another z", made.look(), 28);
            made.signature = signature(Q, z);
            DUE.is("c is Q", made.look(), 28);
        }
        made.signature = signature(Q - 1, 140169471 - Made.ROOT_SECRET);
        DUE.is("c is Q - 1", made.look(), 1);
        made.signature = signature(2 * Q - 1, 140169471 - Made.ROOT_SECRET);
        DUE.is("c is 2 Q - 1", made.look(), 28);
    }

    /** Told by its name, a signer can be given the key for which a wanted z is right. */
    private static void leastAndLargestZ() {
        for (long z : new long[] {0, 1, Q - 1}) {
            Made made = Made.bySigner();
            made.teller = Texts.byName(Made.SIG);
            BigInteger c = Texts.hashNumber(Texts.join(Texts.eight(Texts.key(99)), Texts.hashBytes(made.body()))).mod(Texts.Q);
            BigInteger secret = BigInteger.valueOf(z - 99).multiply(c.modInverse(Texts.Q)).mod(Texts.Q);
            made.certKey = Texts.key(secret.longValueExact());
            made.signature = signature(c.longValueExact(), z);
            DUE.is("z is " + z, made.look(), 1);
            made.signature = signature(c.longValueExact(), z + Q);
            DUE.is("z is " + z + " and Q", made.look(), 28);
        }
    }

    /** 2 is -G^((Q + 1) / 2) and P - 1 is -G^0: they are no KEYS of a SECRET, but a cert may have them. */
    private static void oddKeys() {
        BigInteger half = Texts.Q.add(BigInteger.ONE).shiftRight(1);
        BigInteger[] powers = {half, BigInteger.ZERO};
        long[] keys = {2, 2147483578L};
        for (int i = 0; i < 2; i++) {
            for (int serial = 0; serial < 8; serial++) {
                Made made = Made.bySigner();
                made.certKey = keys[i];
                made.certSerial = serial;
                made.teller = Texts.byKey(keys[i]);
                made.nonce = new byte[] {(byte) serial};
                made.signature = Made.signForOddKey(powers[i], made.body());
                DUE.is("it is RIGHT", Texts.isRight(made.signature, keys[i], made.body()), true);
                DUE.is("key " + keys[i], made.look(), 1);
                made.signature[7] ^= 1;
                DUE.is("key " + keys[i] + ", another z", made.look(), 28);
            }
        }
    }

    private static int lookForNonce(long told, int n, byte[] nonce) {
        StatusDesk desk = Made.desk();
        desk.nonce(told, n);
        Made made = new Made();
        made.nonce = nonce;
        return made.look(desk);
    }

    private static void nonces() {
        byte[] eight = {1, 2, 3, 4, 5, 6, 7, -8};
        long told = 0xF807060504030201L;
        DUE.is("none told, none there", lookForNonce(told, 0, Texts.none()), 1);
        DUE.is("none told, one there", lookForNonce(told, 0, eight), 1);
        DUE.is("none told, sixteen there", lookForNonce(told, 0, new byte[16]), 1);
        for (int n = 1; n <= 8; n++) {
            byte[] same = Arrays.copyOf(eight, n);
            DUE.is("the same, " + n, lookForNonce(told, n, same), 1);
            DUE.is("none there, " + n, lookForNonce(told, n, Texts.none()), 29);
            DUE.is("a byte more, " + n, lookForNonce(told, n, Arrays.copyOf(eight, n + 1)), 29);
            DUE.is("sixteen, " + n, lookForNonce(told, n, Arrays.copyOf(eight, 16)), 29);
            if (n > 1) {
                DUE.is("a byte less, " + n, lookForNonce(told, n, Arrays.copyOf(eight, n - 1)), 29);
            }
            for (int i = 0; i < n; i++) {
                byte[] other = same.clone();
                other[i] ^= (byte) 128;
                DUE.is("byte " + i + " of " + n, lookForNonce(told, n, other), 29);
            }
        }
        DUE.is("a byte 0 is one", lookForNonce(0, 1, Texts.none()), 29);
        DUE.is("and the same", lookForNonce(0, 1, new byte[1]), 1);
    }

    private static byte[] single(byte[] name, int secret, int serial) {
        return Texts.single(Texts.id(name, Texts.key(secret), serial), Texts.good(), 2000, 2500);
    }

    private static void noSingle() {
        byte[][] near = {single(Made.ROOT, Made.ROOT_SECRET, 8), single(Made.ROOT, Made.ROOT_SECRET, 0),
            single(Made.OTHER, Made.OTHER_SECRET, 7), single(Made.OTHER, Made.ROOT_SECRET, 7),
            single(Made.ROOT, Made.OTHER_SECRET, 7), single(Made.ROOT, Made.ROOT_SECRET, 7 + (1 << 16)),
            single(Made.ROOT, Made.ROOT_SECRET, 7 + (1 << 30)), single(Made.ROOT, Made.ROOT_SECRET, LAST_SERIAL)};
        for (int i = 0; i < near.length; i++) {
            Made made = new Made();
            made.singles = new byte[][] {near[i]};
            DUE.is("near " + i, made.look(), 30);
        }
        Made made = new Made();
        made.singles = near;
        DUE.is("none of eight", made.look(), 30);
        for (int i = 0; i < near.length; i++) {
            made.singles = near.clone();
            made.singles[i] = single(Made.ROOT, Made.ROOT_SECRET, 7);
            DUE.is("at " + i + " of eight", made.look(), 1);
        }
    }

    private static void firstSingle() {
        byte[] good = Texts.single(Made.id(7), Texts.good(), 2000, 2500);
        byte[] taken = Texts.single(Made.id(7), Texts.takenBack(5, 5), 2000, 2500);
        byte[] unknown = Texts.single(Made.id(7), Texts.notKnown(), 2000, 2500);
        byte[] late = Texts.single(Made.id(7), Texts.good(), 2111, 2500);
        byte[] stale = Texts.single(Made.id(7), Texts.good(), 2000, 2089);
        byte[] old = Texts.single(Made.id(7), Texts.good(), 1999, -1);
        byte[][] firsts = {good, taken, unknown, late, stale, old};
        int[] due = {1, 2, 3, 31, 32, 33};
        for (int i = 0; i < firsts.length; i++) {
            for (byte[] second : firsts) {
                Made made = new Made();
                made.singles = new byte[][] {firsts[i], second};
                DUE.is("first " + due[i], made.look(), due[i]);
                made.singles = new byte[][] {single(Made.OTHER, Made.ROOT_SECRET, 7), firsts[i], second};
                DUE.is("behind another's " + due[i], made.look(), due[i]);
            }
        }
    }

    private static int lookAtTimes(long at, long next, long time, int slack, int age) {
        Made made = new Made();
        made.at = at;
        made.next = next;
        StatusDesk desk = Made.desk();
        Texts.feed(desk, made.bytes());
        return desk.look(0, 7, time, slack, age);
    }

    private static void thisTooLate() {
        DUE.is("at the TIME", lookAtTimes(2000, -1, 2000, 0, 0), 1);
        DUE.is("a second behind it", lookAtTimes(2001, -1, 2000, 0, 0), 31);
        DUE.is("at TIME and slack", lookAtTimes(2010, -1, 2000, 10, 0), 1);
        DUE.is("a second behind them", lookAtTimes(2011, -1, 2000, 10, 0), 31);
        DUE.is("with next, at them", lookAtTimes(2010, 2500, 2000, 10, 0), 1);
        DUE.is("with next, behind them", lookAtTimes(2011, 2500, 2000, 10, 0), 31);
        DUE.is("the age counts not", lookAtTimes(2011, 2500, 2000, 10, MOST), 31);
        DUE.is("the largest slack", lookAtTimes(MOST, -1, 0, MOST, 0), 1);
        DUE.is("behind the largest slack", lookAtTimes(MOST + 1, -1, 0, MOST, 0), 31);
        DUE.is("the last TIME and the largest slack", lookAtTimes(LAST, LAST, LAST, MOST, 0), 1);
        DUE.is("no wrap-around", lookAtTimes(LAST, -1, LAST - MOST, MOST, 0), 1);
        DUE.is("a second behind", lookAtTimes(LAST, -1, LAST - MOST - 1, MOST, 0), 31);
    }

    private static void nextTooEarly() {
        DUE.is("at the TIME", lookAtTimes(1000, 2000, 2000, 0, 0), 1);
        DUE.is("a second before it", lookAtTimes(1000, 1999, 2000, 0, 0), 32);
        DUE.is("at TIME less slack", lookAtTimes(1000, 1990, 2000, 10, 0), 1);
        DUE.is("a second before", lookAtTimes(1000, 1989, 2000, 10, 0), 32);
        DUE.is("the age counts not", lookAtTimes(1000, 1989, 2000, 10, MOST), 32);
        DUE.is("nor when it is 0", lookAtTimes(0, 2000, 2000, 0, 0), 1);
        DUE.is("the largest slack", lookAtTimes(0, LAST - MOST, LAST, MOST, 0), 1);
        DUE.is("before the largest slack", lookAtTimes(0, LAST - MOST - 1, LAST, MOST, 0), 32);
        DUE.is("TIME less slack is below 0", lookAtTimes(0, 0, 5, MOST, 0), 1);
        DUE.is("at 0", lookAtTimes(0, 0, 0, 0, 0), 1);
    }

    private static void nextBeforeThis() {
        DUE.is("the same", lookAtTimes(2000, 2000, 2000, 10, 100), 1);
        DUE.is("a second before", lookAtTimes(2000, 1999, 2000, 10, 100), 32);
        DUE.is("far before, the largest slack", lookAtTimes(2000, 0, 2000, MOST, 100), 32);
        DUE.is("this in the slack", lookAtTimes(2010, 2009, 2000, 10, 100), 32);
        DUE.is("this in the slack, the same", lookAtTimes(2010, 2010, 2000, 10, 100), 1);
        DUE.is("this behind the slack: that is first", lookAtTimes(2011, 2010, 2000, 10, 100), 31);
        DUE.is("the last TIMES", lookAtTimes(LAST, LAST - 1, LAST, 10, 100), 32);
    }

    private static void thisTooOld() {
        DUE.is("at the TIME", lookAtTimes(2000, -1, 2000, 10, 0), 1);
        DUE.is("a second before it", lookAtTimes(1999, -1, 2000, 10, 0), 33);
        DUE.is("at TIME less age", lookAtTimes(1900, -1, 2000, 10, 100), 1);
        DUE.is("a second before", lookAtTimes(1899, -1, 2000, 10, 100), 33);
        DUE.is("the slack counts not", lookAtTimes(1899, -1, 2000, MOST, 100), 33);
        DUE.is("not with next", lookAtTimes(1899, 2000, 2000, 10, 100), 1);
        DUE.is("the largest age", lookAtTimes(LAST - MOST, -1, LAST, 0, MOST), 1);
        DUE.is("before the largest age", lookAtTimes(LAST - MOST - 1, -1, LAST, 0, MOST), 33);
        DUE.is("TIME less age is below 0", lookAtTimes(0, -1, 5, 0, MOST), 1);
    }

    /** The first and the last second of each month are read as this, as next and as since when. */
    private static void timesAsNumbers() {
        for (int month = 0; month < 1200; month++) {
            LocalDate first = LocalDate.of(2000 + month / 12, 1 + month % 12, 1);
            long at = first.toEpochDay() * 86400 - LocalDate.of(2000, 1, 1).toEpochDay() * 86400;
            Made made = new Made();
            made.at = at;
            made.next = at + first.lengthOfMonth() * 86400L - 1;
            made.state = Texts.takenBack(made.next, 1);
            StatusDesk desk = Made.desk();
            DUE.is("of " + first, made.look(desk, at), 2);
            DUE.is("this of " + first, desk.found(3), made.at);
            DUE.is("next of " + first, desk.found(4), made.next);
            DUE.is("since when of " + first, desk.found(1), made.next);
        }
    }

    private static void states() {
        Made made = new Made();
        DUE.is("good", made.look(), 1);
        made.state = Texts.takenBack(2101, 0);
        DUE.is("taken back, though since later than the TIME", made.look(), 2);
        made.state = Texts.takenBack(0, 10);
        DUE.is("taken back", made.look(), 2);
        made.state = Texts.notKnown();
        DUE.is("not known", made.look(), 3);
        StatusDesk desk = Made.desk();
        desk.takeBack(0, 7, 0, 1);
        DUE.is("the answer counts, not the LIST", new Made().look(desk), 1);
    }

    /** Every set of things that are wrong with one answer: the first of the VERDICTS is told. */
    private static void firstVerdict() {
        int[] verdicts = {23, 24, 25, 26, 27, 28, 29, 30, 31, 32, 33};
        for (int set = 0; set < 1 << verdicts.length; set++) {
            boolean[] is = new boolean[40];
            int due = 1;
            for (int i = verdicts.length - 1; i >= 0; i--) {
                is[verdicts[i]] = (set >> i & 1) == 1;
                due = is[verdicts[i]] ? verdicts[i] : due;
            }
            if (!is[32] || !is[33]) {
                DUE.is("wrong in " + Integer.toBinaryString(set), lookAtWrong(is), due);
            }
        }
    }

    private static int lookAtWrong(boolean[] is) {
        StatusDesk desk = Made.desk();
        Made made = Made.bySigner();
        made.teller = is[23] ? Texts.byName(Made.OTHER) : made.teller;
        made.issuer = is[24] ? Made.OTHER : made.issuer;
        made.flags = is[25] ? 0 : 1;
        made.to = is[26] ? 2099 : 2100;
        if (is[27]) {
            desk.issue(0, 50);
            desk.takeBack(0, 50, 2100, 1);
        }
        made.secret = is[28] ? Made.ROOT_SECRET : made.secret;
        desk.nonce(5, is[29] ? 1 : 0);
        made.serial = is[30] ? 8 : 7;
        made.at = is[31] ? 2111 : 2000;
        made.next = is[32] ? 2089 : 2500;
        if (is[33]) {
            made.next = -1;
            made.at = is[31] ? 2111 : 1999;
        }
        return made.look(desk);
    }

    /** An answer of each verdict. */
    private static int lookFor(StatusDesk desk, int verdict) {
        Made made = verdict >= 24 && verdict <= 27 ? Made.bySigner() : new Made();
        desk.nonce(5, verdict == 29 ? 1 : 0);
        switch (verdict) {
            case 2: made.state = Texts.takenBack(5, 5); break;
            case 3: made.state = Texts.notKnown(); break;
            case 21: Texts.feed(desk, Texts.none()); return desk.look(0, 7, 2100, 10, 100);
            case 22: Texts.feed(desk, Texts.status(6)); return desk.look(0, 7, 2100, 10, 100);
            case 23: made.teller = Texts.byName(Made.OTHER); break;
            case 24: made.issuer = Made.OTHER; break;
            case 25: made.flags = 2; break;
            case 26: made.to = 5; break;
            case 27: desk.issue(0, 50); desk.takeBack(0, 50, 5, 5); break;
            case 28: made.secret = Made.OTHER_SECRET; break;
            case 30: made.serial = 8; break;
            case 31: made.at = 2200; break;
            case 32: made.next = 2001; break;
            case 33: made.at = 5; made.next = -1; break;
            default: break;
        }
        return made.look(desk);
    }

    private static void passes() {
        for (int verdict = 1; verdict <= 33; verdict++) {
            if (verdict <= 3 || verdict >= 21) {
                StatusDesk desk = Made.desk();
                DUE.is("verdict", lookFor(desk, verdict), verdict);
                boolean soft = verdict != 2 && verdict != 22 && (verdict < 24 || verdict > 28);
                DUE.is("hard, " + verdict, desk.passes(true), verdict == 1);
                DUE.is("else, " + verdict, desk.passes(false), soft);
                DUE.is("asked again, " + verdict, desk.passes(false), soft);
                lookFor(desk, verdict == 1 ? 2 : 1);
                DUE.is("the latest counts", desk.passes(true), verdict != 1);
            }
        }
    }

    private static void passesBefore() {
        StatusDesk desk = Made.desk();
        DUE.is("hard", desk.passes(true), false);
        DUE.is("else", desk.passes(false), false);
        desk.look(0, 7, -1, 0, 0);
        DUE.is("one refused", desk.passes(false), false);
        desk.look(0, 7, 0, 0, 0);
        DUE.is("one, of an empty TAPE", desk.passes(false), true);
        desk.look(0, 7, -1, 0, 0);
        DUE.is("and one refused", desk.passes(false), true);
    }

    private static void isFound(String call, StatusDesk desk, long... due) {
        for (int what = 0; what < 5; what++) {
            DUE.is(call + ", " + what, desk.found(what), due[what]);
        }
    }

    private static void foundBefore() {
        StatusDesk desk = Made.desk();
        isFound("a new one", desk, NONE, NONE, NONE, NONE, NONE);
        for (int verdict = 21; verdict <= 33; verdict++) {
            StatusDesk one = Made.desk();
            DUE.is("verdict", lookFor(one, verdict), verdict);
            isFound("verdict " + verdict, one, NONE, NONE, NONE, NONE, NONE);
        }
    }

    private static void foundOtherwise() {
        StatusDesk desk = Made.desk();
        Made made = new Made();
        made.state = Texts.takenBack(0, 0);
        made.look(desk);
        isFound("taken back since 0, reason 0", desk, 2, 0, 0, 2000, 2500);
        new Made().look(desk);
        isFound("good", desk, 1, NONE, NONE, 2000, 2500);
        made.state = Texts.takenBack(LAST, 10);
        made.look(desk);
        isFound("taken back since the last TIME, reason 10", desk, 2, LAST, 10, 2000, 2500);
        made.state = Texts.notKnown();
        made.look(desk);
        isFound("not known", desk, 3, NONE, NONE, 2000, 2500);
    }

    private static void foundNext() {
        long[][] rows = {{2000, 2000, 2000, 0, 0, 2000}, {0, LAST, 0, 0, 0, LAST}, {2000, -1, 2000, 0, 0, 2000},
            {2000, -1, 2000, 0, 1, 2001}, {LAST, -1, LAST, 0, MOST, LAST + MOST}, {0, -1, 0, 0, MOST, MOST},
            {0, 0, 0, 0, 100, 0}};
        for (long[] row : rows) {
            StatusDesk desk = Made.desk();
            Made made = new Made();
            made.at = row[0];
            made.next = row[1];
            Texts.feed(desk, made.bytes());
            DUE.is("a FIND", desk.look(0, 7, row[2], (int) row[3], (int) row[4]), 1);
            DUE.is("this " + row[0], desk.found(3), row[0]);
            DUE.is("next " + row[1] + ", age " + row[4], desk.found(4), row[5]);
        }
    }

    private static void foundLatest() {
        for (int verdict = 21; verdict <= 33; verdict++) {
            StatusDesk desk = Made.desk();
            lookFor(desk, 2);
            lookFor(desk, verdict);
            isFound("then " + verdict, desk, 2, 5, 5, 2000, 2500);
        }
        StatusDesk desk = Made.desk();
        lookFor(desk, 2);
        desk.hold();
        isFound("held", desk, 2, 5, 5, 2000, 2500);
        desk.look(0, 7, -1, 0, 0);
        isFound("one refused", desk, 2, 5, 5, 2000, 2500);
        lookFor(desk, 3);
        isFound("another FIND", desk, 3, NONE, NONE, 2000, 2500);
    }

    private static void foundBad() {
        StatusDesk desk = Made.desk();
        int[] wrong = {-1, 5, 6, Integer.MIN_VALUE, Integer.MAX_VALUE};
        for (int what : wrong) {
            DUE.is("before any, " + what, desk.found(what), BAD);
        }
        lookFor(desk, 2);
        for (int what : wrong) {
            DUE.is("behind a FIND, " + what, desk.found(what), BAD);
        }
    }

    private static void holdNone() {
        StatusDesk desk = Made.desk();
        DUE.is("before any", desk.hold(), NONE);
        lookFor(desk, 21);
        DUE.is("no FIND", desk.hold(), NONE);
        lookFor(desk, 1);
        DUE.is("a FIND", desk.hold(), 1);
        DUE.is("again", desk.hold(), NONE);
        lookFor(desk, 30);
        DUE.is("no FIND since", desk.hold(), NONE);
        desk.look(0, 7, -1, 0, 0);
        DUE.is("one refused", desk.hold(), NONE);
        DUE.is("one is held", desk.told(4), 1);
        lookFor(desk, 2);
        lookFor(desk, 30);
        DUE.is("a FIND, and then none", desk.hold(), 2);
        DUE.is("the FIND is held", desk.held(0, 7, 2500), 2);
        lookFor(desk, 1);
        lookFor(desk, 3);
        DUE.is("two FINDS: the latest", desk.hold(), 3);
        DUE.is("is held", desk.held(0, 7, 2500), 3);
        DUE.is("the other can't be any more", desk.hold(), NONE);
    }

    /** A FIND of a serial by calls of the desk alone, till the TIME 3000 + serial. */
    private static void find(StatusDesk desk, int serial) {
        desk.want(0, serial);
        desk.ask();
        desk.take();
        desk.answer(0, 2000, 1000L + serial);
        desk.take();
        DUE.is("a FIND", desk.look(0, serial, 2100, 0, 0), 3);
    }

    private static void holdSixteen() {
        StatusDesk desk = Made.desk();
        for (int i = 101; i <= 116; i++) {
            find(desk, i);
            DUE.is("so many", desk.hold(), i - 100);
        }
        for (int i = 101; i <= 116; i++) {
            DUE.is("all are there, " + i, desk.held(0, i, 2100), 3);
        }
        DUE.is("no FIND since: none goes", desk.hold(), NONE);
        DUE.is("the first is there", desk.held(0, 101, 2100), 3);
        for (int i = 117; i <= 134; i++) {
            find(desk, i);
            DUE.is("sixteen", desk.hold(), 16);
            DUE.is("held first", desk.held(0, i - 16, 2100), 0);
            DUE.is("held second", desk.held(0, i - 15, 2100), 3);
            DUE.is("held last", desk.held(0, i, 2100), 3);
            DUE.is("till then", desk.held(0, i, 3000 + i), 3);
            DUE.is("not longer", desk.held(0, i, 3001 + i), 0);
        }
        DUE.is("told", desk.told(4), 16);
    }

    private static void heldNothing() {
        StatusDesk desk = Made.desk();
        DUE.is("a new one", desk.held(0, 7, 2100), 0);
        lookFor(desk, 1);
        DUE.is("not held yet", desk.held(0, 7, 2100), 0);
        desk.hold();
        DUE.is("held", desk.held(0, 7, 2100), 1);
        DUE.is("another serial", desk.held(0, 8, 2100), 0);
        DUE.is("serial 0", desk.held(0, 0, 2100), 0);
        DUE.is("the last serial", desk.held(0, LAST_SERIAL, 2100), 0);
        DUE.is("another authority", desk.held(1, 7, 2100), 0);
        for (int serial : new int[] {0, LAST_SERIAL}) {
            find(desk, serial);
            desk.hold();
            DUE.is("of " + serial, desk.held(0, serial, 2100), 3);
        }
    }

    private static int heldOf(long at, long next, int age, long time) {
        StatusDesk desk = Made.desk();
        Made made = new Made();
        made.at = at;
        made.next = next;
        Texts.feed(desk, made.bytes());
        DUE.is("a FIND", desk.look(0, 7, at, 0, age), 1);
        desk.hold();
        return desk.held(0, 7, time);
    }

    private static void heldStale() {
        DUE.is("before next", heldOf(2000, 2500, 0, 2499), 1);
        DUE.is("at next", heldOf(2000, 2500, 0, 2500), 1);
        DUE.is("behind next", heldOf(2000, 2500, 0, 2501), 0);
        DUE.is("before this", heldOf(2000, 2500, 0, 0), 1);
        DUE.is("at this and the age", heldOf(2000, -1, 100, 2100), 1);
        DUE.is("behind this and the age", heldOf(2000, -1, 100, 2101), 0);
        DUE.is("an age of 0", heldOf(2000, -1, 0, 2000), 1);
        DUE.is("behind it", heldOf(2000, -1, 0, 2001), 0);
        DUE.is("the last TIME", heldOf(LAST, LAST, 0, LAST), 1);
        DUE.is("next beyond the last TIME", heldOf(LAST, -1, MOST, LAST), 1);
        DUE.is("next at the first TIME", heldOf(0, 0, 0, 0), 1);
        DUE.is("behind the first TIME", heldOf(0, 0, 0, 1), 0);
        StatusDesk desk = Made.desk();
        lookFor(desk, 2);
        desk.hold();
        DUE.is("stale", desk.held(0, 7, 2501), 0);
        DUE.is("and not so at an earlier TIME", desk.held(0, 7, 2500), 2);
        DUE.is("it is held still", desk.told(4), 1);
    }

    private static void heldLast() {
        StatusDesk desk = Made.desk();
        Made longer = new Made();
        longer.next = 5000;
        longer.look(desk);
        desk.hold();
        DUE.is("the first", desk.held(0, 7, 5000), 1);
        lookFor(desk, 2);
        DUE.is("not held yet", desk.held(0, 7, 2500), 1);
        DUE.is("both are held", desk.hold(), 2);
        DUE.is("the last counts", desk.held(0, 7, 2500), 2);
        DUE.is("it alone, though it is stale", desk.held(0, 7, 2501), 0);
        find(desk, 8);
        desk.hold();
        DUE.is("another serial's counts not", desk.held(0, 7, 2500), 2);
        DUE.is("but for its own", desk.held(0, 8, 2500), 3);
    }

    private static void heldBad() {
        StatusDesk desk = Made.desk();
        lookFor(desk, 1);
        desk.hold();
        for (int authority : new int[] {-1, 2, 3, 4, Integer.MIN_VALUE, Integer.MAX_VALUE}) {
            DUE.is("of " + authority, desk.held(authority, 7, 2100), BAD);
        }
        for (int serial : new int[] {-1, -7, Integer.MIN_VALUE}) {
            DUE.is("serial " + serial, desk.held(0, serial, 2100), BAD);
        }
        for (long time : new long[] {-1, LAST + 1, Long.MIN_VALUE, Long.MAX_VALUE}) {
            DUE.is("at " + time, desk.held(0, 7, time), BAD);
        }
        DUE.is("nothing changed", desk.held(0, 7, 2100), 1);
    }
}
