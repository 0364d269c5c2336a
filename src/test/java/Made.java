import java.math.BigInteger;
import java.nio.ByteBuffer;

/** An answer made by hand. It is right as it is, told by the authority "root"; each part can be made otherwise. */
final class Made {
    static final byte[] ROOT = Texts.text("root");
    static final byte[] OTHER = Texts.text("other");
    static final byte[] SIG = Texts.text("sig");
    static final int ROOT_SECRET = 12345;
    static final int OTHER_SECRET = 54321;
    static final int SIGNER_SECRET = 777;

    byte[] teller = Texts.byName(ROOT);
    int secret = ROOT_SECRET;
    byte[] signature;
    boolean hasCert;
    int certSerial = 50;
    byte[] issuer = ROOT;
    int issuerSecret = ROOT_SECRET;
    byte[] certSignature;
    byte[] certName = SIG;
    long certKey = Texts.key(SIGNER_SECRET);
    long from;
    long to = 9000;
    int flags = 1;
    byte[] nonce = {};
    byte[] state = Texts.good();
    int serial = 7;
    long at = 2000;
    long next = 2500;
    byte[][] singles;

    /** The desk for these: authorities "root" and "other", serial 7 of the first ISSUED. */
    static StatusDesk desk() {
        StatusDesk desk = new StatusDesk();
        Texts.feed(desk, ROOT);
        desk.authority(ROOT_SECRET);
        Texts.feed(desk, OTHER);
        desk.authority(OTHER_SECRET);
        desk.issue(0, 7);
        return desk;
    }

    static byte[] id(long serial) {
        return Texts.id(ROOT, Texts.key(ROOT_SECRET), serial);
    }

    /** Told by the key of a signer, with its cert. */
    static Made bySigner() {
        Made made = new Made();
        made.teller = Texts.byKey(Texts.key(SIGNER_SECRET));
        made.secret = SIGNER_SECRET;
        made.hasCert = true;
        return made;
    }

    byte[] certInner() {
        return Texts.certInner(certSerial, issuer, certName, from, to, certKey, flags);
    }

    byte[] cert() {
        byte[] inner = certInner();
        return Texts.row(inner, Texts.bits(certSignature != null ? certSignature : Texts.sign(issuerSecret, inner)));
    }

    byte[] body() {
        byte[][] all = singles != null ? singles : new byte[][] {Texts.single(id(serial), state, at, next)};
        return Texts.body(teller, 2000, nonce, all);
    }

    byte[] bytes() {
        byte[] body = body();
        return Texts.answer(body, signature != null ? signature : Texts.sign(secret, body), hasCert ? cert() : Texts.none());
    }

    /** The look at it for serial 7, at 2100, with a slack of 10 and an age of 100. */
    int look(StatusDesk desk) {
        return look(desk, 2100);
    }

    int look(StatusDesk desk, long time) {
        Texts.feed(desk, bytes());
        return desk.look(0, 7, time, 10, 100);
    }

    int look() {
        return look(desk());
    }

    /**
     * A signature that is RIGHT for the key -G^x mod P, which is nobody's of a SECRET: its powers change
     * their sign, so that k is sought until the sign of y^(Q - c) is that with which r was made.
     */
    static byte[] signForOddKey(BigInteger x, byte[] bytes) {
        byte[] d = Texts.hashBytes(bytes);
        for (long k = 1; k < 100; k++) {
            BigInteger power = Texts.G.modPow(BigInteger.valueOf(k), Texts.P);
            for (BigInteger r : new BigInteger[] {power, Texts.P.subtract(power)}) {
                BigInteger c = Texts.hashNumber(Texts.join(Texts.eight(r.longValueExact()), d)).mod(Texts.Q);
                boolean turned = Texts.Q.subtract(c).testBit(0);
                if (turned == r.equals(Texts.P.subtract(power))) {
                    BigInteger z = c.multiply(x).add(BigInteger.valueOf(k)).mod(Texts.Q);
                    return ByteBuffer.allocate(8).putInt(c.intValueExact()).putInt(z.intValueExact()).array();
                }
            }
        }
        throw new IllegalStateException("no such signature");
    }
}
