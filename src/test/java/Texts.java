import java.io.ByteArrayOutputStream;
import java.math.BigInteger;
import java.nio.ByteBuffer;
import java.nio.charset.StandardCharsets;
import java.time.LocalDateTime;
import java.time.format.DateTimeFormatter;

/** The document's numbers and items once more, by the Java library, so that both can be compared. */
final class Texts {
    static final BigInteger P = BigInteger.valueOf(2147483579L);
    static final BigInteger Q = BigInteger.valueOf(1073741789L);
    static final BigInteger G = BigInteger.valueOf(4);
    private static final BigInteger TWO_64 = BigInteger.ONE.shiftLeft(64);
    private static final BigInteger STEP = new BigInteger("9E3779B97F4A7C15", 16);
    private static final BigInteger END = new BigInteger("BF58476D1CE4E5B9", 16);
    private static final DateTimeFormatter STAMP = DateTimeFormatter.ofPattern("uuuuMMddHHmmss'Z'");
    static final LocalDateTime START = LocalDateTime.of(2000, 1, 1, 0, 0, 0);

    private Texts() {
    }

    static byte[] text(String s) {
        return s.getBytes(StandardCharsets.ISO_8859_1);
    }

    static byte[] join(byte[]... parts) {
        ByteArrayOutputStream all = new ByteArrayOutputStream();
        for (byte[] part : parts) {
            all.writeBytes(part);
        }
        return all.toByteArray();
    }

    static byte[] eight(long value) {
        return ByteBuffer.allocate(8).putLong(value).array();
    }

    static BigInteger hashNumber(byte[] bytes) {
        BigInteger h = new BigInteger("6A09E667F3BCC909", 16);
        for (byte b : bytes) {
            h = h.xor(BigInteger.valueOf(b & 255)).multiply(STEP).mod(TWO_64);
            h = h.xor(h.shiftRight(29));
        }
        h = h.multiply(END).mod(TWO_64);
        return h.xor(h.shiftRight(32));
    }

    static long hash(byte[] bytes) {
        return hashNumber(bytes).longValue();
    }

    static byte[] hashBytes(byte[] bytes) {
        return eight(hash(bytes));
    }

    static long key(long secret) {
        return G.modPow(BigInteger.valueOf(secret), P).longValueExact();
    }

    static byte[] keyHash(long key) {
        return hashBytes(eight(key));
    }

    /** The eight bytes of a signature. */
    static byte[] sign(long secret, byte[] bytes) {
        long d = hash(bytes);
        BigInteger k = hashNumber(join(eight(secret), eight(d)))
                .mod(Q.subtract(BigInteger.ONE)).add(BigInteger.ONE);
        long r = G.modPow(k, P).longValueExact();
        BigInteger c = hashNumber(join(eight(r), eight(d))).mod(Q);
        BigInteger z = c.multiply(BigInteger.valueOf(secret)).add(k).mod(Q);
        return ByteBuffer.allocate(8).putInt(c.intValueExact()).putInt(z.intValueExact()).array();
    }

    static boolean isRight(byte[] signature, long key, byte[] bytes) {
        ByteBuffer both = ByteBuffer.wrap(signature);
        BigInteger c = BigInteger.valueOf(both.getInt() & 0xFFFFFFFFL);
        BigInteger z = BigInteger.valueOf(both.getInt() & 0xFFFFFFFFL);
        if (c.compareTo(Q) >= 0 || z.compareTo(Q) >= 0) {
            return false;
        }
        BigInteger r = G.modPow(z, P).multiply(BigInteger.valueOf(key).modPow(Q.subtract(c), P)).mod(P);
        long d = hash(bytes);
        return hashNumber(join(eight(r.longValueExact()), eight(d))).mod(Q).equals(c);
    }

    static byte[] item(int sort, byte[]... parts) {
        byte[] inner = join(parts);
        int n = inner.length;
        byte[] head;
        if (n < 128) {
            head = new byte[] {(byte) sort, (byte) n};
        } else if (n < 256) {
            head = new byte[] {(byte) sort, (byte) 129, (byte) n};
        } else {
            head = new byte[] {(byte) sort, (byte) 130, (byte) (n / 256), (byte) (n % 256)};
        }
        return join(head, inner);
    }

    static byte[] row(byte[]... parts) {
        return item(48, parts);
    }

    static byte[] tagged(int n, byte[]... parts) {
        return item(160 + n, parts);
    }

    static byte[] integer(long value) {
        return item(2, BigInteger.valueOf(value).toByteArray());
    }

    static byte[] bytes(byte[] value) {
        return item(4, value);
    }

    static byte[] code(int value) {
        return item(10, new byte[] {(byte) value});
    }

    static String stamp(long time) {
        return START.plusSeconds(time).format(STAMP);
    }

    static byte[] time(long time) {
        return item(24, text(stamp(time)));
    }

    static byte[] bits(byte[] signature) {
        return item(3, new byte[] {0}, signature);
    }

    static byte[] certInner(long serial, byte[] issuer, byte[] name, long from, long to, long key, long flags) {
        return row(integer(serial), bytes(issuer), bytes(name), time(from), time(to), integer(key), integer(flags));
    }

    static byte[] signed(byte[] inner, long secret) {
        return row(inner, bits(sign(secret, inner)));
    }

    static byte[] id(byte[] authorityName, long authorityKey, long serial) {
        return row(bytes(hashBytes(authorityName)), bytes(keyHash(authorityKey)), integer(serial));
    }

    /** Nothing at all, for parts that are perhaps there. */
    static byte[] none() {
        return new byte[0];
    }

    static byte[] ask(byte[] nonce, byte[]... ids) {
        return row(row(ids), nonce.length == 0 ? none() : tagged(2, bytes(nonce)));
    }

    static byte[] good() {
        return item(128);
    }

    static byte[] takenBack(long when, int reason) {
        return tagged(1, time(when), code(reason));
    }

    static byte[] notKnown() {
        return item(130);
    }

    /** A next below 0 is none. */
    static byte[] single(byte[] id, byte[] state, long time, long next) {
        return row(id, state, time(time), next < 0 ? none() : tagged(0, time(next)));
    }

    static byte[] byName(byte[] name) {
        return tagged(1, bytes(name));
    }

    static byte[] byKey(long key) {
        return tagged(2, bytes(keyHash(key)));
    }

    static byte[] body(byte[] teller, long made, byte[] nonce, byte[]... singles) {
        return row(teller, time(made), row(singles), nonce.length == 0 ? none() : tagged(3, bytes(nonce)));
    }

    /** A cert without bytes is none. */
    static byte[] answer(byte[] body, byte[] signature, byte[] cert) {
        return row(code(0), tagged(0, row(body, bits(signature), cert.length == 0 ? none() : tagged(0, cert))));
    }

    static byte[] status(int status) {
        return row(code(status));
    }

    static void feed(StatusDesk desk, byte[] bytes) {
        desk.cut(0);
        for (int at = 0; at < bytes.length; at += 8) {
            int n = Math.min(8, bytes.length - at);
            desk.feed(lowestFirst(bytes, at, n), n);
        }
    }

    static long lowestFirst(byte[] bytes, int at, int n) {
        long row = 0;
        for (int i = n - 1; i >= 0; i--) {
            row = row << 8 | bytes[at + i] & 255;
        }
        return row;
    }

    static byte[] out(StatusDesk desk) {
        byte[] bytes = new byte[desk.size()];
        for (int i = 0; i < bytes.length; i++) {
            bytes[i] = (byte) desk.out(i);
        }
        return bytes;
    }
}
