import java.util.Arrays;
import java.util.Random;

/** Promise 23: check, its items and its faults, by hand and against the grammar. */
public final class FaultsTest {
    private static final Due DUE = new Due();
    private static final int CERT = 0;
    private static final int ASK = 1;
    private static final int ANSWER = 2;
    private static final long LAST = 3155759999L;
    private static final byte[] NAME = Texts.text("root");
    private static final byte[] ID = Texts.id(NAME, Texts.key(5), 7);

    private FaultsTest() {
    }

    public static void main(String[] args) {
        whats();
        places();
        integers();
        times();
        lengths();
        asks();
        certs();
        answers();
        everyByte();
        randomTexts();
        DUE.end("FaultsTest");
    }

    private static int check(int what, byte[] text) {
        StatusDesk desk = new StatusDesk();
        Texts.feed(desk, text);
        int got = desk.check(what);
        if (desk.told(3) != text.length || desk.hash() != Texts.hash(text)) {
            DUE.is("23: the TAPE stays", 0, 1);
        }
        return got;
    }

    private static void whats() {
        byte[] ask = Texts.ask(Texts.none(), ID);
        DUE.is("23: an ask", check(ASK, ask), 6);
        DUE.is("23: no cert", check(CERT, ask), -10 - 4);
        DUE.is("23: no answer", check(ANSWER, ask), -10 - 2);
        for (int what : new int[] {-1, 3, Integer.MIN_VALUE, Integer.MAX_VALUE}) {
            DUE.is("23: what " + what, check(what, ask), StatusDesk.BAD);
        }
    }

    private static void places() {
        for (int what = 0; what < 3; what++) {
            DUE.is("23: an empty text", check(what, Texts.none()), -10);
            DUE.is("23: no length", check(what, new byte[] {48}), -10);
            DUE.is("23: beyond the text", check(what, new byte[] {48, 1}), -10);
            DUE.is("23: one lacks", check(what, new byte[] {48, 0}), -12);
            DUE.is("23: another sort", check(what, new byte[] {49, 0}), -10);
        }
        byte[] ask = Texts.ask(Texts.none(), ID);
        DUE.is("23: what stands behind all", check(ASK, Texts.join(ask, new byte[3])), -10 - ask.length);
        DUE.is("23: an ask twice", check(ASK, Texts.join(ask, ask)), -10 - ask.length);
        DUE.is("23: a length cut off", check(ASK, new byte[] {48, (byte) 129}), -10);
        DUE.is("23: a longer length cut off", check(ASK, new byte[] {48, (byte) 130, 1}), -10);
    }

    private static byte[] idOf(byte[] serial) {
        return Texts.row(Texts.bytes(new byte[8]), Texts.bytes(new byte[8]), serial);
    }

    private static int checkSerial(int... bytes) {
        byte[] has = new byte[bytes.length];
        for (int i = 0; i < has.length; i++) {
            has[i] = (byte) bytes[i];
        }
        return check(ASK, Texts.row(Texts.row(idOf(Texts.item(2, has)))));
    }

    private static void integers() {
        int fault = -10 - 26;
        DUE.is("23: 0", checkSerial(0), 6);
        DUE.is("23: 127", checkSerial(127), 6);
        DUE.is("23: 128", checkSerial(0, 128), 6);
        DUE.is("23: 2^31 - 1", checkSerial(127, 255, 255, 255), 6);
        DUE.is("23: no byte", checkSerial(), fault);
        DUE.is("23: the highest bit", checkSerial(128), fault);
        DUE.is("23: a byte too many", checkSerial(0, 127), fault);
        DUE.is("23: 0 in two bytes", checkSerial(0, 0), fault);
        DUE.is("23: 2^31", checkSerial(0, 128, 0, 0, 0), fault);
        DUE.is("23: 2^63 - 1", checkSerial(127, 255, 255, 255, 255, 255, 255, 255), fault);
        DUE.is("23: 2^63", checkSerial(0, 128, 0, 0, 0, 0, 0, 0, 0), fault);
        DUE.is("23: eight bytes, the highest bit", checkSerial(255, 255, 255, 255, 255, 255, 255, 255), fault);
        DUE.is("23: nine bytes", checkSerial(1, 0, 0, 0, 0, 0, 0, 0, 5), fault);
    }

    private static int checkTime(String stamp) {
        byte[] single = Texts.row(ID, Texts.good(), Texts.item(24, Texts.text(stamp)));
        byte[] body = Texts.body(Texts.byName(NAME), 0, Texts.none(), single);
        return check(ANSWER, Texts.answer(body, new byte[8], Texts.none()));
    }

    private static void times() {
        byte[] body = Texts.body(Texts.byName(NAME), 0, Texts.none(), Texts.single(ID, Texts.good(), 0, -1));
        byte[] answer = Texts.answer(body, new byte[8], Texts.none());
        int right = Grammar.check(ANSWER, answer);
        int fault = -10 - (answer.length - 11 - 17);
        for (String stamp : new String[] {"20000101000000Z", "20991231235959Z", "20000229000000Z", "20040229120000Z",
            "20960229000000Z", "20010430000000Z", "20011231235959Z"}) {
            DUE.is("23: " + stamp, checkTime(stamp), right);
        }
        for (String stamp : new String[] {"19991231235959Z", "21000101000000Z", "20010229000000Z", "20990229000000Z",
            "20000230000000Z", "20010431000000Z", "20010001000000Z", "20011301000000Z", "20010100000000Z",
            "20010132000000Z", "20010101240000Z", "20010101006000Z", "20010101000060Z", "20010101000000z",
            "20010101 00000Z", "2001010100000:Z", "2001010100000/Z", "200101010000000", "0000010100000\u00b1Z"}) {
            DUE.is("23: " + stamp, checkTime(stamp), fault);
        }
        DUE.is("23: fourteen characters", checkTime("2000010100000Z"), fault);
        DUE.is("23: sixteen characters", checkTime("200001010000000Z"), fault);
    }

    private static byte[] withLength(byte[] item, int headBytes, int... head) {
        byte[] length = new byte[head.length];
        for (int i = 0; i < head.length; i++) {
            length[i] = (byte) head[i];
        }
        return Texts.join(new byte[] {item[0]}, length, Arrays.copyOfRange(item, 1 + headBytes, item.length));
    }

    private static void lengths() {
        byte[] ask = Texts.ask(Texts.none(), ID);
        int n = ask.length - 2;
        DUE.is("23: one byte", check(ASK, withLength(ask, 1, n)), 6);
        DUE.is("23: 129 below 128", check(ASK, withLength(ask, 1, 129, n)), -10);
        DUE.is("23: 130 below 256", check(ASK, withLength(ask, 1, 130, 0, n)), -10);
        DUE.is("23: 128", check(ASK, withLength(ask, 1, 128)), -10);
        DUE.is("23: 131", check(ASK, withLength(ask, 1, 131, 0, 0, n)), -10);
        DUE.is("23: too short", check(ASK, withLength(ask, 1, n - 1)), -10 - 2);
        DUE.is("23: too long", check(ASK, withLength(ask, 1, n + 1)), -10);
        byte[] longer = Texts.ask(Texts.none(), ID, ID, ID, ID, ID, ID);
        DUE.is("23: 129", longer[1] & 255, 129);
        DUE.is("23: 129, 128 at least", check(ASK, longer), 26);
        DUE.is("23: 130 for it", check(ASK, withLength(longer, 2, 130, 0, longer[2] & 255)), -10);
        byte[] inner = Texts.row(withLength(Texts.row(ID), 1, 129, ID.length));
        DUE.is("23: in an inner ROW", check(ASK, inner), -12);
        byte[] zero = Texts.row(ID, withLength(Texts.good(), 1, 129, 0), Texts.time(0));
        byte[] body = Texts.body(Texts.byName(NAME), 0, Texts.none(), zero);
        byte[] answer = Texts.answer(body, new byte[8], Texts.none());
        DUE.is("23: of a state", check(ANSWER, answer), Grammar.check(ANSWER, answer));
        DUE.is("23: is a fault", check(ANSWER, answer) < -10, true);
    }

    private static byte[][] times(int n, byte[] one) {
        byte[][] all = new byte[n][];
        Arrays.fill(all, one);
        return all;
    }

    private static void asks() {
        DUE.is("23: no ids", check(ASK, Texts.row(Texts.row())), -10 - 4);
        DUE.is("23: eight ids", check(ASK, Texts.ask(Texts.none(), times(8, ID))), 34);
        byte[] nine = Texts.ask(Texts.none(), times(9, ID));
        DUE.is("23: nine ids", check(ASK, nine), -10 - (6 + 8 * ID.length));
        DUE.is("23: a nonce of one", check(ASK, Texts.ask(new byte[1], ID)), 8);
        DUE.is("23: a nonce of sixteen", check(ASK, Texts.ask(new byte[16], ID)), 8);
        int place = -10 - 4 - ID.length;
        DUE.is("23: a nonce of seventeen", check(ASK, Texts.ask(new byte[17], ID)), place - 2);
        byte[] empty = Texts.row(Texts.row(ID), Texts.tagged(2, Texts.bytes(Texts.none())));
        DUE.is("23: a nonce of none", check(ASK, empty), place - 2);
        DUE.is("23: no nonce in it", check(ASK, Texts.row(Texts.row(ID), Texts.tagged(2))), place - 2);
        DUE.is("23: another sort", check(ASK, Texts.row(Texts.row(ID), Texts.tagged(3, Texts.bytes(new byte[1])))), place);
        byte[] two = Texts.row(Texts.row(ID), Texts.tagged(2, Texts.bytes(new byte[1]), Texts.bytes(new byte[1])));
        DUE.is("23: two in it", check(ASK, two), place - 2 - 3);
        byte[] nonce = Texts.tagged(2, Texts.bytes(new byte[1]));
        DUE.is("23: two nonces", check(ASK, Texts.row(Texts.row(ID), nonce, nonce)), place - 5);
        byte[] shortHash = Texts.row(Texts.bytes(new byte[8]), Texts.bytes(new byte[7]), Texts.integer(7));
        DUE.is("23: a HASH of seven", check(ASK, Texts.row(Texts.row(shortHash))), -10 - 16);
        byte[] longHash = Texts.row(Texts.bytes(new byte[9]), Texts.bytes(new byte[8]), Texts.integer(7));
        DUE.is("23: a HASH of nine", check(ASK, Texts.row(Texts.row(longHash))), -10 - 6);
        byte[] noSerial = Texts.row(Texts.bytes(new byte[8]), Texts.bytes(new byte[8]));
        DUE.is("23: no serial", check(ASK, Texts.row(Texts.row(noSerial, ID))), -10 - 26);
    }

    private static byte[] cert(long key, long flags, byte[] issuer, byte[] name) {
        return Texts.signed(Texts.certInner(5, issuer, name, 0, LAST, key, flags), 5);
    }

    private static void certs() {
        byte[] longest = Texts.text("sixteen bytes ab");
        DUE.is("23: a cert", check(CERT, cert(2, 0, NAME, NAME)), 10);
        DUE.is("23: the longest", check(CERT, cert(2147483578L, 3, longest, longest)), 10);
        int key = -10 - 4 - 3 - 6 - 6 - 17 - 17;
        DUE.is("23: key 1", check(CERT, cert(1, 0, NAME, NAME)), key);
        DUE.is("23: key P", check(CERT, cert(2147483579L, 0, NAME, NAME)), key);
        DUE.is("23: flags 4", check(CERT, cert(2, 4, NAME, NAME)), key - 3);
        DUE.is("23: no issuer", check(CERT, cert(2, 0, Texts.none(), NAME)), -17);
        DUE.is("23: a longer issuer", check(CERT, cert(2, 0, new byte[17], NAME)), -17);
        DUE.is("23: no name", check(CERT, cert(2, 0, NAME, Texts.none())), -23);
        DUE.is("23: a longer name", check(CERT, cert(2, 0, NAME, new byte[17])), -23);
        byte[] inner = Texts.certInner(5, NAME, NAME, 0, 0, 2, 0);
        int behind = -12 - inner.length;
        DUE.is("23: no signature", check(CERT, Texts.row(inner)), behind);
        DUE.is("23: bits unused", check(CERT, Texts.row(inner, Texts.item(3, new byte[] {1, 0, 0, 0, 0, 0, 0, 0, 0}))), behind);
        DUE.is("23: seven bytes", check(CERT, Texts.row(inner, Texts.bits(new byte[7]))), behind);
        DUE.is("23: nine bytes", check(CERT, Texts.row(inner, Texts.bits(new byte[9]))), behind);
        DUE.is("23: more in it", check(CERT, Texts.row(inner, Texts.bits(new byte[8]), Texts.code(0))), behind - 11);
        DUE.is("23: a wrong signature is none", check(CERT, Texts.row(inner, Texts.bits(new byte[] {-1, -1, -1, -1, -1, -1, -1, -1}))), 10);
    }

    private static byte[] fullAnswer() {
        byte[] single = Texts.single(ID, Texts.takenBack(5, 1), 2000, 2500);
        byte[] body = Texts.body(Texts.byKey(9), 2000, new byte[16], single, Texts.single(ID, Texts.good(), 0, -1),
                Texts.single(ID, Texts.notKnown(), LAST, 0));
        return Texts.answer(body, Texts.sign(5, body), cert(2, 1, NAME, NAME));
    }

    private static void answers() {
        for (int status = 1; status <= 10; status++) {
            DUE.is("23: status " + status, check(ANSWER, Texts.status(status)), 2);
        }
        DUE.is("23: status 11", check(ANSWER, Texts.status(11)), -12);
        DUE.is("23: status 128", check(ANSWER, Texts.status(128)), -12);
        DUE.is("23: a status of two bytes", check(ANSWER, Texts.row(Texts.item(10, new byte[2]))), -12);
        DUE.is("23: status 0 alone", check(ANSWER, Texts.status(0)), -15);
        DUE.is("23: more behind a status", check(ANSWER, Texts.row(Texts.code(1), Texts.tagged(0))), -15);
        DUE.is("23: nothing in [0]", check(ANSWER, Texts.row(Texts.code(0), Texts.tagged(0))), -17);
        DUE.is("23: another sort than [0]", check(ANSWER, Texts.row(Texts.code(0), Texts.tagged(1))), -15);
        DUE.is("23: all of an answer", check(ANSWER, fullAnswer()), 4 + 4 + 1 + 11 + 7 + 9 + 2 + 1 + 1 + 10);
        byte[][] singles = times(8, Texts.single(ID, Texts.takenBack(5, 1), 2000, 2500));
        byte[] eight = Texts.body(Texts.byName(NAME), 5, Texts.none(), singles);
        DUE.is("23: eight singles", check(ANSWER, Texts.answer(eight, new byte[8], Texts.none())), 5 + 2 + 1 + 1 + 88 + 1);
        byte[][] nine = times(9, Texts.single(ID, Texts.good(), 0, -1));
        isAsGrammar("nine singles", Texts.body(Texts.byName(NAME), 5, Texts.none(), nine));
        isAsGrammar("no singles", Texts.body(Texts.byName(NAME), 5, Texts.none()));
        isAsGrammar("no name", Texts.body(Texts.byName(Texts.none()), 5, Texts.none(), singles));
        isAsGrammar("a longer name", Texts.body(Texts.byName(new byte[17]), 5, Texts.none(), singles));
        isAsGrammar("a short HASH", Texts.body(Texts.tagged(2, Texts.bytes(new byte[7])), 5, Texts.none(), singles));
        isAsGrammar("told by another", Texts.body(Texts.tagged(3, Texts.bytes(new byte[8])), 5, Texts.none(), singles));
        isAsGrammar("a longer nonce", Texts.body(Texts.byKey(5), 5, new byte[17], singles));
        isAsGrammar("reason 11", Texts.body(Texts.byKey(5), 5, Texts.none(), Texts.single(ID, Texts.takenBack(5, 11), 0, -1)));
        isAsGrammar("a state with bytes", Texts.body(Texts.byKey(5), 5, Texts.none(), Texts.single(ID, Texts.item(128, new byte[1]), 0, -1)));
        isAsGrammar("state 129", Texts.body(Texts.byKey(5), 5, Texts.none(), Texts.single(ID, Texts.item(129), 0, -1)));
    }

    private static void isAsGrammar(String call, byte[] body) {
        byte[] text = Texts.answer(body, new byte[8], Texts.none());
        DUE.is("23: " + call, check(ANSWER, text), Grammar.check(ANSWER, text));
        DUE.is("23: " + call + " is a fault", check(ANSWER, text) < -10, true);
    }

    /** Each byte of each text with each value, and each text cut at each place. */
    private static void everyByte() {
        byte[][] texts = {cert(2147483578L, 3, NAME, NAME), Texts.ask(new byte[3], ID, ID), fullAnswer()};
        for (int what = 0; what < 3; what++) {
            for (int i = 0; i < texts[what].length; i++) {
                everyValue(what, texts[what], i, 0);
                everyValue(what, texts[what], i, 128);
            }
            for (int n = 0; n < texts[what].length; n++) {
                byte[] text = Arrays.copyOf(texts[what], n);
                DUE.is("23: text " + what + " cut at " + n, check(what, text), Grammar.check(what, text));
            }
        }
    }

    /** Half of the values for one desk, so that it is not used for more than 512 calls. */
    private static void everyValue(int what, byte[] right, int i, int first) {
        StatusDesk desk = new StatusDesk();
        Texts.feed(desk, right);
        for (int mask = first; mask < first + 128; mask++) {
            byte[] text = right.clone();
            text[i] ^= (byte) mask;
            desk.spoil(i, mask);
            DUE.is("23: text " + what + ", byte " + i + " xor " + mask, desk.check(what), Grammar.check(what, text));
            desk.spoil(i, mask);
        }
    }

    /** Several bytes changed, gone or new at once. */
    private static void randomTexts() {
        Random random = new Random(5);
        byte[][] texts = {cert(2147483578L, 3, NAME, NAME), Texts.ask(new byte[3], ID, ID), fullAnswer()};
        for (int round = 0; round < 3000; round++) {
            byte[] text = texts[round % 3].clone();
            for (int k = random.nextInt(3); k >= 0; k--) {
                int at = random.nextInt(text.length);
                int gone = Math.min(random.nextInt(4), text.length - at);
                byte[] fresh = new byte[random.nextInt(4)];
                random.nextBytes(fresh);
                text = Texts.join(Arrays.copyOf(text, at), fresh, Arrays.copyOfRange(text, at + gone, text.length), new byte[1]);
                text = Arrays.copyOf(text, text.length - random.nextInt(2));
            }
            DUE.is("23: random text " + round, check(round % 3, text), Grammar.check(round % 3, text));
        }
    }
}
